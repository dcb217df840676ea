section
-- ===== PART A: goes FIRST, ahead of the names: the tables' words, and 'selects' of the private methods out of them =====
/-- a private method of a class that the tables say can be made, by its rows of tables_1 -/
def lw_okq (q : MethodName × Nat) : Prop := (q.1.cls ≠ "java/lang/invoke/MethodHandle" ∧ q.1.cls ≠ "java/lang/invoke/VarHandle") ∧ Cond.instantiable q.1.cls q.2 ∈ tables_1 ∧ Cond.privateMethod q.1 ∈ tables_1 ∧ Cond.instanceMethod q.1 ∈ tables_1
theorem lw_p0 : lw_okq (⟨"SpectrumHeads", "isKind", "(I)Z"⟩, 11) := ⟨⟨by decide +kernel, by decide +kernel⟩, List.mem_of_getElem? (i := 15) (by decide +kernel), List.mem_of_getElem? (i := 175) (by decide +kernel), List.mem_of_getElem? (i := 176) (by decide +kernel)⟩
theorem lw_p1 : lw_okq (⟨"SpectrumHeads", "lookAtNow", "()V"⟩, 11) := ⟨⟨by decide +kernel, by decide +kernel⟩, List.mem_of_getElem? (i := 15) (by decide +kernel), List.mem_of_getElem? (i := 179) (by decide +kernel), List.mem_of_getElem? (i := 180) (by decide +kernel)⟩
theorem lw_p2 : lw_okq (⟨"SpectrumHeads$Channels", "evened", "(I)I"⟩, 4) := ⟨⟨by decide +kernel, by decide +kernel⟩, List.mem_of_getElem? (i := 23) (by decide +kernel), List.mem_of_getElem? (i := 187) (by decide +kernel), List.mem_of_getElem? (i := 188) (by decide +kernel)⟩
theorem lw_p3 : lw_okq (⟨"SpectrumHeads$Table", "put", "(II[II)V"⟩, 6) := ⟨⟨by decide +kernel, by decide +kernel⟩, List.mem_of_getElem? (i := 46) (by decide +kernel), List.mem_of_getElem? (i := 201) (by decide +kernel), List.mem_of_getElem? (i := 202) (by decide +kernel)⟩
theorem lw_p4 : lw_okq (⟨"SpectrumHeads", "readCells", "([II)I"⟩, 11) := ⟨⟨by decide +kernel, by decide +kernel⟩, List.mem_of_getElem? (i := 15) (by decide +kernel), List.mem_of_getElem? (i := 213) (by decide +kernel), List.mem_of_getElem? (i := 214) (by decide +kernel)⟩
theorem lw_p5 : lw_okq (⟨"SpectrumHeads$Table", "countAlike", "([I[I)V"⟩, 6) := ⟨⟨by decide +kernel, by decide +kernel⟩, List.mem_of_getElem? (i := 46) (by decide +kernel), List.mem_of_getElem? (i := 222) (by decide +kernel), List.mem_of_getElem? (i := 223) (by decide +kernel)⟩
theorem lw_p6 : lw_okq (⟨"SpectrumHeads", "greatest", "()I"⟩, 11) := ⟨⟨by decide +kernel, by decide +kernel⟩, List.mem_of_getElem? (i := 15) (by decide +kernel), List.mem_of_getElem? (i := 226) (by decide +kernel), List.mem_of_getElem? (i := 227) (by decide +kernel)⟩
theorem lw_p7 : lw_okq (⟨"SpectrumHeads", "readWithout", "(I)I"⟩, 11) := ⟨⟨by decide +kernel, by decide +kernel⟩, List.mem_of_getElem? (i := 15) (by decide +kernel), List.mem_of_getElem? (i := 253) (by decide +kernel), List.mem_of_getElem? (i := 254) (by decide +kernel)⟩
theorem lw_p8 : lw_okq (⟨"SpectrumHeads$Belt", "numberPieces", "()V"⟩, 7) := ⟨⟨by decide +kernel, by decide +kernel⟩, List.mem_of_getElem? (i := 73) (by decide +kernel), List.mem_of_getElem? (i := 296) (by decide +kernel), List.mem_of_getElem? (i := 297) (by decide +kernel)⟩
theorem lw_p9 : lw_okq (⟨"SpectrumHeads$Belt", "joinFrom", "(I)V"⟩, 7) := ⟨⟨by decide +kernel, by decide +kernel⟩, List.mem_of_getElem? (i := 73) (by decide +kernel), List.mem_of_getElem? (i := 300) (by decide +kernel), List.mem_of_getElem? (i := 301) (by decide +kernel)⟩
theorem lw_p10 : lw_okq (⟨"SpectrumHeads$Belt", "join", "(II)V"⟩, 7) := ⟨⟨by decide +kernel, by decide +kernel⟩, List.mem_of_getElem? (i := 73) (by decide +kernel), List.mem_of_getElem? (i := 304) (by decide +kernel), List.mem_of_getElem? (i := 305) (by decide +kernel)⟩
theorem lw_p11 : lw_okq (⟨"SpectrumHeads$Belt", "meetRound", "(II)V"⟩, 7) := ⟨⟨by decide +kernel, by decide +kernel⟩, List.mem_of_getElem? (i := 73) (by decide +kernel), List.mem_of_getElem? (i := 336) (by decide +kernel), List.mem_of_getElem? (i := 337) (by decide +kernel)⟩
theorem lw_p12 : lw_okq (⟨"SpectrumHeads$Table", "plainByte", "(I)I"⟩, 6) := ⟨⟨by decide +kernel, by decide +kernel⟩, List.mem_of_getElem? (i := 46) (by decide +kernel), List.mem_of_getElem? (i := 349) (by decide +kernel), List.mem_of_getElem? (i := 350) (by decide +kernel)⟩
theorem lw_p13 : lw_okq (⟨"SpectrumHeads$Table", "check", "(I)I"⟩, 6) := ⟨⟨by decide +kernel, by decide +kernel⟩, List.mem_of_getElem? (i := 46) (by decide +kernel), List.mem_of_getElem? (i := 353) (by decide +kernel), List.mem_of_getElem? (i := 354) (by decide +kernel)⟩
theorem lw_p14 : lw_okq (⟨"java/lang/Throwable", "fillInStackTrace", "(I)Ljava/lang/Throwable;"⟩, 6) := ⟨⟨by decide +kernel, by decide +kernel⟩, List.mem_of_getElem? (i := 423) (by decide +kernel), List.mem_of_getElem? (i := 421) (by decide +kernel), List.mem_of_getElem? (i := 422) (by decide +kernel)⟩
theorem lw_p15 : lw_okq (⟨"SpectrumHeadsModel", "isKind", "(I)Z"⟩, 17) := ⟨⟨by decide +kernel, by decide +kernel⟩, List.mem_of_getElem? (i := 457) (by decide +kernel), List.mem_of_getElem? (i := 545) (by decide +kernel), List.mem_of_getElem? (i := 546) (by decide +kernel)⟩
def lw_privs_1 : List (MethodName × Nat) := [(⟨"SpectrumHeads", "isKind", "(I)Z"⟩, 11), (⟨"SpectrumHeads", "lookAtNow", "()V"⟩, 11), (⟨"SpectrumHeads$Channels", "evened", "(I)I"⟩, 4), (⟨"SpectrumHeads$Table", "put", "(II[II)V"⟩, 6), (⟨"SpectrumHeads", "readCells", "([II)I"⟩, 11), (⟨"SpectrumHeads$Table", "countAlike", "([I[I)V"⟩, 6), (⟨"SpectrumHeads", "greatest", "()I"⟩, 11), (⟨"SpectrumHeads", "readWithout", "(I)I"⟩, 11), (⟨"SpectrumHeads$Belt", "numberPieces", "()V"⟩, 7), (⟨"SpectrumHeads$Belt", "joinFrom", "(I)V"⟩, 7), (⟨"SpectrumHeads$Belt", "join", "(II)V"⟩, 7), (⟨"SpectrumHeads$Belt", "meetRound", "(II)V"⟩, 7), (⟨"SpectrumHeads$Table", "plainByte", "(I)I"⟩, 6), (⟨"SpectrumHeads$Table", "check", "(I)I"⟩, 6), (⟨"java/lang/Throwable", "fillInStackTrace", "(I)Ljava/lang/Throwable;"⟩, 6), (⟨"SpectrumHeadsModel", "isKind", "(I)Z"⟩, 17)]
theorem lw_r1 : ∀ q ∈ lw_privs_1, lw_okq q := List.forall_mem_cons.mpr ⟨lw_p0, List.forall_mem_cons.mpr ⟨lw_p1, List.forall_mem_cons.mpr ⟨lw_p2, List.forall_mem_cons.mpr ⟨lw_p3, List.forall_mem_cons.mpr ⟨lw_p4, List.forall_mem_cons.mpr ⟨lw_p5, List.forall_mem_cons.mpr ⟨lw_p6, List.forall_mem_cons.mpr ⟨lw_p7, List.forall_mem_cons.mpr ⟨lw_p8, List.forall_mem_cons.mpr ⟨lw_p9, List.forall_mem_cons.mpr ⟨lw_p10, List.forall_mem_cons.mpr ⟨lw_p11, List.forall_mem_cons.mpr ⟨lw_p12, List.forall_mem_cons.mpr ⟨lw_p13, List.forall_mem_cons.mpr ⟨lw_p14, List.forall_mem_cons.mpr ⟨lw_p15, fun _ h => absurd h List.not_mem_nil⟩⟩⟩⟩⟩⟩⟩⟩⟩⟩⟩⟩⟩⟩⟩⟩
theorem lw_p16 : lw_okq (⟨"SpectrumHeadsModel", "takeNow", "()V"⟩, 17) := ⟨⟨by decide +kernel, by decide +kernel⟩, List.mem_of_getElem? (i := 457) (by decide +kernel), List.mem_of_getElem? (i := 549) (by decide +kernel), List.mem_of_getElem? (i := 550) (by decide +kernel)⟩
theorem lw_p17 : lw_okq (⟨"SpectrumHeadsModel", "evened", "(I)I"⟩, 17) := ⟨⟨by decide +kernel, by decide +kernel⟩, List.mem_of_getElem? (i := 457) (by decide +kernel), List.mem_of_getElem? (i := 553) (by decide +kernel), List.mem_of_getElem? (i := 554) (by decide +kernel)⟩
theorem lw_p18 : lw_okq (⟨"SpectrumHeadsModel", "readRow", "(I)I"⟩, 17) := ⟨⟨by decide +kernel, by decide +kernel⟩, List.mem_of_getElem? (i := 457) (by decide +kernel), List.mem_of_getElem? (i := 561) (by decide +kernel), List.mem_of_getElem? (i := 562) (by decide +kernel)⟩
theorem lw_p19 : lw_okq (⟨"SpectrumHeadsModel", "sumOf", "(II)J"⟩, 17) := ⟨⟨by decide +kernel, by decide +kernel⟩, List.mem_of_getElem? (i := 457) (by decide +kernel), List.mem_of_getElem? (i := 565) (by decide +kernel), List.mem_of_getElem? (i := 566) (by decide +kernel)⟩
theorem lw_p20 : lw_okq (⟨"SpectrumHeadsModel", "takeTaught", "(I)V"⟩, 17) := ⟨⟨by decide +kernel, by decide +kernel⟩, List.mem_of_getElem? (i := 457) (by decide +kernel), List.mem_of_getElem? (i := 588) (by decide +kernel), List.mem_of_getElem? (i := 589) (by decide +kernel)⟩
theorem lw_p21 : lw_okq (⟨"SpectrumHeadsModel", "find", "()I"⟩, 17) := ⟨⟨by decide +kernel, by decide +kernel⟩, List.mem_of_getElem? (i := 457) (by decide +kernel), List.mem_of_getElem? (i := 612) (by decide +kernel), List.mem_of_getElem? (i := 613) (by decide +kernel)⟩
theorem lw_p22 : lw_okq (⟨"SpectrumHeadsModel", "spread", "(I)V"⟩, 17) := ⟨⟨by decide +kernel, by decide +kernel⟩, List.mem_of_getElem? (i := 457) (by decide +kernel), List.mem_of_getElem? (i := 616) (by decide +kernel), List.mem_of_getElem? (i := 617) (by decide +kernel)⟩
theorem lw_p23 : lw_okq (⟨"SpectrumHeadsModel", "isKnown", "(II)Z"⟩, 17) := ⟨⟨by decide +kernel, by decide +kernel⟩, List.mem_of_getElem? (i := 457) (by decide +kernel), List.mem_of_getElem? (i := 620) (by decide +kernel), List.mem_of_getElem? (i := 621) (by decide +kernel)⟩
theorem lw_p24 : lw_okq (⟨"SpectrumHeadsModel", "isBeside", "(III)Z"⟩, 17) := ⟨⟨by decide +kernel, by decide +kernel⟩, List.mem_of_getElem? (i := 457) (by decide +kernel), List.mem_of_getElem? (i := 624) (by decide +kernel), List.mem_of_getElem? (i := 625) (by decide +kernel)⟩
theorem lw_p25 : lw_okq (⟨"SpectrumHeadsModel", "isOf", "(III)Z"⟩, 17) := ⟨⟨by decide +kernel, by decide +kernel⟩, List.mem_of_getElem? (i := 457) (by decide +kernel), List.mem_of_getElem? (i := 628) (by decide +kernel), List.mem_of_getElem? (i := 629) (by decide +kernel)⟩
theorem lw_p26 : lw_okq (⟨"SpectrumHeadsModel", "pixelsOf", "(II)I"⟩, 17) := ⟨⟨by decide +kernel, by decide +kernel⟩, List.mem_of_getElem? (i := 457) (by decide +kernel), List.mem_of_getElem? (i := 636) (by decide +kernel), List.mem_of_getElem? (i := 637) (by decide +kernel)⟩
theorem lw_p27 : lw_okq (⟨"SpectrumHeadsModel", "areNear", "(II)Z"⟩, 17) := ⟨⟨by decide +kernel, by decide +kernel⟩, List.mem_of_getElem? (i := 457) (by decide +kernel), List.mem_of_getElem? (i := 644) (by decide +kernel), List.mem_of_getElem? (i := 645) (by decide +kernel)⟩
theorem lw_p28 : lw_okq (⟨"SpectrumHeadsModel", "packed", "(I)I"⟩, 17) := ⟨⟨by decide +kernel, by decide +kernel⟩, List.mem_of_getElem? (i := 457) (by decide +kernel), List.mem_of_getElem? (i := 652) (by decide +kernel), List.mem_of_getElem? (i := 653) (by decide +kernel)⟩
def lw_privs_2 : List (MethodName × Nat) := [(⟨"SpectrumHeadsModel", "takeNow", "()V"⟩, 17), (⟨"SpectrumHeadsModel", "evened", "(I)I"⟩, 17), (⟨"SpectrumHeadsModel", "readRow", "(I)I"⟩, 17), (⟨"SpectrumHeadsModel", "sumOf", "(II)J"⟩, 17), (⟨"SpectrumHeadsModel", "takeTaught", "(I)V"⟩, 17), (⟨"SpectrumHeadsModel", "find", "()I"⟩, 17), (⟨"SpectrumHeadsModel", "spread", "(I)V"⟩, 17), (⟨"SpectrumHeadsModel", "isKnown", "(II)Z"⟩, 17), (⟨"SpectrumHeadsModel", "isBeside", "(III)Z"⟩, 17), (⟨"SpectrumHeadsModel", "isOf", "(III)Z"⟩, 17), (⟨"SpectrumHeadsModel", "pixelsOf", "(II)I"⟩, 17), (⟨"SpectrumHeadsModel", "areNear", "(II)Z"⟩, 17), (⟨"SpectrumHeadsModel", "packed", "(I)I"⟩, 17)]
theorem lw_r2 : ∀ q ∈ lw_privs_2, lw_okq q := List.forall_mem_cons.mpr ⟨lw_p16, List.forall_mem_cons.mpr ⟨lw_p17, List.forall_mem_cons.mpr ⟨lw_p18, List.forall_mem_cons.mpr ⟨lw_p19, List.forall_mem_cons.mpr ⟨lw_p20, List.forall_mem_cons.mpr ⟨lw_p21, List.forall_mem_cons.mpr ⟨lw_p22, List.forall_mem_cons.mpr ⟨lw_p23, List.forall_mem_cons.mpr ⟨lw_p24, List.forall_mem_cons.mpr ⟨lw_p25, List.forall_mem_cons.mpr ⟨lw_p26, List.forall_mem_cons.mpr ⟨lw_p27, List.forall_mem_cons.mpr ⟨lw_p28, fun _ h => absurd h List.not_mem_nil⟩⟩⟩⟩⟩⟩⟩⟩⟩⟩⟩⟩⟩
def lw_privs : List (MethodName × Nat) := lw_privs_1 ++ (lw_privs_2)
def lw_tbl : List Cond := k2_sels lw_privs ++ tables_1
theorem lw_privs_ok : ∀ q ∈ lw_privs, lw_okq q := by
  show ∀ q ∈ lw_privs_1 ++ (lw_privs_2), lw_okq q
  exact List.forall_mem_append.mpr ⟨lw_r1, lw_r2⟩
/-! ===== BEGIN words of one list among another's, by their places ===== -/
theorem goodIn_r {big : List Cond} (ws : List Cond) (ps : List Nat) (hp : ws = ps.filterMap (fun i => big[i]?)) (h : ws.all goodWord = true) : GoodIn big ws := by
  intro w hw
  have h1 := List.all_eq_true.mp h w hw
  rw [hp] at hw
  obtain ⟨i, -, hi⟩ := List.mem_filterMap.mp hw
  have hm : w ∈ big := by first | exact List.mem_of_getElem? hi | exact List.getElem?_mem hi
  exact ⟨hm, good_of_word h1⟩
theorem goodIn_app {big a b : List Cond} (ha : GoodIn big a) (hb : GoodIn big b) : GoodIn big (a ++ b) := fun w h => (List.mem_append.mp h).elim (ha w) (hb w)
theorem goodIn_ca {big a b : List Cond} {c : Cond} (ha : GoodIn big (c :: a)) (hb : GoodIn big b) : GoodIn big (c :: (a ++ b)) := fun w h => (List.mem_cons.mp h).elim (fun e => ha w (List.mem_cons.mpr (Or.inl e))) (fun h => (List.mem_append.mp h).elim (fun h => ha w (List.mem_cons.mpr (Or.inr h))) (hb w))
theorem goodIn_sub {big ws : List Cond} (hm : ∀ w ∈ ws, w ∈ big) (h : ws.all goodWord = true) : GoodIn big ws := fun w hw => ⟨hm w hw, good_of_word (List.all_eq_true.mp h w hw)⟩
/-! ===== END ===== -/

/-! ===== BEGIN printed: names, fields, word lists, decode rows ===== -/
def RX0 : String := "SpectrumHeads$Belt"
def TX0 : u_T := fun k => match k with
  | 0 => ("SpectrumHeads$Belt", "kindAt", "[I", true)
  | 1 => ("SpectrumHeads$Belt", "numberAt", "[I", true)
  | 2 => ("SpectrumHeads$Belt", "joined", "[I", true)
  | 3 => ("SpectrumHeads$Belt", "met", "[I", true)
  | 4 => ("SpectrumHeads$Belt", "joinedCount", "I", false)
  | 5 => ("SpectrumHeads$Belt", "pixels", "I", false)
  | _ => ("SpectrumHeads$Belt", "pieces", "I", false)
def tyX0 : Nat → FieldType := fun k => match k with
  | 0 => .array .int
  | 1 => .array .int
  | 2 => .array .int
  | 3 => .array .int
  | 4 => .int
  | 5 => .int
  | _ => .int
abbrev wsX00 : List Cond := u_ws RX0 TX0 7
theorem nmX0 : ∀ a, a < 7 → ∀ b, b < 7 → a ≠ b → (TX0 a).2.1 ≠ (TX0 b).2.1 := by decide +kernel
theorem tyX0_ok : ∀ k, k < 7 → parseFieldDescriptor (TX0 k).2.2.1 = some (tyX0 k) := by decide +kernel
abbrev cX0_init : ByteArray := prog_2_method_1_code
def yX0_init : MethodName := ⟨RX0, "<init>", "()V"⟩
abbrev cX0_isPlace : ByteArray := prog_2_method_2_code
def yX0_isPlace : MethodName := ⟨RX0, "isPlace", "(II)Z"⟩
abbrev cX0_isFree : ByteArray := prog_2_method_3_code
def yX0_isFree : MethodName := ⟨RX0, "isFree", "(II)Z"⟩
abbrev cX0_hasPiece : ByteArray := prog_2_method_4_code
def yX0_hasPiece : MethodName := ⟨RX0, "hasPiece", "(I)Z"⟩
abbrev cX0_pieceAt : ByteArray := prog_2_method_5_code
def yX0_pieceAt : MethodName := ⟨RX0, "pieceAt", "(II)I"⟩
abbrev cX0_tell : ByteArray := prog_2_method_6_code
def yX0_tell : MethodName := ⟨RX0, "tell", "(III)V"⟩
abbrev cX0_numberPieces : ByteArray := prog_2_method_7_code
def yX0_numberPieces : MethodName := ⟨RX0, "numberPieces", "()V"⟩
abbrev cX0_joinFrom : ByteArray := prog_2_method_8_code
def yX0_joinFrom : MethodName := ⟨RX0, "joinFrom", "(I)V"⟩
abbrev cX0_join : ByteArray := prog_2_method_9_code
def yX0_join : MethodName := ⟨RX0, "join", "(II)V"⟩
abbrev cX0_countIn : ByteArray := prog_2_method_10_code
def yX0_countIn : MethodName := ⟨RX0, "countIn", "(II)I"⟩
abbrev cX0_countNeighbours : ByteArray := prog_2_method_11_code
def yX0_countNeighbours : MethodName := ⟨RX0, "countNeighbours", "(I)I"⟩
abbrev cX0_meetRound : ByteArray := prog_2_method_12_code
def yX0_meetRound : MethodName := ⟨RX0, "meetRound", "(II)V"⟩
def RX1 : String := "SpectrumHeads$Channels"
def TX1 : u_T := fun k => match k with
  | 0 => ("SpectrumHeads$Channels", "darks", "[I", true)
  | 1 => ("SpectrumHeads$Channels", "whites", "[I", true)
  | 2 => ("SpectrumHeads$Channels", "values", "[I", true)
  | _ => ("SpectrumHeads$Channels", "lastTick", "J", false)
def tyX1 : Nat → FieldType := fun k => match k with
  | 0 => .array .int
  | 1 => .array .int
  | 2 => .array .int
  | _ => .long
abbrev wsX10 : List Cond := u_ws RX1 TX1 4
theorem nmX1 : ∀ a, a < 4 → ∀ b, b < 4 → a ≠ b → (TX1 a).2.1 ≠ (TX1 b).2.1 := by decide +kernel
theorem tyX1_ok : ∀ k, k < 4 → parseFieldDescriptor (TX1 k).2.2.1 = some (tyX1 k) := by decide +kernel
abbrev cX1_init : ByteArray := prog_3_method_1_code
def yX1_init : MethodName := ⟨RX1, "<init>", "()V"⟩
abbrev cX1_setWhite : ByteArray := prog_3_method_2_code
def yX1_setWhite : MethodName := ⟨RX1, "setWhite", "(II)Z"⟩
abbrev cX1_setDark : ByteArray := prog_3_method_3_code
def yX1_setDark : MethodName := ⟨RX1, "setDark", "(II)Z"⟩
abbrev cX1_setValue : ByteArray := prog_3_method_4_code
def yX1_setValue : MethodName := ⟨RX1, "setValue", "(II)Z"⟩
abbrev cX1_setWhiteAt : ByteArray := prog_3_method_5_code
def yX1_setWhiteAt : MethodName := ⟨RX1, "setWhiteAt", "(IIJ)Z"⟩
abbrev cX1_fillRow : ByteArray := prog_3_method_6_code
def yX1_fillRow : MethodName := ⟨RX1, "fillRow", "([I)V"⟩
abbrev cX1_evened : ByteArray := prog_3_method_7_code
def yX1_evened : MethodName := ⟨RX1, "evened", "(I)I"⟩
def RX2 : String := "SpectrumHeads$Table"
def TX2 : u_T := fun k => match k with
  | 0 => ("SpectrumHeads$Table", "kinds", "I", true)
  | 1 => ("SpectrumHeads$Table", "rowKinds", "[I", true)
  | 2 => ("SpectrumHeads$Table", "rows", "[[I", true)
  | 3 => ("SpectrumHeads$Table", "rowCells", "[[I", true)
  | 4 => ("SpectrumHeads$Table", "alike", "[I", true)
  | _ => ("SpectrumHeads$Table", "count", "I", false)
def tyX2 : Nat → FieldType := fun k => match k with
  | 0 => .int
  | 1 => .array .int
  | 2 => .array (.array .int)
  | 3 => .array (.array .int)
  | 4 => .array .int
  | _ => .int
abbrev wsX20 : List Cond := u_ws RX2 TX2 6
theorem nmX2 : ∀ a, a < 6 → ∀ b, b < 6 → a ≠ b → (TX2 a).2.1 ≠ (TX2 b).2.1 := by decide +kernel
theorem tyX2_ok : ∀ k, k < 6 → parseFieldDescriptor (TX2 k).2.2.1 = some (tyX2 k) := by decide +kernel
abbrev cX2_init : ByteArray := prog_4_method_1_code
def yX2_init : MethodName := ⟨RX2, "<init>", "(I)V"⟩
abbrev cX2_fillCells : ByteArray := prog_4_method_2_code
def yX2_fillCells : MethodName := ⟨RX2, "fillCells", "([I[I)V"⟩
abbrev cX2_size : ByteArray := prog_4_method_3_code
def yX2_size : MethodName := ⟨RX2, "size", "()I"⟩
abbrev cX2_has : ByteArray := prog_4_method_4_code
def yX2_has : MethodName := ⟨RX2, "has", "(I)Z"⟩
abbrev cX2_kindOf : ByteArray := prog_4_method_5_code
def yX2_kindOf : MethodName := ⟨RX2, "kindOf", "(I)I"⟩
abbrev cX2_cellsOf : ByteArray := prog_4_method_6_code
def yX2_cellsOf : MethodName := ⟨RX2, "cellsOf", "(I)[I"⟩
abbrev cX2_setKind : ByteArray := prog_4_method_7_code
def yX2_setKind : MethodName := ⟨RX2, "setKind", "(II)V"⟩
abbrev cX2_add : ByteArray := prog_4_method_8_code
def yX2_add : MethodName := ⟨RX2, "add", "(I[I)I"⟩
abbrev cX2_put : ByteArray := prog_4_method_9_code
def yX2_put : MethodName := ⟨RX2, "put", "(II[II)V"⟩
abbrev cX2_sumOf : ByteArray := prog_4_method_10_code
def yX2_sumOf : MethodName := ⟨RX2, "sumOf", "(I[II)J"⟩
abbrev cX2_countAlike : ByteArray := prog_4_method_11_code
def yX2_countAlike : MethodName := ⟨RX2, "countAlike", "([I[I)V"⟩
abbrev cX2_packedByte : ByteArray := prog_4_method_12_code
def yX2_packedByte : MethodName := ⟨RX2, "packedByte", "(I)I"⟩
abbrev cX2_plainByte : ByteArray := prog_4_method_13_code
def yX2_plainByte : MethodName := ⟨RX2, "plainByte", "(I)I"⟩
abbrev cX2_check : ByteArray := prog_4_method_14_code
def yX2_check : MethodName := ⟨RX2, "check", "(I)I"⟩
abbrev cX2_fits : ByteArray := prog_4_method_15_code
def yX2_fits : MethodName := ⟨RX2, "fits", "([II)Z"⟩
abbrev cX2_load : ByteArray := prog_4_method_16_code
def yX2_load : MethodName := ⟨RX2, "load", "([I)V"⟩
def RX3 : String := "SpectrumHeads"
def TX3 : u_T := fun k => match k with
  | 0 => ("SpectrumHeads", "kinds", "I", true)
  | 1 => ("SpectrumHeads", "channels", "LSpectrumHeads$Channels;", true)
  | 2 => ("SpectrumHeads", "table", "LSpectrumHeads$Table;", true)
  | 3 => ("SpectrumHeads", "belt", "LSpectrumHeads$Belt;", true)
  | 4 => ("SpectrumHeads", "worths", "[J", true)
  | 5 => ("SpectrumHeads", "least", "J", false)
  | 6 => ("SpectrumHeads", "fed", "[I", true)
  | 7 => ("SpectrumHeads", "fedCount", "I", false)
  | 8 => ("SpectrumHeads", "nowRow", "[I", true)
  | 9 => ("SpectrumHeads", "nowCells", "[I", true)
  | _ => ("SpectrumHeads", "scores", "[J", true)
def tyX3 : Nat → FieldType := fun k => match k with
  | 0 => .int
  | 1 => .object "SpectrumHeads$Channels"
  | 2 => .object "SpectrumHeads$Table"
  | 3 => .object "SpectrumHeads$Belt"
  | 4 => .array .long
  | 5 => .long
  | 6 => .array .int
  | 7 => .int
  | 8 => .array .int
  | 9 => .array .int
  | _ => .array .long
abbrev wsX30 : List Cond := u_ws RX3 TX3 11
theorem nmX3 : ∀ a, a < 11 → ∀ b, b < 11 → a ≠ b → (TX3 a).2.1 ≠ (TX3 b).2.1 := by decide +kernel
theorem tyX3_ok : ∀ k, k < 11 → parseFieldDescriptor (TX3 k).2.2.1 = some (tyX3 k) := by decide +kernel
abbrev cX3_init : ByteArray := prog_1_method_1_code
def yX3_init : MethodName := ⟨RX3, "<init>", "(I)V"⟩
abbrev cX3_white : ByteArray := prog_1_method_2_code
def yX3_white : MethodName := ⟨RX3, "white", "(II)Z"⟩
abbrev cX3_dark : ByteArray := prog_1_method_3_code
def yX3_dark : MethodName := ⟨RX3, "dark", "(II)Z"⟩
abbrev cX3_value : ByteArray := prog_1_method_4_code
def yX3_value : MethodName := ⟨RX3, "value", "(II)Z"⟩
abbrev cX3_reference : ByteArray := prog_1_method_5_code
def yX3_reference : MethodName := ⟨RX3, "reference", "(IIJ)Z"⟩
abbrev cX3_teach : ByteArray := prog_1_method_6_code
def yX3_teach : MethodName := ⟨RX3, "teach", "(I)I"⟩
abbrev cX3_read : ByteArray := prog_1_method_7_code
def yX3_read : MethodName := ⟨RX3, "read", "()I"⟩
abbrev cX3_sum : ByteArray := prog_1_method_8_code
def yX3_sum : MethodName := ⟨RX3, "sum", "(I)J"⟩
abbrev cX3_bound : ByteArray := prog_1_method_9_code
def yX3_bound : MethodName := ⟨RX3, "bound", "(J)Z"⟩
abbrev cX3_worth : ByteArray := prog_1_method_10_code
def yX3_worth : MethodName := ⟨RX3, "worth", "(IJ)Z"⟩
abbrev cX3_leftOut : ByteArray := prog_1_method_11_code
def yX3_leftOut : MethodName := ⟨RX3, "leftOut", "(I)I"⟩
abbrev cX3_wrong : ByteArray := prog_1_method_12_code
def yX3_wrong : MethodName := ⟨RX3, "wrong", "(II)J"⟩
abbrev cX3_correct : ByteArray := prog_1_method_13_code
def yX3_correct : MethodName := ⟨RX3, "correct", "(II)I"⟩
abbrev cX3_pixel : ByteArray := prog_1_method_14_code
def yX3_pixel : MethodName := ⟨RX3, "pixel", "(II)Z"⟩
abbrev cX3_piece : ByteArray := prog_1_method_15_code
def yX3_piece : MethodName := ⟨RX3, "piece", "(II)I"⟩
abbrev cX3_pieceKind : ByteArray := prog_1_method_16_code
def yX3_pieceKind : MethodName := ⟨RX3, "pieceKind", "(I)I"⟩
abbrev cX3_neighbours : ByteArray := prog_1_method_17_code
def yX3_neighbours : MethodName := ⟨RX3, "neighbours", "(I)I"⟩
abbrev cX3_pack : ByteArray := prog_1_method_18_code
def yX3_pack : MethodName := ⟨RX3, "pack", "(I)I"⟩
abbrev cX3_feed : ByteArray := prog_1_method_19_code
def yX3_feed : MethodName := ⟨RX3, "feed", "(I)Z"⟩
abbrev cX3_open : ByteArray := prog_1_method_20_code
def yX3_open : MethodName := ⟨RX3, "open", "()I"⟩
abbrev cX3_isChannel : ByteArray := prog_1_method_21_code
def yX3_isChannel : MethodName := ⟨RX3, "isChannel", "(I)Z"⟩
abbrev cX3_isByte : ByteArray := prog_1_method_22_code
def yX3_isByte : MethodName := ⟨RX3, "isByte", "(I)Z"⟩
abbrev cX3_isKind : ByteArray := prog_1_method_23_code
def yX3_isKind : MethodName := ⟨RX3, "isKind", "(I)Z"⟩
abbrev cX3_lookAtNow : ByteArray := prog_1_method_24_code
def yX3_lookAtNow : MethodName := ⟨RX3, "lookAtNow", "()V"⟩
abbrev cX3_readWithout : ByteArray := prog_1_method_25_code
def yX3_readWithout : MethodName := ⟨RX3, "readWithout", "(I)I"⟩
abbrev cX3_readCells : ByteArray := prog_1_method_26_code
def yX3_readCells : MethodName := ⟨RX3, "readCells", "([II)I"⟩
abbrev cX3_greatest : ByteArray := prog_1_method_27_code
def yX3_greatest : MethodName := ⟨RX3, "greatest", "()I"⟩
def RX4 : String := "SpectrumHeadsModel"
def TX4 : u_T := fun k => match k with
  | 0 => ("SpectrumHeadsModel", "kinds", "I", true)
  | 1 => ("SpectrumHeadsModel", "darks", "[I", true)
  | 2 => ("SpectrumHeadsModel", "whites", "[I", true)
  | 3 => ("SpectrumHeadsModel", "values", "[I", true)
  | 4 => ("SpectrumHeadsModel", "lastTick", "J", false)
  | 5 => ("SpectrumHeadsModel", "taught", "I", false)
  | 6 => ("SpectrumHeadsModel", "taughtKind", "[I", true)
  | 7 => ("SpectrumHeadsModel", "taughtRow", "[I", true)
  | 8 => ("SpectrumHeadsModel", "least", "J", false)
  | 9 => ("SpectrumHeadsModel", "worths", "[J", true)
  | 10 => ("SpectrumHeadsModel", "pixels", "I", false)
  | 11 => ("SpectrumHeadsModel", "field", "[I", true)
  | 12 => ("SpectrumHeadsModel", "fed", "[I", true)
  | 13 => ("SpectrumHeadsModel", "fedCount", "I", false)
  | 14 => ("SpectrumHeadsModel", "fault", "I", false)
  | 15 => ("SpectrumHeadsModel", "row", "[I", true)
  | _ => ("SpectrumHeadsModel", "pieces", "[I", true)
def tyX4 : Nat → FieldType := fun k => match k with
  | 0 => .int
  | 1 => .array .int
  | 2 => .array .int
  | 3 => .array .int
  | 4 => .long
  | 5 => .int
  | 6 => .array .int
  | 7 => .array .int
  | 8 => .long
  | 9 => .array .long
  | 10 => .int
  | 11 => .array .int
  | 12 => .array .int
  | 13 => .int
  | 14 => .int
  | 15 => .array .int
  | _ => .array .int
abbrev wsX40 : List Cond := u_ws RX4 TX4 17
theorem nmX4 : ∀ a, a < 17 → ∀ b, b < 17 → a ≠ b → (TX4 a).2.1 ≠ (TX4 b).2.1 := by decide +kernel
theorem tyX4_ok : ∀ k, k < 17 → parseFieldDescriptor (TX4 k).2.2.1 = some (tyX4 k) := by decide +kernel
abbrev cX4_init : ByteArray := prog_6_method_1_code
def yX4_init : MethodName := ⟨RX4, "<init>", "(I)V"⟩
abbrev cX4_thrown : ByteArray := prog_6_method_2_code
def yX4_thrown : MethodName := ⟨RX4, "thrown", "()I"⟩
abbrev cX4_isByte : ByteArray := prog_6_method_3_code
def yX4_isByte : MethodName := ⟨RX4, "isByte", "(I)Z"⟩
abbrev cX4_isChannel : ByteArray := prog_6_method_4_code
def yX4_isChannel : MethodName := ⟨RX4, "isChannel", "(I)Z"⟩
abbrev cX4_isKind : ByteArray := prog_6_method_5_code
def yX4_isKind : MethodName := ⟨RX4, "isKind", "(I)Z"⟩
abbrev cX4_white : ByteArray := prog_6_method_6_code
def yX4_white : MethodName := ⟨RX4, "white", "(II)Z"⟩
abbrev cX4_dark : ByteArray := prog_6_method_7_code
def yX4_dark : MethodName := ⟨RX4, "dark", "(II)Z"⟩
abbrev cX4_value : ByteArray := prog_6_method_8_code
def yX4_value : MethodName := ⟨RX4, "value", "(II)Z"⟩
abbrev cX4_reference : ByteArray := prog_6_method_9_code
def yX4_reference : MethodName := ⟨RX4, "reference", "(IIJ)Z"⟩
abbrev cX4_evened : ByteArray := prog_6_method_10_code
def yX4_evened : MethodName := ⟨RX4, "evened", "(I)I"⟩
abbrev cX4_takeNow : ByteArray := prog_6_method_11_code
def yX4_takeNow : MethodName := ⟨RX4, "takeNow", "()V"⟩
abbrev cX4_takeTaught : ByteArray := prog_6_method_12_code
def yX4_takeTaught : MethodName := ⟨RX4, "takeTaught", "(I)V"⟩
abbrev cX4_sumOf : ByteArray := prog_6_method_13_code
def yX4_sumOf : MethodName := ⟨RX4, "sumOf", "(II)J"⟩
abbrev cX4_readRow : ByteArray := prog_6_method_14_code
def yX4_readRow : MethodName := ⟨RX4, "readRow", "(I)I"⟩
abbrev cX4_teach : ByteArray := prog_6_method_15_code
def yX4_teach : MethodName := ⟨RX4, "teach", "(I)I"⟩
abbrev cX4_read : ByteArray := prog_6_method_16_code
def yX4_read : MethodName := ⟨RX4, "read", "()I"⟩
abbrev cX4_sum : ByteArray := prog_6_method_17_code
def yX4_sum : MethodName := ⟨RX4, "sum", "(I)J"⟩
abbrev cX4_bound : ByteArray := prog_6_method_18_code
def yX4_bound : MethodName := ⟨RX4, "bound", "(J)Z"⟩
abbrev cX4_worth : ByteArray := prog_6_method_19_code
def yX4_worth : MethodName := ⟨RX4, "worth", "(IJ)Z"⟩
abbrev cX4_leftOut : ByteArray := prog_6_method_20_code
def yX4_leftOut : MethodName := ⟨RX4, "leftOut", "(I)I"⟩
abbrev cX4_wrong : ByteArray := prog_6_method_21_code
def yX4_wrong : MethodName := ⟨RX4, "wrong", "(II)J"⟩
abbrev cX4_correct : ByteArray := prog_6_method_22_code
def yX4_correct : MethodName := ⟨RX4, "correct", "(II)I"⟩
abbrev cX4_isPlace : ByteArray := prog_6_method_23_code
def yX4_isPlace : MethodName := ⟨RX4, "isPlace", "(II)Z"⟩
abbrev cX4_pixel : ByteArray := prog_6_method_24_code
def yX4_pixel : MethodName := ⟨RX4, "pixel", "(II)Z"⟩
abbrev cX4_isKnown : ByteArray := prog_6_method_25_code
def yX4_isKnown : MethodName := ⟨RX4, "isKnown", "(II)Z"⟩
abbrev cX4_find : ByteArray := prog_6_method_26_code
def yX4_find : MethodName := ⟨RX4, "find", "()I"⟩
abbrev cX4_spread : ByteArray := prog_6_method_27_code
def yX4_spread : MethodName := ⟨RX4, "spread", "(I)V"⟩
abbrev cX4_isOf : ByteArray := prog_6_method_28_code
def yX4_isOf : MethodName := ⟨RX4, "isOf", "(III)Z"⟩
abbrev cX4_isBeside : ByteArray := prog_6_method_29_code
def yX4_isBeside : MethodName := ⟨RX4, "isBeside", "(III)Z"⟩
abbrev cX4_piece : ByteArray := prog_6_method_30_code
def yX4_piece : MethodName := ⟨RX4, "piece", "(II)I"⟩
abbrev cX4_pixelsOf : ByteArray := prog_6_method_31_code
def yX4_pixelsOf : MethodName := ⟨RX4, "pixelsOf", "(II)I"⟩
abbrev cX4_pieceKind : ByteArray := prog_6_method_32_code
def yX4_pieceKind : MethodName := ⟨RX4, "pieceKind", "(I)I"⟩
abbrev cX4_neighbours : ByteArray := prog_6_method_33_code
def yX4_neighbours : MethodName := ⟨RX4, "neighbours", "(I)I"⟩
abbrev cX4_areNear : ByteArray := prog_6_method_34_code
def yX4_areNear : MethodName := ⟨RX4, "areNear", "(II)Z"⟩
abbrev cX4_pack : ByteArray := prog_6_method_35_code
def yX4_pack : MethodName := ⟨RX4, "pack", "(I)I"⟩
abbrev cX4_packed : ByteArray := prog_6_method_36_code
def yX4_packed : MethodName := ⟨RX4, "packed", "(I)I"⟩
abbrev cX4_feed : ByteArray := prog_6_method_37_code
def yX4_feed : MethodName := ⟨RX4, "feed", "(I)Z"⟩
abbrev cX4_open : ByteArray := prog_6_method_38_code
def yX4_open : MethodName := ⟨RX4, "open", "()I"⟩
def RJx00060 : String := "java/lang/ArrayIndexOutOfBoundsException"
def TJx00060 : u_T := fun k => match k with
  | 0 => ("java/lang/Throwable", "cause", "Ljava/lang/Throwable;", false)
  | 1 => ("java/lang/Throwable", "stackTrace", "[Ljava/lang/StackTraceElement;", false)
  | 2 => ("java/lang/Throwable", "suppressedExceptions", "Ljava/util/List;", false)
  | 3 => ("java/lang/Throwable", "detailMessage", "Ljava/lang/String;", false)
  | 4 => ("java/lang/Throwable", "backtrace", "Ljava/lang/Object;", false)
  | _ => ("java/lang/Throwable", "depth", "I", false)
def tyJx00060 : Nat → FieldType := fun k => match k with
  | 0 => .object "java/lang/Throwable"
  | 1 => .array (.object "java/lang/StackTraceElement")
  | 2 => .object "java/util/List"
  | 3 => .object "java/lang/String"
  | 4 => .object "java/lang/Object"
  | _ => .int
abbrev wsJx000600 : List Cond := u_ws RJx00060 TJx00060 6
theorem nmJx00060 : ∀ a, a < 6 → ∀ b, b < 6 → a ≠ b → (TJx00060 a).2.1 ≠ (TJx00060 b).2.1 := by decide +kernel
theorem tyJx00060_ok : ∀ k, k < 6 → parseFieldDescriptor (TJx00060 k).2.2.1 = some (tyJx00060 k) := by decide +kernel
abbrev cJx00060_init_a7421 : ByteArray := prog_7_method_2_code
def yJx00060_init_a7421 : MethodName := ⟨RJx00060, "<init>", "(Ljava/lang/String;)V"⟩
def RJ9 : String := "java/lang/Math"
def TJ9 : u_T := fun k => match k with
  | _ => ("", "", "", false)
def tyJ9 : Nat → FieldType := fun k => match k with
  | _ => .int
abbrev wsJ90 : List Cond := u_ws RJ9 TJ9 0
theorem nmJ9 : ∀ a, a < 0 → ∀ b, b < 0 → a ≠ b → (TJ9 a).2.1 ≠ (TJ9 b).2.1 := by decide +kernel
theorem tyJ9_ok : ∀ k, k < 0 → parseFieldDescriptor (TJ9 k).2.2.1 = some (tyJ9 k) := by decide +kernel
abbrev cJ9_min_7cf53 : ByteArray := prog_10_method_69_code
def yJ9_min_7cf53 : MethodName := ⟨RJ9, "min", "(II)I"⟩
def RJ0 : String := "java/lang/String"
def TJ0 : u_T := fun k => match k with
  | _ => ("", "", "", false)
def tyJ0 : Nat → FieldType := fun k => match k with
  | _ => .int
abbrev wsJ00 : List Cond := u_ws RJ0 TJ0 0
theorem nmJ0 : ∀ a, a < 0 → ∀ b, b < 0 → a ≠ b → (TJ0 a).2.1 ≠ (TJ0 b).2.1 := by decide +kernel
theorem tyJ0_ok : ∀ k, k < 0 → parseFieldDescriptor (TJ0 k).2.2.1 = some (tyJ0 k) := by decide +kernel
def RJ10 : String := "java/lang/System"
def TJ10 : u_T := fun k => match k with
  | _ => ("", "", "", false)
def tyJ10 : Nat → FieldType := fun k => match k with
  | _ => .int
abbrev wsJ100 : List Cond := u_ws RJ10 TJ10 0
theorem nmJ10 : ∀ a, a < 0 → ∀ b, b < 0 → a ≠ b → (TJ10 a).2.1 ≠ (TJ10 b).2.1 := by decide +kernel
theorem tyJ10_ok : ∀ k, k < 0 → parseFieldDescriptor (TJ10 k).2.2.1 = some (tyJ10 k) := by decide +kernel
def RJ7 : String := "java/util/Arrays"
def TJ7 : u_T := fun k => match k with
  | _ => ("", "", "", false)
def tyJ7 : Nat → FieldType := fun k => match k with
  | _ => .int
abbrev wsJ70 : List Cond := u_ws RJ7 TJ7 0
theorem nmJ7 : ∀ a, a < 0 → ∀ b, b < 0 → a ≠ b → (TJ7 a).2.1 ≠ (TJ7 b).2.1 := by decide +kernel
theorem tyJ7_ok : ∀ k, k < 0 → parseFieldDescriptor (TJ7 k).2.2.1 = some (tyJ7 k) := by decide +kernel
abbrev cJ7_fill_53178 : ByteArray := prog_15_method_103_code
def yJ7_fill_53178 : MethodName := ⟨RJ7, "fill", "([II)V"⟩
def RL : String := "SpectrumHeadsLaw"
abbrev cL_cell : ByteArray := method_2_code
def yL_cell : MethodName := ⟨RL, "cell", "([II)I"⟩
abbrev cL_white : ByteArray := method_3_code
def yL_white : MethodName := ⟨RL, "white", "(LSpectrumHeads;II[J)I"⟩
abbrev cL_law : ByteArray := code
def yL_law : MethodName := ⟨RL, "law", "([I)Z"⟩
def wsJ7_fill_53178 : List Cond := .code yJ7_fill_53178 cJ7_fill_53178 4 none :: ([])
def wsX0_init : List Cond := .code yX0_init cX0_init 1 none :: ([.methodLink RX0 3 objectInit, .instanceMethod objectInit, .code objectInit ⟨#[0xb1]⟩ 1 none, .arrayClass .int, .fieldLink RX0 11 "SpectrumHeads$Belt" "kindAt" "[I", .fieldLink RX0 15 "SpectrumHeads$Belt" "numberAt" "[I", .fieldLink RX0 18 "SpectrumHeads$Belt" "joined" "[I", .fieldLink RX0 21 "SpectrumHeads$Belt" "met" "[I", .fieldLink RX0 30 "SpectrumHeads$Belt" "joinedCount" "I", .fieldLink RX0 34 "SpectrumHeads$Belt" "pixels" "I", .fieldLink RX0 37 "SpectrumHeads$Belt" "pieces" "I", .methodLink RX0 24 yJ7_fill_53178, .static yJ7_fill_53178, .initialized RJ7, .code yJ7_fill_53178 cJ7_fill_53178 4 none] ++ wsX00)
def wsX0_isPlace : List Cond := .code yX0_isPlace cX0_isPlace 2 (some .boolean) :: ([])
def wsX0_isFree : List Cond := .code yX0_isFree cX0_isFree 3 (some .boolean) :: ([.fieldLink RX0 34 "SpectrumHeads$Belt" "pixels" "I", .fieldLink RX0 11 "SpectrumHeads$Belt" "kindAt" "[I", .methodLink RX0 40 yX0_isPlace, .static yX0_isPlace, .initialized RX0, .code yX0_isPlace cX0_isPlace 2 (some .boolean)] ++ wsX00)
def wsX0_hasPiece : List Cond := .code yX0_hasPiece cX0_hasPiece 2 (some .boolean) :: ([.fieldLink RX0 37 "SpectrumHeads$Belt" "pieces" "I"] ++ wsX00)
def wsX0_pieceAt : List Cond := .code yX0_pieceAt cX0_pieceAt 3 (some .int) :: ([.fieldLink RX0 15 "SpectrumHeads$Belt" "numberAt" "[I", .methodLink RX0 40 yX0_isPlace, .static yX0_isPlace, .initialized RX0, .code yX0_isPlace cX0_isPlace 2 (some .boolean)] ++ wsX00)
def wsX0_join : List Cond := .code yX0_join cX0_join 4 none :: ([.fieldLink RX0 30 "SpectrumHeads$Belt" "joinedCount" "I", .fieldLink RX0 11 "SpectrumHeads$Belt" "kindAt" "[I", .fieldLink RX0 15 "SpectrumHeads$Belt" "numberAt" "[I", .fieldLink RX0 37 "SpectrumHeads$Belt" "pieces" "I", .fieldLink RX0 18 "SpectrumHeads$Belt" "joined" "[I", .methodLink RX0 40 yX0_isPlace, .static yX0_isPlace, .initialized RX0, .code yX0_isPlace cX0_isPlace 2 (some .boolean)] ++ wsX00)
def wsX0_joinFrom : List Cond := .code yX0_joinFrom cX0_joinFrom 5 none :: ([.fieldLink RX0 30 "SpectrumHeads$Belt" "joinedCount" "I", .fieldLink RX0 18 "SpectrumHeads$Belt" "joined" "[I", .methodLink RX0 51 yX0_join, .instanceMethod yX0_join, .selects RX0 yX0_join yX0_join, .initialized RX0, .code yX0_join cX0_join 4 none, .fieldLink RX0 11 "SpectrumHeads$Belt" "kindAt" "[I", .fieldLink RX0 15 "SpectrumHeads$Belt" "numberAt" "[I", .fieldLink RX0 37 "SpectrumHeads$Belt" "pieces" "I", .methodLink RX0 40 yX0_isPlace, .static yX0_isPlace, .code yX0_isPlace cX0_isPlace 2 (some .boolean)] ++ wsX00)
def wsX0_numberPieces : List Cond := .code yX0_numberPieces cX0_numberPieces 2 none :: ([.fieldLink RX0 15 "SpectrumHeads$Belt" "numberAt" "[I", .fieldLink RX0 37 "SpectrumHeads$Belt" "pieces" "I", .fieldLink RX0 11 "SpectrumHeads$Belt" "kindAt" "[I", .methodLink RX0 24 yJ7_fill_53178, .static yJ7_fill_53178, .initialized RJ7, .code yJ7_fill_53178 cJ7_fill_53178 4 none, .methodLink RX0 47 yX0_joinFrom, .instanceMethod yX0_joinFrom, .selects RX0 yX0_joinFrom yX0_joinFrom, .initialized RX0, .code yX0_joinFrom cX0_joinFrom 5 none, .fieldLink RX0 30 "SpectrumHeads$Belt" "joinedCount" "I", .fieldLink RX0 18 "SpectrumHeads$Belt" "joined" "[I", .methodLink RX0 51 yX0_join, .instanceMethod yX0_join, .selects RX0 yX0_join yX0_join, .code yX0_join cX0_join 4 none, .methodLink RX0 40 yX0_isPlace, .static yX0_isPlace, .code yX0_isPlace cX0_isPlace 2 (some .boolean)] ++ wsX00)
def wsX0_tell_r1 : List Cond := [Cond.fieldLink RX0 11 "SpectrumHeads$Belt" "kindAt" "[I", Cond.fieldLink RX0 34 "SpectrumHeads$Belt" "pixels" "I", Cond.methodLink RX0 44 yX0_numberPieces, Cond.instanceMethod yX0_numberPieces, Cond.selects RX0 yX0_numberPieces yX0_numberPieces, Cond.initialized RX0, Cond.code yX0_numberPieces cX0_numberPieces 2 none, Cond.fieldLink RX0 15 "SpectrumHeads$Belt" "numberAt" "[I", Cond.fieldLink RX0 37 "SpectrumHeads$Belt" "pieces" "I", Cond.methodLink RX0 24 yJ7_fill_53178, Cond.static yJ7_fill_53178, Cond.initialized RJ7, Cond.code yJ7_fill_53178 cJ7_fill_53178 4 none, Cond.methodLink RX0 47 yX0_joinFrom, Cond.instanceMethod yX0_joinFrom, Cond.selects RX0 yX0_joinFrom yX0_joinFrom, Cond.code yX0_joinFrom cX0_joinFrom 5 none, Cond.fieldLink RX0 30 "SpectrumHeads$Belt" "joinedCount" "I", Cond.fieldLink RX0 18 "SpectrumHeads$Belt" "joined" "[I", Cond.methodLink RX0 51 yX0_join, Cond.instanceMethod yX0_join, Cond.selects RX0 yX0_join yX0_join, Cond.code yX0_join cX0_join 4 none, Cond.methodLink RX0 40 yX0_isPlace]
def wsX0_tell_r2 : List Cond := [Cond.static yX0_isPlace, Cond.code yX0_isPlace cX0_isPlace 2 (some .boolean)]
def wsX0_tell : List Cond := .code yX0_tell cX0_tell 4 none :: ((wsX0_tell_r1 ++ wsX0_tell_r2) ++ wsX00)
def wsX0_countIn : List Cond := .code yX0_countIn cX0_countIn 5 (some .int) :: ([.fieldLink RX0 15 "SpectrumHeads$Belt" "numberAt" "[I", .fieldLink RX0 11 "SpectrumHeads$Belt" "kindAt" "[I"] ++ wsX00)
def wsX0_meetRound : List Cond := .code yX0_meetRound cX0_meetRound 6 none :: ([.fieldLink RX0 21 "SpectrumHeads$Belt" "met" "[I", .methodLink RX0 58 yX0_pieceAt, .instanceMethod yX0_pieceAt, .selects RX0 yX0_pieceAt yX0_pieceAt, .initialized RX0, .code yX0_pieceAt cX0_pieceAt 3 (some .int), .fieldLink RX0 15 "SpectrumHeads$Belt" "numberAt" "[I", .methodLink RX0 40 yX0_isPlace, .static yX0_isPlace, .code yX0_isPlace cX0_isPlace 2 (some .boolean)] ++ wsX00)
def wsX0_countNeighbours : List Cond := .code yX0_countNeighbours cX0_countNeighbours 4 (some .int) :: ([.fieldLink RX0 21 "SpectrumHeads$Belt" "met" "[I", .fieldLink RX0 15 "SpectrumHeads$Belt" "numberAt" "[I", .methodLink RX0 24 yJ7_fill_53178, .static yJ7_fill_53178, .initialized RJ7, .code yJ7_fill_53178 cJ7_fill_53178 4 none, .methodLink RX0 55 yX0_meetRound, .instanceMethod yX0_meetRound, .selects RX0 yX0_meetRound yX0_meetRound, .initialized RX0, .code yX0_meetRound cX0_meetRound 6 none, .methodLink RX0 58 yX0_pieceAt, .instanceMethod yX0_pieceAt, .selects RX0 yX0_pieceAt yX0_pieceAt, .code yX0_pieceAt cX0_pieceAt 3 (some .int), .methodLink RX0 40 yX0_isPlace, .static yX0_isPlace, .code yX0_isPlace cX0_isPlace 2 (some .boolean)] ++ wsX00)
def wsX1_init : List Cond := .code yX1_init cX1_init 1 none :: ([.methodLink RX1 3 objectInit, .instanceMethod objectInit, .code objectInit ⟨#[0xb1]⟩ 1 none, .arrayClass .int, .fieldLink RX1 9 "SpectrumHeads$Channels" "darks" "[I", .fieldLink RX1 15 "SpectrumHeads$Channels" "whites" "[I", .fieldLink RX1 18 "SpectrumHeads$Channels" "values" "[I", .fieldLink RX1 27 "SpectrumHeads$Channels" "lastTick" "J", .methodLink RX1 21 yJ7_fill_53178, .static yJ7_fill_53178, .initialized RJ7, .code yJ7_fill_53178 cJ7_fill_53178 4 none] ++ wsX10)
def wsX1_setWhite : List Cond := .code yX1_setWhite cX1_setWhite 3 (some .boolean) :: ([.fieldLink RX1 15 "SpectrumHeads$Channels" "whites" "[I"] ++ wsX10)
def wsX1_setDark : List Cond := .code yX1_setDark cX1_setDark 3 (some .boolean) :: ([.fieldLink RX1 9 "SpectrumHeads$Channels" "darks" "[I"] ++ wsX10)
def wsX1_setValue : List Cond := .code yX1_setValue cX1_setValue 3 (some .boolean) :: ([.fieldLink RX1 18 "SpectrumHeads$Channels" "values" "[I"] ++ wsX10)
def wsX1_setWhiteAt : List Cond := .code yX1_setWhiteAt cX1_setWhiteAt 5 (some .boolean) :: ([.fieldLink RX1 27 "SpectrumHeads$Channels" "lastTick" "J", .methodLink RX1 31 yX1_setWhite, .instanceMethod yX1_setWhite, .selects RX1 yX1_setWhite yX1_setWhite, .initialized RX1, .code yX1_setWhite cX1_setWhite 3 (some .boolean), .fieldLink RX1 15 "SpectrumHeads$Channels" "whites" "[I"] ++ wsX10)
def wsX1_evened : List Cond := .code yX1_evened cX1_evened 4 (some .int) :: ([.fieldLink RX1 15 "SpectrumHeads$Channels" "whites" "[I", .fieldLink RX1 9 "SpectrumHeads$Channels" "darks" "[I", .fieldLink RX1 18 "SpectrumHeads$Channels" "values" "[I", .methodLink RX1 39 Lib.Math.min.name, .static Lib.Math.min.name, .initialized "java/lang/Math", .code Lib.Math.min.name Lib.Math.min.code 2 (some .int)] ++ wsX10)
def wsX1_fillRow : List Cond := .code yX1_fillRow cX1_fillRow 3 none :: ([.methodLink RX1 35 yX1_evened, .instanceMethod yX1_evened, .selects RX1 yX1_evened yX1_evened, .initialized RX1, .code yX1_evened cX1_evened 4 (some .int), .fieldLink RX1 15 "SpectrumHeads$Channels" "whites" "[I", .fieldLink RX1 9 "SpectrumHeads$Channels" "darks" "[I", .fieldLink RX1 18 "SpectrumHeads$Channels" "values" "[I", .methodLink RX1 39 Lib.Math.min.name, .static Lib.Math.min.name, .initialized "java/lang/Math", .code Lib.Math.min.name Lib.Math.min.code 2 (some .int)] ++ wsX10)
def wsX2_init : List Cond := .code yX2_init cX2_init 2 none :: ([.methodLink RX2 3 objectInit, .instanceMethod objectInit, .code objectInit ⟨#[0xb1]⟩ 1 none, .arrayClass .int, .fieldLink RX2 9 "SpectrumHeads$Table" "rowKinds" "[I", .classLink RX2 15 "[[I", .fieldLink RX2 17 "SpectrumHeads$Table" "rows" "[[I", .fieldLink RX2 20 "SpectrumHeads$Table" "rowCells" "[[I", .fieldLink RX2 23 "SpectrumHeads$Table" "alike" "[I", .fieldLink RX2 26 "SpectrumHeads$Table" "kinds" "I", .fieldLink RX2 30 "SpectrumHeads$Table" "count" "I"] ++ wsX20)
def wsX2_fillCells : List Cond := .code yX2_fillCells cX2_fillCells 3 none :: ([])
def wsX2_size : List Cond := .code yX2_size cX2_size 1 (some .int) :: ([.fieldLink RX2 30 "SpectrumHeads$Table" "count" "I"] ++ wsX20)
def wsX2_has : List Cond := .code yX2_has cX2_has 2 (some .boolean) :: ([.fieldLink RX2 30 "SpectrumHeads$Table" "count" "I"] ++ wsX20)
def wsX2_kindOf : List Cond := .code yX2_kindOf cX2_kindOf 2 (some .int) :: ([.fieldLink RX2 9 "SpectrumHeads$Table" "rowKinds" "[I"] ++ wsX20)
def wsX2_cellsOf : List Cond := .code yX2_cellsOf cX2_cellsOf 2 (some (.array .int)) :: ([.fieldLink RX2 20 "SpectrumHeads$Table" "rowCells" "[[I"] ++ wsX20)
def wsX2_setKind : List Cond := .code yX2_setKind cX2_setKind 3 none :: ([.fieldLink RX2 9 "SpectrumHeads$Table" "rowKinds" "[I"] ++ wsX20)
def wsX2_put : List Cond := .code yX2_put cX2_put 5 none :: ([.fieldLink RX2 9 "SpectrumHeads$Table" "rowKinds" "[I", .fieldLink RX2 17 "SpectrumHeads$Table" "rows" "[[I", .methodLink RX2 37 arraycopyName, .native arraycopyName, .static arraycopyName, .initialized "java/lang/System", .fieldLink RX2 20 "SpectrumHeads$Table" "rowCells" "[[I", .methodLink RX2 43 yX2_fillCells, .static yX2_fillCells, .initialized RX2, .code yX2_fillCells cX2_fillCells 3 none] ++ wsX20)
def wsX2_add : List Cond := .code yX2_add cX2_add 4 (some .int) :: ([.fieldLink RX2 30 "SpectrumHeads$Table" "count" "I", .methodLink RX2 33 yX2_put, .instanceMethod yX2_put, .selects RX2 yX2_put yX2_put, .initialized RX2, .code yX2_put cX2_put 5 none, .fieldLink RX2 9 "SpectrumHeads$Table" "rowKinds" "[I", .fieldLink RX2 17 "SpectrumHeads$Table" "rows" "[[I", .methodLink RX2 37 arraycopyName, .native arraycopyName, .static arraycopyName, .initialized "java/lang/System", .fieldLink RX2 20 "SpectrumHeads$Table" "rowCells" "[[I", .methodLink RX2 43 yX2_fillCells, .static yX2_fillCells, .code yX2_fillCells cX2_fillCells 3 none] ++ wsX20)
def wsX2_countAlike : List Cond := .code yX2_countAlike cX2_countAlike 4 none :: ([.fieldLink RX2 23 "SpectrumHeads$Table" "alike" "[I"] ++ wsX20)
def wsX2_sumOf : List Cond := .code yX2_sumOf cX2_sumOf 8 (some .long) :: ([.fieldLink RX2 23 "SpectrumHeads$Table" "alike" "[I", .fieldLink RX2 30 "SpectrumHeads$Table" "count" "I", .fieldLink RX2 9 "SpectrumHeads$Table" "rowKinds" "[I", .fieldLink RX2 20 "SpectrumHeads$Table" "rowCells" "[[I", .methodLink RX2 47 yJ7_fill_53178, .static yJ7_fill_53178, .initialized RJ7, .code yJ7_fill_53178 cJ7_fill_53178 4 none, .methodLink RX2 53 yX2_countAlike, .instanceMethod yX2_countAlike, .selects RX2 yX2_countAlike yX2_countAlike, .initialized RX2, .code yX2_countAlike cX2_countAlike 4 none] ++ wsX20)
def wsX2_plainByte : List Cond := .code yX2_plainByte cX2_plainByte 4 (some .int) :: ([.fieldLink RX2 26 "SpectrumHeads$Table" "kinds" "I", .fieldLink RX2 30 "SpectrumHeads$Table" "count" "I", .fieldLink RX2 9 "SpectrumHeads$Table" "rowKinds" "[I", .fieldLink RX2 17 "SpectrumHeads$Table" "rows" "[[I"] ++ wsX20)
def wsX2_check : List Cond := .code yX2_check cX2_check 4 (some .int) :: ([.methodLink RX2 56 yX2_plainByte, .instanceMethod yX2_plainByte, .selects RX2 yX2_plainByte yX2_plainByte, .initialized RX2, .code yX2_plainByte cX2_plainByte 4 (some .int), .fieldLink RX2 26 "SpectrumHeads$Table" "kinds" "I", .fieldLink RX2 30 "SpectrumHeads$Table" "count" "I", .fieldLink RX2 9 "SpectrumHeads$Table" "rowKinds" "[I", .fieldLink RX2 17 "SpectrumHeads$Table" "rows" "[[I"] ++ wsX20)
def wsX2_packedByte : List Cond := .code yX2_packedByte cX2_packedByte 3 (some .int) :: ([.fieldLink RX2 30 "SpectrumHeads$Table" "count" "I", .methodLink RX2 56 yX2_plainByte, .instanceMethod yX2_plainByte, .selects RX2 yX2_plainByte yX2_plainByte, .initialized RX2, .code yX2_plainByte cX2_plainByte 4 (some .int), .fieldLink RX2 26 "SpectrumHeads$Table" "kinds" "I", .fieldLink RX2 9 "SpectrumHeads$Table" "rowKinds" "[I", .fieldLink RX2 17 "SpectrumHeads$Table" "rows" "[[I", .methodLink RX2 60 yX2_check, .instanceMethod yX2_check, .selects RX2 yX2_check yX2_check, .code yX2_check cX2_check 4 (some .int)] ++ wsX20)
def wsX2_fits : List Cond := .code yX2_fits cX2_fits 6 (some .boolean) :: ([.fieldLink RX2 26 "SpectrumHeads$Table" "kinds" "I"] ++ wsX20)
def wsX2_load : List Cond := .code yX2_load cX2_load 4 none :: ([.methodLink RX2 63 Lib.Math.min.name, .static Lib.Math.min.name, .initialized "java/lang/Math", .code Lib.Math.min.name Lib.Math.min.code 2 (some .int), .fieldLink RX2 30 "SpectrumHeads$Table" "count" "I", .methodLink RX2 33 yX2_put, .instanceMethod yX2_put, .selects RX2 yX2_put yX2_put, .initialized RX2, .code yX2_put cX2_put 5 none, .fieldLink RX2 9 "SpectrumHeads$Table" "rowKinds" "[I", .fieldLink RX2 17 "SpectrumHeads$Table" "rows" "[[I", .methodLink RX2 37 arraycopyName, .native arraycopyName, .static arraycopyName, .initialized "java/lang/System", .fieldLink RX2 20 "SpectrumHeads$Table" "rowCells" "[[I", .methodLink RX2 43 yX2_fillCells, .static yX2_fillCells, .code yX2_fillCells cX2_fillCells 3 none] ++ wsX20)
def wsX3_init_r1 : List Cond := [Cond.methodLink RX3 1 objectInit, Cond.instanceMethod objectInit, Cond.code objectInit ⟨#[0xb1]⟩ 1 none, Cond.fieldLink RX3 9 "SpectrumHeads" "kinds" "I", Cond.classLink RX3 13 RX1, Cond.instantiable RX1 4, Cond.initialized RX1, Cond.fieldLink RX3 16 "SpectrumHeads" "channels" "LSpectrumHeads$Channels;", Cond.classLink RX3 20 RX2, Cond.instantiable RX2 6, Cond.initialized RX2, Cond.fieldLink RX3 25 "SpectrumHeads" "table" "LSpectrumHeads$Table;", Cond.classLink RX3 29 RX0, Cond.instantiable RX0 7, Cond.initialized RX0, Cond.fieldLink RX3 32 "SpectrumHeads" "belt" "LSpectrumHeads$Belt;", Cond.arrayClass .long, Cond.fieldLink RX3 36 "SpectrumHeads" "worths" "[J", Cond.fieldLink RX3 40 "SpectrumHeads" "least" "J", Cond.arrayClass .int, Cond.fieldLink RX3 44 "SpectrumHeads" "fed" "[I", Cond.fieldLink RX3 48 "SpectrumHeads" "fedCount" "I", Cond.fieldLink RX3 51 "SpectrumHeads" "nowRow" "[I", Cond.fieldLink RX3 54 "SpectrumHeads" "nowCells" "[I"]
def wsX3_init_r2 : List Cond := [Cond.fieldLink RX3 57 "SpectrumHeads" "scores" "[J", Cond.methodLink RX3 15 yX1_init, Cond.instanceMethod yX1_init, Cond.code yX1_init cX1_init 1 none, Cond.methodLink RX1 3 objectInit, Cond.fieldLink RX1 9 "SpectrumHeads$Channels" "darks" "[I", Cond.fieldLink RX1 15 "SpectrumHeads$Channels" "whites" "[I", Cond.fieldLink RX1 18 "SpectrumHeads$Channels" "values" "[I", Cond.fieldLink RX1 27 "SpectrumHeads$Channels" "lastTick" "J", Cond.methodLink RX1 21 yJ7_fill_53178, Cond.static yJ7_fill_53178, Cond.initialized RJ7, Cond.code yJ7_fill_53178 cJ7_fill_53178 4 none, Cond.methodLink RX3 22 yX2_init, Cond.instanceMethod yX2_init, Cond.code yX2_init cX2_init 2 none, Cond.methodLink RX2 3 objectInit, Cond.fieldLink RX2 9 "SpectrumHeads$Table" "rowKinds" "[I", Cond.classLink RX2 15 "[[I", Cond.fieldLink RX2 17 "SpectrumHeads$Table" "rows" "[[I", Cond.fieldLink RX2 20 "SpectrumHeads$Table" "rowCells" "[[I", Cond.fieldLink RX2 23 "SpectrumHeads$Table" "alike" "[I", Cond.fieldLink RX2 26 "SpectrumHeads$Table" "kinds" "I", Cond.fieldLink RX2 30 "SpectrumHeads$Table" "count" "I"]
def wsX3_init_r3 : List Cond := [Cond.methodLink RX3 31 yX0_init, Cond.instanceMethod yX0_init, Cond.code yX0_init cX0_init 1 none, Cond.methodLink RX0 3 objectInit, Cond.fieldLink RX0 11 "SpectrumHeads$Belt" "kindAt" "[I", Cond.fieldLink RX0 15 "SpectrumHeads$Belt" "numberAt" "[I", Cond.fieldLink RX0 18 "SpectrumHeads$Belt" "joined" "[I", Cond.fieldLink RX0 21 "SpectrumHeads$Belt" "met" "[I", Cond.fieldLink RX0 30 "SpectrumHeads$Belt" "joinedCount" "I", Cond.fieldLink RX0 34 "SpectrumHeads$Belt" "pixels" "I", Cond.fieldLink RX0 37 "SpectrumHeads$Belt" "pieces" "I", Cond.methodLink RX0 24 yJ7_fill_53178]
def wsX3_init : List Cond := .code yX3_init cX3_init 2 none :: ((wsX3_init_r1 ++ (wsX3_init_r2 ++ wsX3_init_r3)) ++ wsX30 ++ wsX10 ++ wsX20 ++ wsX00)
def wsX3_isChannel : List Cond := .code yX3_isChannel cX3_isChannel 1 (some .boolean) :: ([])
def wsX3_isByte : List Cond := .code yX3_isByte cX3_isByte 1 (some .boolean) :: ([])
def wsX3_white : List Cond := .code yX3_white cX3_white 3 (some .boolean) :: ([.classLink RX3 64 RJx00060, .instantiable RJx00060 6, .initialized RJx00060, .fieldLink RX3 16 "SpectrumHeads" "channels" "LSpectrumHeads$Channels;", .methodLink RX3 60 yX3_isChannel, .static yX3_isChannel, .initialized RX3, .code yX3_isChannel cX3_isChannel 1 (some .boolean), .methodLink RX3 71 yX3_isByte, .static yX3_isByte, .code yX3_isByte cX3_isByte 1 (some .boolean), .methodLink RX3 74 yX1_setWhite, .instanceMethod yX1_setWhite, .selects RX1 yX1_setWhite yX1_setWhite, .initialized RX1, .code yX1_setWhite cX1_setWhite 3 (some .boolean), .fieldLink RX1 15 "SpectrumHeads$Channels" "whites" "[I"] ++ wsJx000600 ++ wsX30 ++ wsX10)
def wsX3_dark : List Cond := .code yX3_dark cX3_dark 3 (some .boolean) :: ([.fieldLink RX3 16 "SpectrumHeads" "channels" "LSpectrumHeads$Channels;", .methodLink RX3 60 yX3_isChannel, .static yX3_isChannel, .initialized RX3, .code yX3_isChannel cX3_isChannel 1 (some .boolean), .methodLink RX3 71 yX3_isByte, .static yX3_isByte, .code yX3_isByte cX3_isByte 1 (some .boolean), .methodLink RX3 78 yX1_setDark, .instanceMethod yX1_setDark, .selects RX1 yX1_setDark yX1_setDark, .initialized RX1, .code yX1_setDark cX1_setDark 3 (some .boolean), .fieldLink RX1 9 "SpectrumHeads$Channels" "darks" "[I"] ++ wsX30 ++ wsX10)
def wsX3_value : List Cond := .code yX3_value cX3_value 3 (some .boolean) :: ([.fieldLink RX3 16 "SpectrumHeads" "channels" "LSpectrumHeads$Channels;", .methodLink RX3 60 yX3_isChannel, .static yX3_isChannel, .initialized RX3, .code yX3_isChannel cX3_isChannel 1 (some .boolean), .methodLink RX3 71 yX3_isByte, .static yX3_isByte, .code yX3_isByte cX3_isByte 1 (some .boolean), .methodLink RX3 81 yX1_setValue, .instanceMethod yX1_setValue, .selects RX1 yX1_setValue yX1_setValue, .initialized RX1, .code yX1_setValue cX1_setValue 3 (some .boolean), .fieldLink RX1 18 "SpectrumHeads$Channels" "values" "[I"] ++ wsX30 ++ wsX10)
def wsX3_reference : List Cond := .code yX3_reference cX3_reference 5 (some .boolean) :: ([.fieldLink RX3 16 "SpectrumHeads" "channels" "LSpectrumHeads$Channels;", .methodLink RX3 60 yX3_isChannel, .static yX3_isChannel, .initialized RX3, .code yX3_isChannel cX3_isChannel 1 (some .boolean), .methodLink RX3 71 yX3_isByte, .static yX3_isByte, .code yX3_isByte cX3_isByte 1 (some .boolean), .methodLink RX3 84 yX1_setWhiteAt, .instanceMethod yX1_setWhiteAt, .selects RX1 yX1_setWhiteAt yX1_setWhiteAt, .initialized RX1, .code yX1_setWhiteAt cX1_setWhiteAt 5 (some .boolean), .fieldLink RX1 27 "SpectrumHeads$Channels" "lastTick" "J", .methodLink RX1 31 yX1_setWhite, .instanceMethod yX1_setWhite, .selects RX1 yX1_setWhite yX1_setWhite, .code yX1_setWhite cX1_setWhite 3 (some .boolean), .fieldLink RX1 15 "SpectrumHeads$Channels" "whites" "[I"] ++ wsX30 ++ wsX10)
def wsX3_isKind : List Cond := .code yX3_isKind cX3_isKind 2 (some .boolean) :: ([.fieldLink RX3 9 "SpectrumHeads" "kinds" "I"] ++ wsX30)
def wsX3_lookAtNow : List Cond := .code yX3_lookAtNow cX3_lookAtNow 1 none :: ([.fieldLink RX3 16 "SpectrumHeads" "channels" "LSpectrumHeads$Channels;", .fieldLink RX3 51 "SpectrumHeads" "nowRow" "[I", .fieldLink RX3 54 "SpectrumHeads" "nowCells" "[I", .methodLink RX3 164 yX1_fillRow, .instanceMethod yX1_fillRow, .selects RX1 yX1_fillRow yX1_fillRow, .initialized RX1, .code yX1_fillRow cX1_fillRow 3 none, .methodLink RX1 35 yX1_evened, .instanceMethod yX1_evened, .selects RX1 yX1_evened yX1_evened, .code yX1_evened cX1_evened 4 (some .int), .fieldLink RX1 15 "SpectrumHeads$Channels" "whites" "[I", .fieldLink RX1 9 "SpectrumHeads$Channels" "darks" "[I", .fieldLink RX1 18 "SpectrumHeads$Channels" "values" "[I", .methodLink RX1 39 Lib.Math.min.name, .static Lib.Math.min.name, .initialized "java/lang/Math", .code Lib.Math.min.name Lib.Math.min.code 2 (some .int), .methodLink RX3 167 yX2_fillCells, .static yX2_fillCells, .initialized RX2, .code yX2_fillCells cX2_fillCells 3 none] ++ wsX30 ++ wsX10)
def wsX3_teach_r1 : List Cond := [Cond.fieldLink RX3 25 "SpectrumHeads" "table" "LSpectrumHeads$Table;", Cond.fieldLink RX3 51 "SpectrumHeads" "nowRow" "[I", Cond.methodLink RX3 88 yX3_isKind, Cond.instanceMethod yX3_isKind, Cond.selects RX3 yX3_isKind yX3_isKind, Cond.initialized RX3, Cond.code yX3_isKind cX3_isKind 2 (some .boolean), Cond.fieldLink RX3 9 "SpectrumHeads" "kinds" "I", Cond.methodLink RX3 91 yX3_lookAtNow, Cond.instanceMethod yX3_lookAtNow, Cond.selects RX3 yX3_lookAtNow yX3_lookAtNow, Cond.code yX3_lookAtNow cX3_lookAtNow 1 none, Cond.fieldLink RX3 16 "SpectrumHeads" "channels" "LSpectrumHeads$Channels;", Cond.fieldLink RX3 54 "SpectrumHeads" "nowCells" "[I", Cond.methodLink RX3 164 yX1_fillRow, Cond.instanceMethod yX1_fillRow, Cond.selects RX1 yX1_fillRow yX1_fillRow, Cond.initialized RX1, Cond.code yX1_fillRow cX1_fillRow 3 none, Cond.methodLink RX1 35 yX1_evened, Cond.instanceMethod yX1_evened, Cond.selects RX1 yX1_evened yX1_evened, Cond.code yX1_evened cX1_evened 4 (some .int), Cond.fieldLink RX1 15 "SpectrumHeads$Channels" "whites" "[I"]
def wsX3_teach_r2 : List Cond := [Cond.fieldLink RX1 9 "SpectrumHeads$Channels" "darks" "[I", Cond.fieldLink RX1 18 "SpectrumHeads$Channels" "values" "[I", Cond.methodLink RX1 39 Lib.Math.min.name, Cond.static Lib.Math.min.name, Cond.initialized "java/lang/Math", Cond.code Lib.Math.min.name Lib.Math.min.code 2 (some .int), Cond.methodLink RX3 167 yX2_fillCells, Cond.static yX2_fillCells, Cond.initialized RX2, Cond.code yX2_fillCells cX2_fillCells 3 none, Cond.methodLink RX3 94 yX2_add, Cond.instanceMethod yX2_add, Cond.selects RX2 yX2_add yX2_add, Cond.code yX2_add cX2_add 4 (some .int), Cond.fieldLink RX2 30 "SpectrumHeads$Table" "count" "I", Cond.methodLink RX2 33 yX2_put, Cond.instanceMethod yX2_put, Cond.selects RX2 yX2_put yX2_put, Cond.code yX2_put cX2_put 5 none, Cond.fieldLink RX2 9 "SpectrumHeads$Table" "rowKinds" "[I", Cond.fieldLink RX2 17 "SpectrumHeads$Table" "rows" "[[I", Cond.methodLink RX2 37 arraycopyName, Cond.native arraycopyName, Cond.static arraycopyName]
def wsX3_teach_r3 : List Cond := [Cond.initialized "java/lang/System", Cond.fieldLink RX2 20 "SpectrumHeads$Table" "rowCells" "[[I", Cond.methodLink RX2 43 yX2_fillCells]
def wsX3_teach : List Cond := .code yX3_teach cX3_teach 2 (some .int) :: ((wsX3_teach_r1 ++ (wsX3_teach_r2 ++ wsX3_teach_r3)) ++ wsX30 ++ wsX10 ++ wsX20)
def wsX3_greatest : List Cond := .code yX3_greatest cX3_greatest 4 (some .int) :: ([.fieldLink RX3 9 "SpectrumHeads" "kinds" "I", .fieldLink RX3 57 "SpectrumHeads" "scores" "[J", .fieldLink RX3 36 "SpectrumHeads" "worths" "[J"] ++ wsX30)
def wsX3_readCells_r1 : List Cond := [Cond.fieldLink RX3 9 "SpectrumHeads" "kinds" "I", Cond.fieldLink RX3 57 "SpectrumHeads" "scores" "[J", Cond.fieldLink RX3 25 "SpectrumHeads" "table" "LSpectrumHeads$Table;", Cond.fieldLink RX3 40 "SpectrumHeads" "least" "J", Cond.methodLink RX3 104 yX2_sumOf, Cond.instanceMethod yX2_sumOf, Cond.selects RX2 yX2_sumOf yX2_sumOf, Cond.initialized RX2, Cond.code yX2_sumOf cX2_sumOf 8 (some .long), Cond.fieldLink RX2 23 "SpectrumHeads$Table" "alike" "[I", Cond.fieldLink RX2 30 "SpectrumHeads$Table" "count" "I", Cond.fieldLink RX2 9 "SpectrumHeads$Table" "rowKinds" "[I", Cond.fieldLink RX2 20 "SpectrumHeads$Table" "rowCells" "[[I", Cond.methodLink RX2 47 yJ7_fill_53178, Cond.static yJ7_fill_53178, Cond.initialized RJ7, Cond.code yJ7_fill_53178 cJ7_fill_53178 4 none, Cond.methodLink RX2 53 yX2_countAlike, Cond.instanceMethod yX2_countAlike, Cond.selects RX2 yX2_countAlike yX2_countAlike, Cond.code yX2_countAlike cX2_countAlike 4 none, Cond.methodLink RX3 147 yX3_greatest, Cond.instanceMethod yX3_greatest, Cond.selects RX3 yX3_greatest yX3_greatest]
def wsX3_readCells_r2 : List Cond := [Cond.initialized RX3, Cond.code yX3_greatest cX3_greatest 4 (some .int), Cond.fieldLink RX3 36 "SpectrumHeads" "worths" "[J"]
def wsX3_readCells : List Cond := .code yX3_readCells cX3_readCells 4 (some .int) :: ((wsX3_readCells_r1 ++ wsX3_readCells_r2) ++ wsX30 ++ wsX20)
def wsX3_read_r1 : List Cond := [Cond.fieldLink RX3 54 "SpectrumHeads" "nowCells" "[I", Cond.methodLink RX3 91 yX3_lookAtNow, Cond.instanceMethod yX3_lookAtNow, Cond.selects RX3 yX3_lookAtNow yX3_lookAtNow, Cond.initialized RX3, Cond.code yX3_lookAtNow cX3_lookAtNow 1 none, Cond.fieldLink RX3 16 "SpectrumHeads" "channels" "LSpectrumHeads$Channels;", Cond.fieldLink RX3 51 "SpectrumHeads" "nowRow" "[I", Cond.methodLink RX3 164 yX1_fillRow, Cond.instanceMethod yX1_fillRow, Cond.selects RX1 yX1_fillRow yX1_fillRow, Cond.initialized RX1, Cond.code yX1_fillRow cX1_fillRow 3 none, Cond.methodLink RX1 35 yX1_evened, Cond.instanceMethod yX1_evened, Cond.selects RX1 yX1_evened yX1_evened, Cond.code yX1_evened cX1_evened 4 (some .int), Cond.fieldLink RX1 15 "SpectrumHeads$Channels" "whites" "[I", Cond.fieldLink RX1 9 "SpectrumHeads$Channels" "darks" "[I", Cond.fieldLink RX1 18 "SpectrumHeads$Channels" "values" "[I", Cond.methodLink RX1 39 Lib.Math.min.name, Cond.static Lib.Math.min.name, Cond.initialized "java/lang/Math", Cond.code Lib.Math.min.name Lib.Math.min.code 2 (some .int)]
def wsX3_read_r2 : List Cond := [Cond.methodLink RX3 167 yX2_fillCells, Cond.static yX2_fillCells, Cond.initialized RX2, Cond.code yX2_fillCells cX2_fillCells 3 none, Cond.methodLink RX3 98 yX3_readCells, Cond.instanceMethod yX3_readCells, Cond.selects RX3 yX3_readCells yX3_readCells, Cond.code yX3_readCells cX3_readCells 4 (some .int), Cond.fieldLink RX3 9 "SpectrumHeads" "kinds" "I", Cond.fieldLink RX3 57 "SpectrumHeads" "scores" "[J", Cond.fieldLink RX3 25 "SpectrumHeads" "table" "LSpectrumHeads$Table;", Cond.fieldLink RX3 40 "SpectrumHeads" "least" "J", Cond.methodLink RX3 104 yX2_sumOf, Cond.instanceMethod yX2_sumOf, Cond.selects RX2 yX2_sumOf yX2_sumOf, Cond.code yX2_sumOf cX2_sumOf 8 (some .long), Cond.fieldLink RX2 23 "SpectrumHeads$Table" "alike" "[I", Cond.fieldLink RX2 30 "SpectrumHeads$Table" "count" "I", Cond.fieldLink RX2 9 "SpectrumHeads$Table" "rowKinds" "[I", Cond.fieldLink RX2 20 "SpectrumHeads$Table" "rowCells" "[[I", Cond.methodLink RX2 47 yJ7_fill_53178, Cond.static yJ7_fill_53178, Cond.initialized RJ7, Cond.code yJ7_fill_53178 cJ7_fill_53178 4 none]
def wsX3_read_r3 : List Cond := [Cond.methodLink RX2 53 yX2_countAlike, Cond.instanceMethod yX2_countAlike, Cond.selects RX2 yX2_countAlike yX2_countAlike, Cond.code yX2_countAlike cX2_countAlike 4 none, Cond.methodLink RX3 147 yX3_greatest, Cond.instanceMethod yX3_greatest, Cond.selects RX3 yX3_greatest yX3_greatest, Cond.code yX3_greatest cX3_greatest 4 (some .int), Cond.fieldLink RX3 36 "SpectrumHeads" "worths" "[J"]
def wsX3_read : List Cond := .code yX3_read cX3_read 1 (some .int) :: ((wsX3_read_r1 ++ (wsX3_read_r2 ++ wsX3_read_r3)) ++ wsX30 ++ wsX10 ++ wsX20)
def wsX3_sum_r1 : List Cond := [Cond.constantLong RX3 102 (-1), Cond.fieldLink RX3 25 "SpectrumHeads" "table" "LSpectrumHeads$Table;", Cond.fieldLink RX3 54 "SpectrumHeads" "nowCells" "[I", Cond.methodLink RX3 88 yX3_isKind, Cond.instanceMethod yX3_isKind, Cond.selects RX3 yX3_isKind yX3_isKind, Cond.initialized RX3, Cond.code yX3_isKind cX3_isKind 2 (some .boolean), Cond.fieldLink RX3 9 "SpectrumHeads" "kinds" "I", Cond.methodLink RX3 91 yX3_lookAtNow, Cond.instanceMethod yX3_lookAtNow, Cond.selects RX3 yX3_lookAtNow yX3_lookAtNow, Cond.code yX3_lookAtNow cX3_lookAtNow 1 none, Cond.fieldLink RX3 16 "SpectrumHeads" "channels" "LSpectrumHeads$Channels;", Cond.fieldLink RX3 51 "SpectrumHeads" "nowRow" "[I", Cond.methodLink RX3 164 yX1_fillRow, Cond.instanceMethod yX1_fillRow, Cond.selects RX1 yX1_fillRow yX1_fillRow, Cond.initialized RX1, Cond.code yX1_fillRow cX1_fillRow 3 none, Cond.methodLink RX1 35 yX1_evened, Cond.instanceMethod yX1_evened, Cond.selects RX1 yX1_evened yX1_evened, Cond.code yX1_evened cX1_evened 4 (some .int)]
def wsX3_sum_r2 : List Cond := [Cond.fieldLink RX1 15 "SpectrumHeads$Channels" "whites" "[I", Cond.fieldLink RX1 9 "SpectrumHeads$Channels" "darks" "[I", Cond.fieldLink RX1 18 "SpectrumHeads$Channels" "values" "[I", Cond.methodLink RX1 39 Lib.Math.min.name, Cond.static Lib.Math.min.name, Cond.initialized "java/lang/Math", Cond.code Lib.Math.min.name Lib.Math.min.code 2 (some .int), Cond.methodLink RX3 167 yX2_fillCells, Cond.static yX2_fillCells, Cond.initialized RX2, Cond.code yX2_fillCells cX2_fillCells 3 none, Cond.methodLink RX3 104 yX2_sumOf, Cond.instanceMethod yX2_sumOf, Cond.selects RX2 yX2_sumOf yX2_sumOf, Cond.code yX2_sumOf cX2_sumOf 8 (some .long), Cond.fieldLink RX2 23 "SpectrumHeads$Table" "alike" "[I", Cond.fieldLink RX2 30 "SpectrumHeads$Table" "count" "I", Cond.fieldLink RX2 9 "SpectrumHeads$Table" "rowKinds" "[I", Cond.fieldLink RX2 20 "SpectrumHeads$Table" "rowCells" "[[I", Cond.methodLink RX2 47 yJ7_fill_53178, Cond.static yJ7_fill_53178, Cond.initialized RJ7, Cond.code yJ7_fill_53178 cJ7_fill_53178 4 none, Cond.methodLink RX2 53 yX2_countAlike]
def wsX3_sum_r3 : List Cond := [Cond.instanceMethod yX2_countAlike, Cond.selects RX2 yX2_countAlike yX2_countAlike, Cond.code yX2_countAlike cX2_countAlike 4 none]
def wsX3_sum : List Cond := .code yX3_sum cX3_sum 2 (some .long) :: ((wsX3_sum_r1 ++ (wsX3_sum_r2 ++ wsX3_sum_r3)) ++ wsX30 ++ wsX10 ++ wsX20)
def wsX3_bound : List Cond := .code yX3_bound cX3_bound 3 (some .boolean) :: ([.constantLong RX3 108 (10000), .fieldLink RX3 40 "SpectrumHeads" "least" "J"] ++ wsX30)
def wsX3_worth : List Cond := .code yX3_worth cX3_worth 4 (some .boolean) :: ([.constantLong RX3 110 (1000000), .fieldLink RX3 36 "SpectrumHeads" "worths" "[J", .methodLink RX3 88 yX3_isKind, .instanceMethod yX3_isKind, .selects RX3 yX3_isKind yX3_isKind, .initialized RX3, .code yX3_isKind cX3_isKind 2 (some .boolean), .fieldLink RX3 9 "SpectrumHeads" "kinds" "I"] ++ wsX30)
def wsX3_readWithout_r1 : List Cond := [Cond.fieldLink RX3 25 "SpectrumHeads" "table" "LSpectrumHeads$Table;", Cond.methodLink RX3 171 yX2_cellsOf, Cond.instanceMethod yX2_cellsOf, Cond.selects RX2 yX2_cellsOf yX2_cellsOf, Cond.initialized RX2, Cond.code yX2_cellsOf cX2_cellsOf 2 (some (.array .int)), Cond.fieldLink RX2 20 "SpectrumHeads$Table" "rowCells" "[[I", Cond.methodLink RX3 98 yX3_readCells, Cond.instanceMethod yX3_readCells, Cond.selects RX3 yX3_readCells yX3_readCells, Cond.initialized RX3, Cond.code yX3_readCells cX3_readCells 4 (some .int), Cond.fieldLink RX3 9 "SpectrumHeads" "kinds" "I", Cond.fieldLink RX3 57 "SpectrumHeads" "scores" "[J", Cond.fieldLink RX3 40 "SpectrumHeads" "least" "J", Cond.methodLink RX3 104 yX2_sumOf, Cond.instanceMethod yX2_sumOf, Cond.selects RX2 yX2_sumOf yX2_sumOf, Cond.code yX2_sumOf cX2_sumOf 8 (some .long), Cond.fieldLink RX2 23 "SpectrumHeads$Table" "alike" "[I", Cond.fieldLink RX2 30 "SpectrumHeads$Table" "count" "I", Cond.fieldLink RX2 9 "SpectrumHeads$Table" "rowKinds" "[I", Cond.methodLink RX2 47 yJ7_fill_53178, Cond.static yJ7_fill_53178]
def wsX3_readWithout_r2 : List Cond := [Cond.initialized RJ7, Cond.code yJ7_fill_53178 cJ7_fill_53178 4 none, Cond.methodLink RX2 53 yX2_countAlike, Cond.instanceMethod yX2_countAlike, Cond.selects RX2 yX2_countAlike yX2_countAlike, Cond.code yX2_countAlike cX2_countAlike 4 none, Cond.methodLink RX3 147 yX3_greatest, Cond.instanceMethod yX3_greatest, Cond.selects RX3 yX3_greatest yX3_greatest, Cond.code yX3_greatest cX3_greatest 4 (some .int), Cond.fieldLink RX3 36 "SpectrumHeads" "worths" "[J"]
def wsX3_readWithout : List Cond := .code yX3_readWithout cX3_readWithout 2 (some .int) :: ((wsX3_readWithout_r1 ++ wsX3_readWithout_r2) ++ wsX30 ++ wsX20)
def wsX3_leftOut_r1 : List Cond := [Cond.fieldLink RX3 25 "SpectrumHeads" "table" "LSpectrumHeads$Table;", Cond.methodLink RX3 112 yX2_has, Cond.instanceMethod yX2_has, Cond.selects RX2 yX2_has yX2_has, Cond.initialized RX2, Cond.code yX2_has cX2_has 2 (some .boolean), Cond.fieldLink RX2 30 "SpectrumHeads$Table" "count" "I", Cond.methodLink RX3 115 yX3_readWithout, Cond.instanceMethod yX3_readWithout, Cond.selects RX3 yX3_readWithout yX3_readWithout, Cond.initialized RX3, Cond.code yX3_readWithout cX3_readWithout 2 (some .int), Cond.methodLink RX3 171 yX2_cellsOf, Cond.instanceMethod yX2_cellsOf, Cond.selects RX2 yX2_cellsOf yX2_cellsOf, Cond.code yX2_cellsOf cX2_cellsOf 2 (some (.array .int)), Cond.fieldLink RX2 20 "SpectrumHeads$Table" "rowCells" "[[I", Cond.methodLink RX3 98 yX3_readCells, Cond.instanceMethod yX3_readCells, Cond.selects RX3 yX3_readCells yX3_readCells, Cond.code yX3_readCells cX3_readCells 4 (some .int), Cond.fieldLink RX3 9 "SpectrumHeads" "kinds" "I", Cond.fieldLink RX3 57 "SpectrumHeads" "scores" "[J", Cond.fieldLink RX3 40 "SpectrumHeads" "least" "J"]
def wsX3_leftOut_r2 : List Cond := [Cond.methodLink RX3 104 yX2_sumOf, Cond.instanceMethod yX2_sumOf, Cond.selects RX2 yX2_sumOf yX2_sumOf, Cond.code yX2_sumOf cX2_sumOf 8 (some .long), Cond.fieldLink RX2 23 "SpectrumHeads$Table" "alike" "[I", Cond.fieldLink RX2 9 "SpectrumHeads$Table" "rowKinds" "[I", Cond.methodLink RX2 47 yJ7_fill_53178, Cond.static yJ7_fill_53178, Cond.initialized RJ7, Cond.code yJ7_fill_53178 cJ7_fill_53178 4 none, Cond.methodLink RX2 53 yX2_countAlike, Cond.instanceMethod yX2_countAlike, Cond.selects RX2 yX2_countAlike yX2_countAlike, Cond.code yX2_countAlike cX2_countAlike 4 none, Cond.methodLink RX3 147 yX3_greatest, Cond.instanceMethod yX3_greatest, Cond.selects RX3 yX3_greatest yX3_greatest, Cond.code yX3_greatest cX3_greatest 4 (some .int), Cond.fieldLink RX3 36 "SpectrumHeads" "worths" "[J"]
def wsX3_leftOut : List Cond := .code yX3_leftOut cX3_leftOut 2 (some .int) :: ((wsX3_leftOut_r1 ++ wsX3_leftOut_r2) ++ wsX30 ++ wsX20)
def wsX3_wrong_r1 : List Cond := [Cond.constantLong RX3 102 (-1), Cond.fieldLink RX3 25 "SpectrumHeads" "table" "LSpectrumHeads$Table;", Cond.methodLink RX3 88 yX3_isKind, Cond.instanceMethod yX3_isKind, Cond.selects RX3 yX3_isKind yX3_isKind, Cond.initialized RX3, Cond.code yX3_isKind cX3_isKind 2 (some .boolean), Cond.fieldLink RX3 9 "SpectrumHeads" "kinds" "I", Cond.methodLink RX3 119 yX2_size, Cond.instanceMethod yX2_size, Cond.selects RX2 yX2_size yX2_size, Cond.initialized RX2, Cond.code yX2_size cX2_size 1 (some .int), Cond.fieldLink RX2 30 "SpectrumHeads$Table" "count" "I", Cond.methodLink RX3 123 yX2_kindOf, Cond.instanceMethod yX2_kindOf, Cond.selects RX2 yX2_kindOf yX2_kindOf, Cond.code yX2_kindOf cX2_kindOf 2 (some .int), Cond.fieldLink RX2 9 "SpectrumHeads$Table" "rowKinds" "[I", Cond.methodLink RX3 115 yX3_readWithout, Cond.instanceMethod yX3_readWithout, Cond.selects RX3 yX3_readWithout yX3_readWithout, Cond.code yX3_readWithout cX3_readWithout 2 (some .int), Cond.methodLink RX3 171 yX2_cellsOf]
def wsX3_wrong_r2 : List Cond := [Cond.instanceMethod yX2_cellsOf, Cond.selects RX2 yX2_cellsOf yX2_cellsOf, Cond.code yX2_cellsOf cX2_cellsOf 2 (some (.array .int)), Cond.fieldLink RX2 20 "SpectrumHeads$Table" "rowCells" "[[I", Cond.methodLink RX3 98 yX3_readCells, Cond.instanceMethod yX3_readCells, Cond.selects RX3 yX3_readCells yX3_readCells, Cond.code yX3_readCells cX3_readCells 4 (some .int), Cond.fieldLink RX3 57 "SpectrumHeads" "scores" "[J", Cond.fieldLink RX3 40 "SpectrumHeads" "least" "J", Cond.methodLink RX3 104 yX2_sumOf, Cond.instanceMethod yX2_sumOf, Cond.selects RX2 yX2_sumOf yX2_sumOf, Cond.code yX2_sumOf cX2_sumOf 8 (some .long), Cond.fieldLink RX2 23 "SpectrumHeads$Table" "alike" "[I", Cond.methodLink RX2 47 yJ7_fill_53178, Cond.static yJ7_fill_53178, Cond.initialized RJ7, Cond.code yJ7_fill_53178 cJ7_fill_53178 4 none, Cond.methodLink RX2 53 yX2_countAlike, Cond.instanceMethod yX2_countAlike, Cond.selects RX2 yX2_countAlike yX2_countAlike, Cond.code yX2_countAlike cX2_countAlike 4 none, Cond.methodLink RX3 147 yX3_greatest]
def wsX3_wrong_r3 : List Cond := [Cond.instanceMethod yX3_greatest, Cond.selects RX3 yX3_greatest yX3_greatest, Cond.code yX3_greatest cX3_greatest 4 (some .int), Cond.fieldLink RX3 36 "SpectrumHeads" "worths" "[J"]
def wsX3_wrong : List Cond := .code yX3_wrong cX3_wrong 7 (some .long) :: ((wsX3_wrong_r1 ++ (wsX3_wrong_r2 ++ wsX3_wrong_r3)) ++ wsX30 ++ wsX20)
def wsX3_correct : List Cond := .code yX3_correct cX3_correct 4 (some .int) :: ([.fieldLink RX3 25 "SpectrumHeads" "table" "LSpectrumHeads$Table;", .methodLink RX3 112 yX2_has, .instanceMethod yX2_has, .selects RX2 yX2_has yX2_has, .initialized RX2, .code yX2_has cX2_has 2 (some .boolean), .fieldLink RX2 30 "SpectrumHeads$Table" "count" "I", .methodLink RX3 88 yX3_isKind, .instanceMethod yX3_isKind, .selects RX3 yX3_isKind yX3_isKind, .initialized RX3, .code yX3_isKind cX3_isKind 2 (some .boolean), .fieldLink RX3 9 "SpectrumHeads" "kinds" "I", .methodLink RX3 123 yX2_kindOf, .instanceMethod yX2_kindOf, .selects RX2 yX2_kindOf yX2_kindOf, .code yX2_kindOf cX2_kindOf 2 (some .int), .fieldLink RX2 9 "SpectrumHeads$Table" "rowKinds" "[I", .methodLink RX3 126 yX2_setKind, .instanceMethod yX2_setKind, .selects RX2 yX2_setKind yX2_setKind, .code yX2_setKind cX2_setKind 3 none] ++ wsX30 ++ wsX20)
def wsX3_pixel_r1 : List Cond := [Cond.fieldLink RX3 32 "SpectrumHeads" "belt" "LSpectrumHeads$Belt;", Cond.fieldLink RX3 54 "SpectrumHeads" "nowCells" "[I", Cond.methodLink RX3 130 yX0_isFree, Cond.instanceMethod yX0_isFree, Cond.selects RX0 yX0_isFree yX0_isFree, Cond.initialized RX0, Cond.code yX0_isFree cX0_isFree 3 (some .boolean), Cond.fieldLink RX0 34 "SpectrumHeads$Belt" "pixels" "I", Cond.fieldLink RX0 11 "SpectrumHeads$Belt" "kindAt" "[I", Cond.methodLink RX0 40 yX0_isPlace, Cond.static yX0_isPlace, Cond.code yX0_isPlace cX0_isPlace 2 (some .boolean), Cond.methodLink RX3 91 yX3_lookAtNow, Cond.instanceMethod yX3_lookAtNow, Cond.selects RX3 yX3_lookAtNow yX3_lookAtNow, Cond.initialized RX3, Cond.code yX3_lookAtNow cX3_lookAtNow 1 none, Cond.fieldLink RX3 16 "SpectrumHeads" "channels" "LSpectrumHeads$Channels;", Cond.fieldLink RX3 51 "SpectrumHeads" "nowRow" "[I", Cond.methodLink RX3 164 yX1_fillRow, Cond.instanceMethod yX1_fillRow, Cond.selects RX1 yX1_fillRow yX1_fillRow, Cond.initialized RX1, Cond.code yX1_fillRow cX1_fillRow 3 none]
def wsX3_pixel_r2 : List Cond := [Cond.methodLink RX1 35 yX1_evened, Cond.instanceMethod yX1_evened, Cond.selects RX1 yX1_evened yX1_evened, Cond.code yX1_evened cX1_evened 4 (some .int), Cond.fieldLink RX1 15 "SpectrumHeads$Channels" "whites" "[I", Cond.fieldLink RX1 9 "SpectrumHeads$Channels" "darks" "[I", Cond.fieldLink RX1 18 "SpectrumHeads$Channels" "values" "[I", Cond.methodLink RX1 39 Lib.Math.min.name, Cond.static Lib.Math.min.name, Cond.initialized "java/lang/Math", Cond.code Lib.Math.min.name Lib.Math.min.code 2 (some .int), Cond.methodLink RX3 167 yX2_fillCells, Cond.static yX2_fillCells, Cond.initialized RX2, Cond.code yX2_fillCells cX2_fillCells 3 none, Cond.methodLink RX3 98 yX3_readCells, Cond.instanceMethod yX3_readCells, Cond.selects RX3 yX3_readCells yX3_readCells, Cond.code yX3_readCells cX3_readCells 4 (some .int), Cond.fieldLink RX3 9 "SpectrumHeads" "kinds" "I", Cond.fieldLink RX3 57 "SpectrumHeads" "scores" "[J", Cond.fieldLink RX3 25 "SpectrumHeads" "table" "LSpectrumHeads$Table;", Cond.fieldLink RX3 40 "SpectrumHeads" "least" "J", Cond.methodLink RX3 104 yX2_sumOf]
def wsX3_pixel_r3 : List Cond := [Cond.instanceMethod yX2_sumOf, Cond.selects RX2 yX2_sumOf yX2_sumOf, Cond.code yX2_sumOf cX2_sumOf 8 (some .long), Cond.fieldLink RX2 23 "SpectrumHeads$Table" "alike" "[I", Cond.fieldLink RX2 30 "SpectrumHeads$Table" "count" "I", Cond.fieldLink RX2 9 "SpectrumHeads$Table" "rowKinds" "[I", Cond.fieldLink RX2 20 "SpectrumHeads$Table" "rowCells" "[[I", Cond.methodLink RX2 47 yJ7_fill_53178, Cond.static yJ7_fill_53178, Cond.initialized RJ7, Cond.code yJ7_fill_53178 cJ7_fill_53178 4 none, Cond.methodLink RX2 53 yX2_countAlike, Cond.instanceMethod yX2_countAlike, Cond.selects RX2 yX2_countAlike yX2_countAlike, Cond.code yX2_countAlike cX2_countAlike 4 none, Cond.methodLink RX3 147 yX3_greatest, Cond.instanceMethod yX3_greatest, Cond.selects RX3 yX3_greatest yX3_greatest, Cond.code yX3_greatest cX3_greatest 4 (some .int), Cond.fieldLink RX3 36 "SpectrumHeads" "worths" "[J", Cond.methodLink RX3 133 yX0_tell, Cond.instanceMethod yX0_tell, Cond.selects RX0 yX0_tell yX0_tell, Cond.code yX0_tell cX0_tell 4 none]
def wsX3_pixel_r4 : List Cond := [Cond.methodLink RX0 44 yX0_numberPieces, Cond.instanceMethod yX0_numberPieces, Cond.selects RX0 yX0_numberPieces yX0_numberPieces, Cond.code yX0_numberPieces cX0_numberPieces 2 none, Cond.fieldLink RX0 15 "SpectrumHeads$Belt" "numberAt" "[I", Cond.fieldLink RX0 37 "SpectrumHeads$Belt" "pieces" "I", Cond.methodLink RX0 24 yJ7_fill_53178, Cond.methodLink RX0 47 yX0_joinFrom, Cond.instanceMethod yX0_joinFrom, Cond.selects RX0 yX0_joinFrom yX0_joinFrom, Cond.code yX0_joinFrom cX0_joinFrom 5 none, Cond.fieldLink RX0 30 "SpectrumHeads$Belt" "joinedCount" "I", Cond.fieldLink RX0 18 "SpectrumHeads$Belt" "joined" "[I", Cond.methodLink RX0 51 yX0_join, Cond.instanceMethod yX0_join, Cond.selects RX0 yX0_join yX0_join, Cond.code yX0_join cX0_join 4 none]
def wsX3_pixel : List Cond := .code yX3_pixel cX3_pixel 3 (some .boolean) :: ((wsX3_pixel_r1 ++ (wsX3_pixel_r2 ++ (wsX3_pixel_r3 ++ wsX3_pixel_r4))) ++ wsX30 ++ wsX00 ++ wsX10 ++ wsX20)
def wsX3_piece : List Cond := .code yX3_piece cX3_piece 3 (some .int) :: ([.fieldLink RX3 32 "SpectrumHeads" "belt" "LSpectrumHeads$Belt;", .methodLink RX3 137 yX0_pieceAt, .instanceMethod yX0_pieceAt, .selects RX0 yX0_pieceAt yX0_pieceAt, .initialized RX0, .code yX0_pieceAt cX0_pieceAt 3 (some .int), .fieldLink RX0 15 "SpectrumHeads$Belt" "numberAt" "[I", .methodLink RX0 40 yX0_isPlace, .static yX0_isPlace, .code yX0_isPlace cX0_isPlace 2 (some .boolean)] ++ wsX30 ++ wsX00)
def wsX3_pieceKind : List Cond := .code yX3_pieceKind cX3_pieceKind 3 (some .int) :: ([.fieldLink RX3 32 "SpectrumHeads" "belt" "LSpectrumHeads$Belt;", .fieldLink RX3 9 "SpectrumHeads" "kinds" "I", .fieldLink RX3 57 "SpectrumHeads" "scores" "[J", .methodLink RX3 141 yX0_hasPiece, .instanceMethod yX0_hasPiece, .selects RX0 yX0_hasPiece yX0_hasPiece, .initialized RX0, .code yX0_hasPiece cX0_hasPiece 2 (some .boolean), .fieldLink RX0 37 "SpectrumHeads$Belt" "pieces" "I", .methodLink RX3 144 yX0_countIn, .instanceMethod yX0_countIn, .selects RX0 yX0_countIn yX0_countIn, .code yX0_countIn cX0_countIn 5 (some .int), .fieldLink RX0 15 "SpectrumHeads$Belt" "numberAt" "[I", .fieldLink RX0 11 "SpectrumHeads$Belt" "kindAt" "[I", .methodLink RX3 147 yX3_greatest, .instanceMethod yX3_greatest, .selects RX3 yX3_greatest yX3_greatest, .initialized RX3, .code yX3_greatest cX3_greatest 4 (some .int), .fieldLink RX3 36 "SpectrumHeads" "worths" "[J"] ++ wsX30 ++ wsX00)
def wsX3_neighbours_r1 : List Cond := [Cond.fieldLink RX3 32 "SpectrumHeads" "belt" "LSpectrumHeads$Belt;", Cond.methodLink RX3 141 yX0_hasPiece, Cond.instanceMethod yX0_hasPiece, Cond.selects RX0 yX0_hasPiece yX0_hasPiece, Cond.initialized RX0, Cond.code yX0_hasPiece cX0_hasPiece 2 (some .boolean), Cond.fieldLink RX0 37 "SpectrumHeads$Belt" "pieces" "I", Cond.methodLink RX3 150 yX0_countNeighbours, Cond.instanceMethod yX0_countNeighbours, Cond.selects RX0 yX0_countNeighbours yX0_countNeighbours, Cond.code yX0_countNeighbours cX0_countNeighbours 4 (some .int), Cond.fieldLink RX0 21 "SpectrumHeads$Belt" "met" "[I", Cond.fieldLink RX0 15 "SpectrumHeads$Belt" "numberAt" "[I", Cond.methodLink RX0 24 yJ7_fill_53178, Cond.static yJ7_fill_53178, Cond.initialized RJ7, Cond.code yJ7_fill_53178 cJ7_fill_53178 4 none, Cond.methodLink RX0 55 yX0_meetRound, Cond.instanceMethod yX0_meetRound, Cond.selects RX0 yX0_meetRound yX0_meetRound, Cond.code yX0_meetRound cX0_meetRound 6 none, Cond.methodLink RX0 58 yX0_pieceAt, Cond.instanceMethod yX0_pieceAt, Cond.selects RX0 yX0_pieceAt yX0_pieceAt]
def wsX3_neighbours_r2 : List Cond := [Cond.code yX0_pieceAt cX0_pieceAt 3 (some .int), Cond.methodLink RX0 40 yX0_isPlace, Cond.static yX0_isPlace, Cond.code yX0_isPlace cX0_isPlace 2 (some .boolean)]
def wsX3_neighbours : List Cond := .code yX3_neighbours cX3_neighbours 2 (some .int) :: ((wsX3_neighbours_r1 ++ wsX3_neighbours_r2) ++ wsX30 ++ wsX00)
def wsX3_pack : List Cond := .code yX3_pack cX3_pack 2 (some .int) :: ([.fieldLink RX3 25 "SpectrumHeads" "table" "LSpectrumHeads$Table;", .methodLink RX3 153 yX2_packedByte, .instanceMethod yX2_packedByte, .selects RX2 yX2_packedByte yX2_packedByte, .initialized RX2, .code yX2_packedByte cX2_packedByte 3 (some .int), .fieldLink RX2 30 "SpectrumHeads$Table" "count" "I", .methodLink RX2 56 yX2_plainByte, .instanceMethod yX2_plainByte, .selects RX2 yX2_plainByte yX2_plainByte, .code yX2_plainByte cX2_plainByte 4 (some .int), .fieldLink RX2 26 "SpectrumHeads$Table" "kinds" "I", .fieldLink RX2 9 "SpectrumHeads$Table" "rowKinds" "[I", .fieldLink RX2 17 "SpectrumHeads$Table" "rows" "[[I", .methodLink RX2 60 yX2_check, .instanceMethod yX2_check, .selects RX2 yX2_check yX2_check, .code yX2_check cX2_check 4 (some .int)] ++ wsX30 ++ wsX20)
def wsX3_feed : List Cond := .code yX3_feed cX3_feed 2 (some .boolean) :: ([.fieldLink RX3 48 "SpectrumHeads" "fedCount" "I", .fieldLink RX3 44 "SpectrumHeads" "fed" "[I", .methodLink RX3 71 yX3_isByte, .static yX3_isByte, .initialized RX3, .code yX3_isByte cX3_isByte 1 (some .boolean)] ++ wsX30)
def wsX3_open_r1 : List Cond := [Cond.fieldLink RX3 48 "SpectrumHeads" "fedCount" "I", Cond.fieldLink RX3 25 "SpectrumHeads" "table" "LSpectrumHeads$Table;", Cond.fieldLink RX3 44 "SpectrumHeads" "fed" "[I", Cond.methodLink RX3 156 yX2_fits, Cond.instanceMethod yX2_fits, Cond.selects RX2 yX2_fits yX2_fits, Cond.initialized RX2, Cond.code yX2_fits cX2_fits 6 (some .boolean), Cond.fieldLink RX2 26 "SpectrumHeads$Table" "kinds" "I", Cond.methodLink RX3 160 yX2_load, Cond.instanceMethod yX2_load, Cond.selects RX2 yX2_load yX2_load, Cond.code yX2_load cX2_load 4 none, Cond.methodLink RX2 63 Lib.Math.min.name, Cond.static Lib.Math.min.name, Cond.initialized "java/lang/Math", Cond.code Lib.Math.min.name Lib.Math.min.code 2 (some .int), Cond.fieldLink RX2 30 "SpectrumHeads$Table" "count" "I", Cond.methodLink RX2 33 yX2_put, Cond.instanceMethod yX2_put, Cond.selects RX2 yX2_put yX2_put, Cond.code yX2_put cX2_put 5 none, Cond.fieldLink RX2 9 "SpectrumHeads$Table" "rowKinds" "[I", Cond.fieldLink RX2 17 "SpectrumHeads$Table" "rows" "[[I"]
def wsX3_open_r2 : List Cond := [Cond.methodLink RX2 37 arraycopyName, Cond.native arraycopyName, Cond.static arraycopyName, Cond.initialized "java/lang/System", Cond.fieldLink RX2 20 "SpectrumHeads$Table" "rowCells" "[[I", Cond.methodLink RX2 43 yX2_fillCells, Cond.static yX2_fillCells, Cond.code yX2_fillCells cX2_fillCells 3 none, Cond.methodLink RX3 119 yX2_size, Cond.instanceMethod yX2_size, Cond.selects RX2 yX2_size yX2_size, Cond.code yX2_size cX2_size 1 (some .int)]
def wsX3_open : List Cond := .code yX3_open cX3_open 2 (some .int) :: ((wsX3_open_r1 ++ wsX3_open_r2) ++ wsX30 ++ wsX20)
def wsX4_init : List Cond := .code yX4_init cX4_init 3 none :: ([.methodLink RX4 1 objectInit, .instanceMethod objectInit, .code objectInit ⟨#[0xb1]⟩ 1 none, .arrayClass .int, .fieldLink RX4 7 "SpectrumHeadsModel" "darks" "[I", .fieldLink RX4 13 "SpectrumHeadsModel" "whites" "[I", .fieldLink RX4 16 "SpectrumHeadsModel" "values" "[I", .fieldLink RX4 19 "SpectrumHeadsModel" "taughtKind" "[I", .fieldLink RX4 22 "SpectrumHeadsModel" "taughtRow" "[I", .fieldLink RX4 25 "SpectrumHeadsModel" "least" "J", .arrayClass .long, .fieldLink RX4 29 "SpectrumHeadsModel" "worths" "[J", .fieldLink RX4 33 "SpectrumHeadsModel" "field" "[I", .fieldLink RX4 36 "SpectrumHeadsModel" "fed" "[I", .fieldLink RX4 39 "SpectrumHeadsModel" "row" "[I", .fieldLink RX4 42 "SpectrumHeadsModel" "pieces" "[I", .fieldLink RX4 45 "SpectrumHeadsModel" "kinds" "I"] ++ wsX40)
def wsX4_thrown : List Cond := .code yX4_thrown cX4_thrown 1 (some .int) :: ([.fieldLink RX4 49 "SpectrumHeadsModel" "fault" "I"] ++ wsX40)
def wsX4_isByte : List Cond := .code yX4_isByte cX4_isByte 1 (some .boolean) :: ([])
def wsX4_isChannel : List Cond := .code yX4_isChannel cX4_isChannel 1 (some .boolean) :: ([])
def wsX4_isKind : List Cond := .code yX4_isKind cX4_isKind 2 (some .boolean) :: ([.fieldLink RX4 45 "SpectrumHeadsModel" "kinds" "I"] ++ wsX40)
def wsX4_white : List Cond := .code yX4_white cX4_white 3 (some .boolean) :: ([.fieldLink RX4 49 "SpectrumHeadsModel" "fault" "I", .fieldLink RX4 13 "SpectrumHeadsModel" "whites" "[I", .methodLink RX4 52 yX4_isChannel, .static yX4_isChannel, .initialized RX4, .code yX4_isChannel cX4_isChannel 1 (some .boolean), .methodLink RX4 56 yX4_isByte, .static yX4_isByte, .code yX4_isByte cX4_isByte 1 (some .boolean)] ++ wsX40)
def wsX4_dark : List Cond := .code yX4_dark cX4_dark 3 (some .boolean) :: ([.fieldLink RX4 49 "SpectrumHeadsModel" "fault" "I", .fieldLink RX4 7 "SpectrumHeadsModel" "darks" "[I", .methodLink RX4 52 yX4_isChannel, .static yX4_isChannel, .initialized RX4, .code yX4_isChannel cX4_isChannel 1 (some .boolean), .methodLink RX4 56 yX4_isByte, .static yX4_isByte, .code yX4_isByte cX4_isByte 1 (some .boolean)] ++ wsX40)
def wsX4_value : List Cond := .code yX4_value cX4_value 3 (some .boolean) :: ([.fieldLink RX4 49 "SpectrumHeadsModel" "fault" "I", .fieldLink RX4 16 "SpectrumHeadsModel" "values" "[I", .methodLink RX4 52 yX4_isChannel, .static yX4_isChannel, .initialized RX4, .code yX4_isChannel cX4_isChannel 1 (some .boolean), .methodLink RX4 56 yX4_isByte, .static yX4_isByte, .code yX4_isByte cX4_isByte 1 (some .boolean)] ++ wsX40)
def wsX4_reference : List Cond := .code yX4_reference cX4_reference 5 (some .boolean) :: ([.fieldLink RX4 49 "SpectrumHeadsModel" "fault" "I", .fieldLink RX4 59 "SpectrumHeadsModel" "lastTick" "J", .fieldLink RX4 13 "SpectrumHeadsModel" "whites" "[I", .methodLink RX4 52 yX4_isChannel, .static yX4_isChannel, .initialized RX4, .code yX4_isChannel cX4_isChannel 1 (some .boolean), .methodLink RX4 56 yX4_isByte, .static yX4_isByte, .code yX4_isByte cX4_isByte 1 (some .boolean)] ++ wsX40)
def wsX4_evened : List Cond := .code yX4_evened cX4_evened 3 (some .int) :: ([.fieldLink RX4 13 "SpectrumHeadsModel" "whites" "[I", .fieldLink RX4 7 "SpectrumHeadsModel" "darks" "[I", .fieldLink RX4 16 "SpectrumHeadsModel" "values" "[I"] ++ wsX40)
def wsX4_takeNow : List Cond := .code yX4_takeNow cX4_takeNow 2 none :: ([.fieldLink RX4 39 "SpectrumHeadsModel" "row" "[I", .methodLink RX4 62 yX4_evened, .instanceMethod yX4_evened, .selects RX4 yX4_evened yX4_evened, .initialized RX4, .code yX4_evened cX4_evened 3 (some .int), .fieldLink RX4 13 "SpectrumHeadsModel" "whites" "[I", .fieldLink RX4 7 "SpectrumHeadsModel" "darks" "[I", .fieldLink RX4 16 "SpectrumHeadsModel" "values" "[I"] ++ wsX40)
def wsX4_takeTaught : List Cond := .code yX4_takeTaught cX4_takeTaught 3 none :: ([.fieldLink RX4 39 "SpectrumHeadsModel" "row" "[I", .fieldLink RX4 22 "SpectrumHeadsModel" "taughtRow" "[I"] ++ wsX40)
def wsX4_sumOf : List Cond := .code yX4_sumOf cX4_sumOf 11 (some .long) :: ([.fieldLink RX4 39 "SpectrumHeadsModel" "row" "[I", .fieldLink RX4 66 "SpectrumHeadsModel" "taught" "I", .fieldLink RX4 19 "SpectrumHeadsModel" "taughtKind" "[I", .fieldLink RX4 22 "SpectrumHeadsModel" "taughtRow" "[I"] ++ wsX40)
def wsX4_readRow : List Cond := .code yX4_readRow cX4_readRow 8 (some .int) :: ([.fieldLink RX4 45 "SpectrumHeadsModel" "kinds" "I", .fieldLink RX4 29 "SpectrumHeadsModel" "worths" "[J", .fieldLink RX4 25 "SpectrumHeadsModel" "least" "J", .methodLink RX4 69 yX4_sumOf, .instanceMethod yX4_sumOf, .selects RX4 yX4_sumOf yX4_sumOf, .initialized RX4, .code yX4_sumOf cX4_sumOf 11 (some .long), .fieldLink RX4 39 "SpectrumHeadsModel" "row" "[I", .fieldLink RX4 66 "SpectrumHeadsModel" "taught" "I", .fieldLink RX4 19 "SpectrumHeadsModel" "taughtKind" "[I", .fieldLink RX4 22 "SpectrumHeadsModel" "taughtRow" "[I"] ++ wsX40)
def wsX4_teach : List Cond := .code yX4_teach cX4_teach 3 (some .int) :: ([.fieldLink RX4 49 "SpectrumHeadsModel" "fault" "I", .fieldLink RX4 66 "SpectrumHeadsModel" "taught" "I", .fieldLink RX4 22 "SpectrumHeadsModel" "taughtRow" "[I", .fieldLink RX4 39 "SpectrumHeadsModel" "row" "[I", .fieldLink RX4 19 "SpectrumHeadsModel" "taughtKind" "[I", .methodLink RX4 73 yX4_isKind, .instanceMethod yX4_isKind, .selects RX4 yX4_isKind yX4_isKind, .initialized RX4, .code yX4_isKind cX4_isKind 2 (some .boolean), .fieldLink RX4 45 "SpectrumHeadsModel" "kinds" "I", .methodLink RX4 76 yX4_takeNow, .instanceMethod yX4_takeNow, .selects RX4 yX4_takeNow yX4_takeNow, .code yX4_takeNow cX4_takeNow 2 none, .methodLink RX4 62 yX4_evened, .instanceMethod yX4_evened, .selects RX4 yX4_evened yX4_evened, .code yX4_evened cX4_evened 3 (some .int), .fieldLink RX4 13 "SpectrumHeadsModel" "whites" "[I", .fieldLink RX4 7 "SpectrumHeadsModel" "darks" "[I", .fieldLink RX4 16 "SpectrumHeadsModel" "values" "[I"] ++ wsX40)
def wsX4_read_r1 : List Cond := [Cond.fieldLink RX4 49 "SpectrumHeadsModel" "fault" "I", Cond.methodLink RX4 76 yX4_takeNow, Cond.instanceMethod yX4_takeNow, Cond.selects RX4 yX4_takeNow yX4_takeNow, Cond.initialized RX4, Cond.code yX4_takeNow cX4_takeNow 2 none, Cond.fieldLink RX4 39 "SpectrumHeadsModel" "row" "[I", Cond.methodLink RX4 62 yX4_evened, Cond.instanceMethod yX4_evened, Cond.selects RX4 yX4_evened yX4_evened, Cond.code yX4_evened cX4_evened 3 (some .int), Cond.fieldLink RX4 13 "SpectrumHeadsModel" "whites" "[I", Cond.fieldLink RX4 7 "SpectrumHeadsModel" "darks" "[I", Cond.fieldLink RX4 16 "SpectrumHeadsModel" "values" "[I", Cond.methodLink RX4 79 yX4_readRow, Cond.instanceMethod yX4_readRow, Cond.selects RX4 yX4_readRow yX4_readRow, Cond.code yX4_readRow cX4_readRow 8 (some .int), Cond.fieldLink RX4 45 "SpectrumHeadsModel" "kinds" "I", Cond.fieldLink RX4 29 "SpectrumHeadsModel" "worths" "[J", Cond.fieldLink RX4 25 "SpectrumHeadsModel" "least" "J", Cond.methodLink RX4 69 yX4_sumOf, Cond.instanceMethod yX4_sumOf, Cond.selects RX4 yX4_sumOf yX4_sumOf]
def wsX4_read_r2 : List Cond := [Cond.code yX4_sumOf cX4_sumOf 11 (some .long), Cond.fieldLink RX4 66 "SpectrumHeadsModel" "taught" "I", Cond.fieldLink RX4 19 "SpectrumHeadsModel" "taughtKind" "[I", Cond.fieldLink RX4 22 "SpectrumHeadsModel" "taughtRow" "[I"]
def wsX4_read : List Cond := .code yX4_read cX4_read 1 (some .int) :: ((wsX4_read_r1 ++ wsX4_read_r2) ++ wsX40)
def wsX4_sum_r1 : List Cond := [Cond.fieldLink RX4 49 "SpectrumHeadsModel" "fault" "I", Cond.constantLong RX4 82 (-1), Cond.methodLink RX4 76 yX4_takeNow, Cond.instanceMethod yX4_takeNow, Cond.selects RX4 yX4_takeNow yX4_takeNow, Cond.initialized RX4, Cond.code yX4_takeNow cX4_takeNow 2 none, Cond.fieldLink RX4 39 "SpectrumHeadsModel" "row" "[I", Cond.methodLink RX4 62 yX4_evened, Cond.instanceMethod yX4_evened, Cond.selects RX4 yX4_evened yX4_evened, Cond.code yX4_evened cX4_evened 3 (some .int), Cond.fieldLink RX4 13 "SpectrumHeadsModel" "whites" "[I", Cond.fieldLink RX4 7 "SpectrumHeadsModel" "darks" "[I", Cond.fieldLink RX4 16 "SpectrumHeadsModel" "values" "[I", Cond.methodLink RX4 73 yX4_isKind, Cond.instanceMethod yX4_isKind, Cond.selects RX4 yX4_isKind yX4_isKind, Cond.code yX4_isKind cX4_isKind 2 (some .boolean), Cond.fieldLink RX4 45 "SpectrumHeadsModel" "kinds" "I", Cond.methodLink RX4 69 yX4_sumOf, Cond.instanceMethod yX4_sumOf, Cond.selects RX4 yX4_sumOf yX4_sumOf, Cond.code yX4_sumOf cX4_sumOf 11 (some .long)]
def wsX4_sum_r2 : List Cond := [Cond.fieldLink RX4 66 "SpectrumHeadsModel" "taught" "I", Cond.fieldLink RX4 19 "SpectrumHeadsModel" "taughtKind" "[I", Cond.fieldLink RX4 22 "SpectrumHeadsModel" "taughtRow" "[I"]
def wsX4_sum : List Cond := .code yX4_sum cX4_sum 2 (some .long) :: ((wsX4_sum_r1 ++ wsX4_sum_r2) ++ wsX40)
def wsX4_bound : List Cond := .code yX4_bound cX4_bound 3 (some .boolean) :: ([.fieldLink RX4 49 "SpectrumHeadsModel" "fault" "I", .constantLong RX4 84 (10000), .fieldLink RX4 25 "SpectrumHeadsModel" "least" "J"] ++ wsX40)
def wsX4_worth : List Cond := .code yX4_worth cX4_worth 4 (some .boolean) :: ([.fieldLink RX4 49 "SpectrumHeadsModel" "fault" "I", .constantLong RX4 86 (1000000), .fieldLink RX4 29 "SpectrumHeadsModel" "worths" "[J", .methodLink RX4 73 yX4_isKind, .instanceMethod yX4_isKind, .selects RX4 yX4_isKind yX4_isKind, .initialized RX4, .code yX4_isKind cX4_isKind 2 (some .boolean), .fieldLink RX4 45 "SpectrumHeadsModel" "kinds" "I"] ++ wsX40)
def wsX4_leftOut : List Cond := .code yX4_leftOut cX4_leftOut 2 (some .int) :: ([.fieldLink RX4 49 "SpectrumHeadsModel" "fault" "I", .fieldLink RX4 66 "SpectrumHeadsModel" "taught" "I", .methodLink RX4 88 yX4_takeTaught, .instanceMethod yX4_takeTaught, .selects RX4 yX4_takeTaught yX4_takeTaught, .initialized RX4, .code yX4_takeTaught cX4_takeTaught 3 none, .fieldLink RX4 39 "SpectrumHeadsModel" "row" "[I", .fieldLink RX4 22 "SpectrumHeadsModel" "taughtRow" "[I", .methodLink RX4 79 yX4_readRow, .instanceMethod yX4_readRow, .selects RX4 yX4_readRow yX4_readRow, .code yX4_readRow cX4_readRow 8 (some .int), .fieldLink RX4 45 "SpectrumHeadsModel" "kinds" "I", .fieldLink RX4 29 "SpectrumHeadsModel" "worths" "[J", .fieldLink RX4 25 "SpectrumHeadsModel" "least" "J", .methodLink RX4 69 yX4_sumOf, .instanceMethod yX4_sumOf, .selects RX4 yX4_sumOf yX4_sumOf, .code yX4_sumOf cX4_sumOf 11 (some .long), .fieldLink RX4 19 "SpectrumHeadsModel" "taughtKind" "[I"] ++ wsX40)
def wsX4_wrong_r1 : List Cond := [Cond.fieldLink RX4 49 "SpectrumHeadsModel" "fault" "I", Cond.constantLong RX4 82 (-1), Cond.fieldLink RX4 66 "SpectrumHeadsModel" "taught" "I", Cond.fieldLink RX4 19 "SpectrumHeadsModel" "taughtKind" "[I", Cond.methodLink RX4 73 yX4_isKind, Cond.instanceMethod yX4_isKind, Cond.selects RX4 yX4_isKind yX4_isKind, Cond.initialized RX4, Cond.code yX4_isKind cX4_isKind 2 (some .boolean), Cond.fieldLink RX4 45 "SpectrumHeadsModel" "kinds" "I", Cond.methodLink RX4 92 yX4_leftOut, Cond.instanceMethod yX4_leftOut, Cond.selects RX4 yX4_leftOut yX4_leftOut, Cond.code yX4_leftOut cX4_leftOut 2 (some .int), Cond.methodLink RX4 88 yX4_takeTaught, Cond.instanceMethod yX4_takeTaught, Cond.selects RX4 yX4_takeTaught yX4_takeTaught, Cond.code yX4_takeTaught cX4_takeTaught 3 none, Cond.fieldLink RX4 39 "SpectrumHeadsModel" "row" "[I", Cond.fieldLink RX4 22 "SpectrumHeadsModel" "taughtRow" "[I", Cond.methodLink RX4 79 yX4_readRow, Cond.instanceMethod yX4_readRow, Cond.selects RX4 yX4_readRow yX4_readRow, Cond.code yX4_readRow cX4_readRow 8 (some .int)]
def wsX4_wrong_r2 : List Cond := [Cond.fieldLink RX4 29 "SpectrumHeadsModel" "worths" "[J", Cond.fieldLink RX4 25 "SpectrumHeadsModel" "least" "J", Cond.methodLink RX4 69 yX4_sumOf, Cond.instanceMethod yX4_sumOf, Cond.selects RX4 yX4_sumOf yX4_sumOf, Cond.code yX4_sumOf cX4_sumOf 11 (some .long)]
def wsX4_wrong : List Cond := .code yX4_wrong cX4_wrong 6 (some .long) :: ((wsX4_wrong_r1 ++ wsX4_wrong_r2) ++ wsX40)
def wsX4_correct : List Cond := .code yX4_correct cX4_correct 4 (some .int) :: ([.fieldLink RX4 49 "SpectrumHeadsModel" "fault" "I", .fieldLink RX4 66 "SpectrumHeadsModel" "taught" "I", .fieldLink RX4 19 "SpectrumHeadsModel" "taughtKind" "[I", .methodLink RX4 73 yX4_isKind, .instanceMethod yX4_isKind, .selects RX4 yX4_isKind yX4_isKind, .initialized RX4, .code yX4_isKind cX4_isKind 2 (some .boolean), .fieldLink RX4 45 "SpectrumHeadsModel" "kinds" "I"] ++ wsX40)
def wsX4_isPlace : List Cond := .code yX4_isPlace cX4_isPlace 2 (some .boolean) :: ([])
def wsX4_pixel_r1 : List Cond := [Cond.fieldLink RX4 49 "SpectrumHeadsModel" "fault" "I", Cond.fieldLink RX4 33 "SpectrumHeadsModel" "field" "[I", Cond.fieldLink RX4 99 "SpectrumHeadsModel" "pixels" "I", Cond.methodLink RX4 95 yX4_isPlace, Cond.static yX4_isPlace, Cond.initialized RX4, Cond.code yX4_isPlace cX4_isPlace 2 (some .boolean), Cond.methodLink RX4 76 yX4_takeNow, Cond.instanceMethod yX4_takeNow, Cond.selects RX4 yX4_takeNow yX4_takeNow, Cond.code yX4_takeNow cX4_takeNow 2 none, Cond.fieldLink RX4 39 "SpectrumHeadsModel" "row" "[I", Cond.methodLink RX4 62 yX4_evened, Cond.instanceMethod yX4_evened, Cond.selects RX4 yX4_evened yX4_evened, Cond.code yX4_evened cX4_evened 3 (some .int), Cond.fieldLink RX4 13 "SpectrumHeadsModel" "whites" "[I", Cond.fieldLink RX4 7 "SpectrumHeadsModel" "darks" "[I", Cond.fieldLink RX4 16 "SpectrumHeadsModel" "values" "[I", Cond.methodLink RX4 79 yX4_readRow, Cond.instanceMethod yX4_readRow, Cond.selects RX4 yX4_readRow yX4_readRow, Cond.code yX4_readRow cX4_readRow 8 (some .int), Cond.fieldLink RX4 45 "SpectrumHeadsModel" "kinds" "I"]
def wsX4_pixel_r2 : List Cond := [Cond.fieldLink RX4 29 "SpectrumHeadsModel" "worths" "[J", Cond.fieldLink RX4 25 "SpectrumHeadsModel" "least" "J", Cond.methodLink RX4 69 yX4_sumOf, Cond.instanceMethod yX4_sumOf, Cond.selects RX4 yX4_sumOf yX4_sumOf, Cond.code yX4_sumOf cX4_sumOf 11 (some .long), Cond.fieldLink RX4 66 "SpectrumHeadsModel" "taught" "I", Cond.fieldLink RX4 19 "SpectrumHeadsModel" "taughtKind" "[I", Cond.fieldLink RX4 22 "SpectrumHeadsModel" "taughtRow" "[I"]
def wsX4_pixel : List Cond := .code yX4_pixel cX4_pixel 3 (some .boolean) :: ((wsX4_pixel_r1 ++ wsX4_pixel_r2) ++ wsX40)
def wsX4_isKnown : List Cond := .code yX4_isKnown cX4_isKnown 3 (some .boolean) :: ([.fieldLink RX4 33 "SpectrumHeadsModel" "field" "[I", .methodLink RX4 95 yX4_isPlace, .static yX4_isPlace, .initialized RX4, .code yX4_isPlace cX4_isPlace 2 (some .boolean)] ++ wsX40)
def wsX4_isOf : List Cond := .code yX4_isOf cX4_isOf 4 (some .boolean) :: ([.fieldLink RX4 42 "SpectrumHeadsModel" "pieces" "[I", .methodLink RX4 95 yX4_isPlace, .static yX4_isPlace, .initialized RX4, .code yX4_isPlace cX4_isPlace 2 (some .boolean)] ++ wsX40)
def wsX4_isBeside : List Cond := .code yX4_isBeside cX4_isBeside 4 (some .boolean) :: ([.methodLink RX4 112 yX4_isOf, .instanceMethod yX4_isOf, .selects RX4 yX4_isOf yX4_isOf, .initialized RX4, .code yX4_isOf cX4_isOf 4 (some .boolean), .fieldLink RX4 42 "SpectrumHeadsModel" "pieces" "[I", .methodLink RX4 95 yX4_isPlace, .static yX4_isPlace, .code yX4_isPlace cX4_isPlace 2 (some .boolean)] ++ wsX40)
def wsX4_spread : List Cond := .code yX4_spread cX4_spread 5 none :: ([.fieldLink RX4 42 "SpectrumHeadsModel" "pieces" "[I", .methodLink RX4 105 yX4_isKnown, .instanceMethod yX4_isKnown, .selects RX4 yX4_isKnown yX4_isKnown, .initialized RX4, .code yX4_isKnown cX4_isKnown 3 (some .boolean), .fieldLink RX4 33 "SpectrumHeadsModel" "field" "[I", .methodLink RX4 95 yX4_isPlace, .static yX4_isPlace, .code yX4_isPlace cX4_isPlace 2 (some .boolean), .methodLink RX4 108 yX4_isBeside, .instanceMethod yX4_isBeside, .selects RX4 yX4_isBeside yX4_isBeside, .code yX4_isBeside cX4_isBeside 4 (some .boolean), .methodLink RX4 112 yX4_isOf, .instanceMethod yX4_isOf, .selects RX4 yX4_isOf yX4_isOf, .code yX4_isOf cX4_isOf 4 (some .boolean)] ++ wsX40)
def wsX4_find : List Cond := .code yX4_find cX4_find 3 (some .int) :: ([.fieldLink RX4 42 "SpectrumHeadsModel" "pieces" "[I", .fieldLink RX4 33 "SpectrumHeadsModel" "field" "[I", .methodLink RX4 102 yX4_spread, .instanceMethod yX4_spread, .selects RX4 yX4_spread yX4_spread, .initialized RX4, .code yX4_spread cX4_spread 5 none, .methodLink RX4 105 yX4_isKnown, .instanceMethod yX4_isKnown, .selects RX4 yX4_isKnown yX4_isKnown, .code yX4_isKnown cX4_isKnown 3 (some .boolean), .methodLink RX4 95 yX4_isPlace, .static yX4_isPlace, .code yX4_isPlace cX4_isPlace 2 (some .boolean), .methodLink RX4 108 yX4_isBeside, .instanceMethod yX4_isBeside, .selects RX4 yX4_isBeside yX4_isBeside, .code yX4_isBeside cX4_isBeside 4 (some .boolean), .methodLink RX4 112 yX4_isOf, .instanceMethod yX4_isOf, .selects RX4 yX4_isOf yX4_isOf, .code yX4_isOf cX4_isOf 4 (some .boolean)] ++ wsX40)
def wsX4_piece_r1 : List Cond := [Cond.fieldLink RX4 49 "SpectrumHeadsModel" "fault" "I", Cond.fieldLink RX4 42 "SpectrumHeadsModel" "pieces" "[I", Cond.methodLink RX4 115 yX4_find, Cond.instanceMethod yX4_find, Cond.selects RX4 yX4_find yX4_find, Cond.initialized RX4, Cond.code yX4_find cX4_find 3 (some .int), Cond.fieldLink RX4 33 "SpectrumHeadsModel" "field" "[I", Cond.methodLink RX4 102 yX4_spread, Cond.instanceMethod yX4_spread, Cond.selects RX4 yX4_spread yX4_spread, Cond.code yX4_spread cX4_spread 5 none, Cond.methodLink RX4 105 yX4_isKnown, Cond.instanceMethod yX4_isKnown, Cond.selects RX4 yX4_isKnown yX4_isKnown, Cond.code yX4_isKnown cX4_isKnown 3 (some .boolean), Cond.methodLink RX4 95 yX4_isPlace, Cond.static yX4_isPlace, Cond.code yX4_isPlace cX4_isPlace 2 (some .boolean), Cond.methodLink RX4 108 yX4_isBeside, Cond.instanceMethod yX4_isBeside, Cond.selects RX4 yX4_isBeside yX4_isBeside, Cond.code yX4_isBeside cX4_isBeside 4 (some .boolean), Cond.methodLink RX4 112 yX4_isOf]
def wsX4_piece_r2 : List Cond := [Cond.instanceMethod yX4_isOf, Cond.selects RX4 yX4_isOf yX4_isOf, Cond.code yX4_isOf cX4_isOf 4 (some .boolean)]
def wsX4_piece : List Cond := .code yX4_piece cX4_piece 4 (some .int) :: ((wsX4_piece_r1 ++ wsX4_piece_r2) ++ wsX40)
def wsX4_pixelsOf : List Cond := .code yX4_pixelsOf cX4_pixelsOf 5 (some .int) :: ([.fieldLink RX4 42 "SpectrumHeadsModel" "pieces" "[I", .fieldLink RX4 33 "SpectrumHeadsModel" "field" "[I"] ++ wsX40)
def wsX4_pieceKind_r1 : List Cond := [Cond.fieldLink RX4 49 "SpectrumHeadsModel" "fault" "I", Cond.fieldLink RX4 45 "SpectrumHeadsModel" "kinds" "I", Cond.fieldLink RX4 29 "SpectrumHeadsModel" "worths" "[J", Cond.methodLink RX4 115 yX4_find, Cond.instanceMethod yX4_find, Cond.selects RX4 yX4_find yX4_find, Cond.initialized RX4, Cond.code yX4_find cX4_find 3 (some .int), Cond.fieldLink RX4 42 "SpectrumHeadsModel" "pieces" "[I", Cond.fieldLink RX4 33 "SpectrumHeadsModel" "field" "[I", Cond.methodLink RX4 102 yX4_spread, Cond.instanceMethod yX4_spread, Cond.selects RX4 yX4_spread yX4_spread, Cond.code yX4_spread cX4_spread 5 none, Cond.methodLink RX4 105 yX4_isKnown, Cond.instanceMethod yX4_isKnown, Cond.selects RX4 yX4_isKnown yX4_isKnown, Cond.code yX4_isKnown cX4_isKnown 3 (some .boolean), Cond.methodLink RX4 95 yX4_isPlace, Cond.static yX4_isPlace, Cond.code yX4_isPlace cX4_isPlace 2 (some .boolean), Cond.methodLink RX4 108 yX4_isBeside, Cond.instanceMethod yX4_isBeside, Cond.selects RX4 yX4_isBeside yX4_isBeside]
def wsX4_pieceKind_r2 : List Cond := [Cond.code yX4_isBeside cX4_isBeside 4 (some .boolean), Cond.methodLink RX4 112 yX4_isOf, Cond.instanceMethod yX4_isOf, Cond.selects RX4 yX4_isOf yX4_isOf, Cond.code yX4_isOf cX4_isOf 4 (some .boolean), Cond.methodLink RX4 119 yX4_pixelsOf, Cond.instanceMethod yX4_pixelsOf, Cond.selects RX4 yX4_pixelsOf yX4_pixelsOf, Cond.code yX4_pixelsOf cX4_pixelsOf 5 (some .int)]
def wsX4_pieceKind : List Cond := .code yX4_pieceKind cX4_pieceKind 6 (some .int) :: ((wsX4_pieceKind_r1 ++ wsX4_pieceKind_r2) ++ wsX40)
def wsX4_areNear : List Cond := .code yX4_areNear cX4_areNear 7 (some .boolean) :: ([.methodLink RX4 112 yX4_isOf, .instanceMethod yX4_isOf, .selects RX4 yX4_isOf yX4_isOf, .initialized RX4, .code yX4_isOf cX4_isOf 4 (some .boolean), .fieldLink RX4 42 "SpectrumHeadsModel" "pieces" "[I", .methodLink RX4 95 yX4_isPlace, .static yX4_isPlace, .code yX4_isPlace cX4_isPlace 2 (some .boolean)] ++ wsX40)
def wsX4_neighbours_r1 : List Cond := [Cond.fieldLink RX4 49 "SpectrumHeadsModel" "fault" "I", Cond.methodLink RX4 115 yX4_find, Cond.instanceMethod yX4_find, Cond.selects RX4 yX4_find yX4_find, Cond.initialized RX4, Cond.code yX4_find cX4_find 3 (some .int), Cond.fieldLink RX4 42 "SpectrumHeadsModel" "pieces" "[I", Cond.fieldLink RX4 33 "SpectrumHeadsModel" "field" "[I", Cond.methodLink RX4 102 yX4_spread, Cond.instanceMethod yX4_spread, Cond.selects RX4 yX4_spread yX4_spread, Cond.code yX4_spread cX4_spread 5 none, Cond.methodLink RX4 105 yX4_isKnown, Cond.instanceMethod yX4_isKnown, Cond.selects RX4 yX4_isKnown yX4_isKnown, Cond.code yX4_isKnown cX4_isKnown 3 (some .boolean), Cond.methodLink RX4 95 yX4_isPlace, Cond.static yX4_isPlace, Cond.code yX4_isPlace cX4_isPlace 2 (some .boolean), Cond.methodLink RX4 108 yX4_isBeside, Cond.instanceMethod yX4_isBeside, Cond.selects RX4 yX4_isBeside yX4_isBeside, Cond.code yX4_isBeside cX4_isBeside 4 (some .boolean), Cond.methodLink RX4 112 yX4_isOf]
def wsX4_neighbours_r2 : List Cond := [Cond.instanceMethod yX4_isOf, Cond.selects RX4 yX4_isOf yX4_isOf, Cond.code yX4_isOf cX4_isOf 4 (some .boolean), Cond.methodLink RX4 123 yX4_areNear, Cond.instanceMethod yX4_areNear, Cond.selects RX4 yX4_areNear yX4_areNear, Cond.code yX4_areNear cX4_areNear 7 (some .boolean)]
def wsX4_neighbours : List Cond := .code yX4_neighbours cX4_neighbours 5 (some .int) :: ((wsX4_neighbours_r1 ++ wsX4_neighbours_r2) ++ wsX40)
def wsX4_packed : List Cond := .code yX4_packed cX4_packed 4 (some .int) :: ([.fieldLink RX4 45 "SpectrumHeadsModel" "kinds" "I", .fieldLink RX4 66 "SpectrumHeadsModel" "taught" "I", .fieldLink RX4 19 "SpectrumHeadsModel" "taughtKind" "[I", .fieldLink RX4 22 "SpectrumHeadsModel" "taughtRow" "[I"] ++ wsX40)
def wsX4_pack : List Cond := .code yX4_pack cX4_pack 5 (some .int) :: ([.fieldLink RX4 49 "SpectrumHeadsModel" "fault" "I", .fieldLink RX4 66 "SpectrumHeadsModel" "taught" "I", .methodLink RX4 126 yX4_packed, .instanceMethod yX4_packed, .selects RX4 yX4_packed yX4_packed, .initialized RX4, .code yX4_packed cX4_packed 4 (some .int), .fieldLink RX4 45 "SpectrumHeadsModel" "kinds" "I", .fieldLink RX4 19 "SpectrumHeadsModel" "taughtKind" "[I", .fieldLink RX4 22 "SpectrumHeadsModel" "taughtRow" "[I"] ++ wsX40)
def wsX4_feed : List Cond := .code yX4_feed cX4_feed 2 (some .boolean) :: ([.fieldLink RX4 49 "SpectrumHeadsModel" "fault" "I", .fieldLink RX4 129 "SpectrumHeadsModel" "fedCount" "I", .fieldLink RX4 36 "SpectrumHeadsModel" "fed" "[I", .methodLink RX4 56 yX4_isByte, .static yX4_isByte, .initialized RX4, .code yX4_isByte cX4_isByte 1 (some .boolean)] ++ wsX40)
def wsX4_open : List Cond := .code yX4_open cX4_open 6 (some .int) :: ([.fieldLink RX4 49 "SpectrumHeadsModel" "fault" "I", .fieldLink RX4 129 "SpectrumHeadsModel" "fedCount" "I", .fieldLink RX4 36 "SpectrumHeadsModel" "fed" "[I", .fieldLink RX4 45 "SpectrumHeadsModel" "kinds" "I", .fieldLink RX4 66 "SpectrumHeadsModel" "taught" "I", .fieldLink RX4 19 "SpectrumHeadsModel" "taughtKind" "[I", .fieldLink RX4 22 "SpectrumHeadsModel" "taughtRow" "[I"] ++ wsX40)
def wsJx00060_init_a7421 : List Cond := .code yJx00060_init_a7421 cJx00060_init_a7421 2 none :: ([])
def wsJ9_min_7cf53 : List Cond := .code yJ9_min_7cf53 cJ9_min_7cf53 2 (some .int) :: ([])
def wsL_cell : List Cond := .code yL_cell cL_cell 2 (some .int) :: ([])
def wsL_white : List Cond := .codeWith yL_white cL_white 5 (some .int) [(0, 17, 20, 13)] :: ([.methodLink RL 7 yX3_white, .instanceMethod yX3_white, .selects RX3 yX3_white yX3_white, .initialized RX3, .code yX3_white cX3_white 3 (some .boolean), .classLink RX3 64 RJx00060, .instantiable RJx00060 6, .initialized RJx00060, .fieldLink RX3 16 "SpectrumHeads" "channels" "LSpectrumHeads$Channels;", .methodLink RX3 60 yX3_isChannel, .static yX3_isChannel, .code yX3_isChannel cX3_isChannel 1 (some .boolean), .methodLink RX3 71 yX3_isByte, .static yX3_isByte, .code yX3_isByte cX3_isByte 1 (some .boolean), .methodLink RX3 74 yX1_setWhite, .instanceMethod yX1_setWhite, .selects RX1 yX1_setWhite yX1_setWhite, .initialized RX1, .code yX1_setWhite cX1_setWhite 3 (some .boolean), .fieldLink RX1 15 "SpectrumHeads$Channels" "whites" "[I"] ++ wsJx000600 ++ wsX30 ++ wsX10)
def wsL_law_r1 : List Cond := [Cond.classLink RL 8 RX3, Cond.instantiable RX3 11, Cond.initialized RX3, Cond.classLink RL 24 RX4, Cond.instantiable RX4 17, Cond.initialized RX4, Cond.arrayClass .long, Cond.constantLong RL 43 (4294967295), Cond.methodLink RL 15 yL_cell, Cond.static yL_cell, Cond.initialized RL, Cond.code yL_cell cL_cell 2 (some .int), Cond.methodLink RL 21 yX3_init, Cond.instanceMethod yX3_init, Cond.code yX3_init cX3_init 2 none, Cond.methodLink RX3 1 objectInit, Cond.instanceMethod objectInit, Cond.code objectInit ⟨#[0xb1]⟩ 1 none, Cond.fieldLink RX3 9 "SpectrumHeads" "kinds" "I", Cond.classLink RX3 13 RX1, Cond.instantiable RX1 4, Cond.initialized RX1, Cond.fieldLink RX3 16 "SpectrumHeads" "channels" "LSpectrumHeads$Channels;", Cond.classLink RX3 20 RX2]
def wsL_law_r2 : List Cond := [Cond.instantiable RX2 6, Cond.initialized RX2, Cond.fieldLink RX3 25 "SpectrumHeads" "table" "LSpectrumHeads$Table;", Cond.classLink RX3 29 RX0, Cond.instantiable RX0 7, Cond.initialized RX0, Cond.fieldLink RX3 32 "SpectrumHeads" "belt" "LSpectrumHeads$Belt;", Cond.fieldLink RX3 36 "SpectrumHeads" "worths" "[J", Cond.fieldLink RX3 40 "SpectrumHeads" "least" "J", Cond.arrayClass .int, Cond.fieldLink RX3 44 "SpectrumHeads" "fed" "[I", Cond.fieldLink RX3 48 "SpectrumHeads" "fedCount" "I", Cond.fieldLink RX3 51 "SpectrumHeads" "nowRow" "[I", Cond.fieldLink RX3 54 "SpectrumHeads" "nowCells" "[I", Cond.fieldLink RX3 57 "SpectrumHeads" "scores" "[J", Cond.methodLink RX3 15 yX1_init, Cond.instanceMethod yX1_init, Cond.code yX1_init cX1_init 1 none, Cond.methodLink RX1 3 objectInit, Cond.fieldLink RX1 9 "SpectrumHeads$Channels" "darks" "[I", Cond.fieldLink RX1 15 "SpectrumHeads$Channels" "whites" "[I", Cond.fieldLink RX1 18 "SpectrumHeads$Channels" "values" "[I", Cond.fieldLink RX1 27 "SpectrumHeads$Channels" "lastTick" "J", Cond.methodLink RX1 21 yJ7_fill_53178]
def wsL_law_r3 : List Cond := [Cond.static yJ7_fill_53178, Cond.initialized RJ7, Cond.code yJ7_fill_53178 cJ7_fill_53178 4 none, Cond.methodLink RX3 22 yX2_init, Cond.instanceMethod yX2_init, Cond.code yX2_init cX2_init 2 none, Cond.methodLink RX2 3 objectInit, Cond.fieldLink RX2 9 "SpectrumHeads$Table" "rowKinds" "[I", Cond.classLink RX2 15 "[[I", Cond.fieldLink RX2 17 "SpectrumHeads$Table" "rows" "[[I", Cond.fieldLink RX2 20 "SpectrumHeads$Table" "rowCells" "[[I", Cond.fieldLink RX2 23 "SpectrumHeads$Table" "alike" "[I", Cond.fieldLink RX2 26 "SpectrumHeads$Table" "kinds" "I", Cond.fieldLink RX2 30 "SpectrumHeads$Table" "count" "I", Cond.methodLink RX3 31 yX0_init, Cond.instanceMethod yX0_init, Cond.code yX0_init cX0_init 1 none, Cond.methodLink RX0 3 objectInit, Cond.fieldLink RX0 11 "SpectrumHeads$Belt" "kindAt" "[I", Cond.fieldLink RX0 15 "SpectrumHeads$Belt" "numberAt" "[I", Cond.fieldLink RX0 18 "SpectrumHeads$Belt" "joined" "[I", Cond.fieldLink RX0 21 "SpectrumHeads$Belt" "met" "[I", Cond.fieldLink RX0 30 "SpectrumHeads$Belt" "joinedCount" "I", Cond.fieldLink RX0 34 "SpectrumHeads$Belt" "pixels" "I"]
def wsL_law_r4 : List Cond := [Cond.fieldLink RX0 37 "SpectrumHeads$Belt" "pieces" "I", Cond.methodLink RX0 24 yJ7_fill_53178, Cond.methodLink RL 26 yX4_init, Cond.instanceMethod yX4_init, Cond.code yX4_init cX4_init 3 none, Cond.methodLink RX4 1 objectInit, Cond.fieldLink RX4 7 "SpectrumHeadsModel" "darks" "[I", Cond.fieldLink RX4 13 "SpectrumHeadsModel" "whites" "[I", Cond.fieldLink RX4 16 "SpectrumHeadsModel" "values" "[I", Cond.fieldLink RX4 19 "SpectrumHeadsModel" "taughtKind" "[I", Cond.fieldLink RX4 22 "SpectrumHeadsModel" "taughtRow" "[I", Cond.fieldLink RX4 25 "SpectrumHeadsModel" "least" "J", Cond.fieldLink RX4 29 "SpectrumHeadsModel" "worths" "[J", Cond.fieldLink RX4 33 "SpectrumHeadsModel" "field" "[I", Cond.fieldLink RX4 36 "SpectrumHeadsModel" "fed" "[I", Cond.fieldLink RX4 39 "SpectrumHeadsModel" "row" "[I", Cond.fieldLink RX4 42 "SpectrumHeadsModel" "pieces" "[I", Cond.fieldLink RX4 45 "SpectrumHeadsModel" "kinds" "I", Cond.methodLink RL 27 yL_white, Cond.static yL_white, Cond.codeWith yL_white cL_white 5 (some .int) [(0, 17, 20, 13)], Cond.methodLink RL 7 yX3_white, Cond.instanceMethod yX3_white, Cond.selects RX3 yX3_white yX3_white]
def wsL_law_r5 : List Cond := [Cond.code yX3_white cX3_white 3 (some .boolean), Cond.classLink RX3 64 RJx00060, Cond.instantiable RJx00060 6, Cond.initialized RJx00060, Cond.methodLink RX3 60 yX3_isChannel, Cond.static yX3_isChannel, Cond.code yX3_isChannel cX3_isChannel 1 (some .boolean), Cond.methodLink RX3 71 yX3_isByte, Cond.static yX3_isByte, Cond.code yX3_isByte cX3_isByte 1 (some .boolean), Cond.methodLink RX3 74 yX1_setWhite, Cond.instanceMethod yX1_setWhite, Cond.selects RX1 yX1_setWhite yX1_setWhite, Cond.code yX1_setWhite cX1_setWhite 3 (some .boolean), Cond.methodLink RL 30 yX4_white, Cond.instanceMethod yX4_white, Cond.selects RX4 yX4_white yX4_white, Cond.code yX4_white cX4_white 3 (some .boolean), Cond.fieldLink RX4 49 "SpectrumHeadsModel" "fault" "I", Cond.methodLink RX4 52 yX4_isChannel, Cond.static yX4_isChannel, Cond.code yX4_isChannel cX4_isChannel 1 (some .boolean), Cond.methodLink RX4 56 yX4_isByte, Cond.static yX4_isByte]
def wsL_law_r6 : List Cond := [Cond.code yX4_isByte cX4_isByte 1 (some .boolean), Cond.methodLink RL 31 yX4_thrown, Cond.instanceMethod yX4_thrown, Cond.selects RX4 yX4_thrown yX4_thrown, Cond.code yX4_thrown cX4_thrown 1 (some .int), Cond.methodLink RL 35 yX3_dark, Cond.instanceMethod yX3_dark, Cond.selects RX3 yX3_dark yX3_dark, Cond.code yX3_dark cX3_dark 3 (some .boolean), Cond.methodLink RX3 78 yX1_setDark, Cond.instanceMethod yX1_setDark, Cond.selects RX1 yX1_setDark yX1_setDark, Cond.code yX1_setDark cX1_setDark 3 (some .boolean), Cond.methodLink RL 38 yX4_dark, Cond.instanceMethod yX4_dark, Cond.selects RX4 yX4_dark yX4_dark, Cond.code yX4_dark cX4_dark 3 (some .boolean), Cond.methodLink RL 39 yX3_value, Cond.instanceMethod yX3_value, Cond.selects RX3 yX3_value yX3_value, Cond.code yX3_value cX3_value 3 (some .boolean), Cond.methodLink RX3 81 yX1_setValue, Cond.instanceMethod yX1_setValue, Cond.selects RX1 yX1_setValue yX1_setValue]
def wsL_law_r7 : List Cond := [Cond.code yX1_setValue cX1_setValue 3 (some .boolean), Cond.methodLink RL 42 yX4_value, Cond.instanceMethod yX4_value, Cond.selects RX4 yX4_value yX4_value, Cond.code yX4_value cX4_value 3 (some .boolean), Cond.methodLink RL 45 yX3_reference, Cond.instanceMethod yX3_reference, Cond.selects RX3 yX3_reference yX3_reference, Cond.code yX3_reference cX3_reference 5 (some .boolean), Cond.methodLink RX3 84 yX1_setWhiteAt, Cond.instanceMethod yX1_setWhiteAt, Cond.selects RX1 yX1_setWhiteAt yX1_setWhiteAt, Cond.code yX1_setWhiteAt cX1_setWhiteAt 5 (some .boolean), Cond.methodLink RX1 31 yX1_setWhite, Cond.methodLink RL 49 yX4_reference, Cond.instanceMethod yX4_reference, Cond.selects RX4 yX4_reference yX4_reference, Cond.code yX4_reference cX4_reference 5 (some .boolean), Cond.fieldLink RX4 59 "SpectrumHeadsModel" "lastTick" "J", Cond.methodLink RL 50 yX3_teach, Cond.instanceMethod yX3_teach, Cond.selects RX3 yX3_teach yX3_teach, Cond.code yX3_teach cX3_teach 2 (some .int), Cond.methodLink RX3 88 yX3_isKind]
def wsL_law_r8 : List Cond := [Cond.instanceMethod yX3_isKind, Cond.selects RX3 yX3_isKind yX3_isKind, Cond.code yX3_isKind cX3_isKind 2 (some .boolean), Cond.methodLink RX3 91 yX3_lookAtNow, Cond.instanceMethod yX3_lookAtNow, Cond.selects RX3 yX3_lookAtNow yX3_lookAtNow, Cond.code yX3_lookAtNow cX3_lookAtNow 1 none, Cond.methodLink RX3 164 yX1_fillRow, Cond.instanceMethod yX1_fillRow, Cond.selects RX1 yX1_fillRow yX1_fillRow, Cond.code yX1_fillRow cX1_fillRow 3 none, Cond.methodLink RX1 35 yX1_evened, Cond.instanceMethod yX1_evened, Cond.selects RX1 yX1_evened yX1_evened, Cond.code yX1_evened cX1_evened 4 (some .int), Cond.methodLink RX1 39 Lib.Math.min.name, Cond.static Lib.Math.min.name, Cond.initialized "java/lang/Math", Cond.code Lib.Math.min.name Lib.Math.min.code 2 (some .int), Cond.methodLink RX3 167 yX2_fillCells, Cond.static yX2_fillCells, Cond.code yX2_fillCells cX2_fillCells 3 none, Cond.methodLink RX3 94 yX2_add, Cond.instanceMethod yX2_add]
def wsL_law_r9 : List Cond := [Cond.selects RX2 yX2_add yX2_add, Cond.code yX2_add cX2_add 4 (some .int), Cond.methodLink RX2 33 yX2_put, Cond.instanceMethod yX2_put, Cond.selects RX2 yX2_put yX2_put, Cond.code yX2_put cX2_put 5 none, Cond.methodLink RX2 37 arraycopyName, Cond.native arraycopyName, Cond.static arraycopyName, Cond.initialized "java/lang/System", Cond.methodLink RX2 43 yX2_fillCells, Cond.methodLink RL 54 yX4_teach, Cond.instanceMethod yX4_teach, Cond.selects RX4 yX4_teach yX4_teach, Cond.code yX4_teach cX4_teach 3 (some .int), Cond.fieldLink RX4 66 "SpectrumHeadsModel" "taught" "I", Cond.methodLink RX4 73 yX4_isKind, Cond.instanceMethod yX4_isKind, Cond.selects RX4 yX4_isKind yX4_isKind, Cond.code yX4_isKind cX4_isKind 2 (some .boolean), Cond.methodLink RX4 76 yX4_takeNow, Cond.instanceMethod yX4_takeNow, Cond.selects RX4 yX4_takeNow yX4_takeNow, Cond.code yX4_takeNow cX4_takeNow 2 none]
def wsL_law_r10 : List Cond := [Cond.methodLink RX4 62 yX4_evened, Cond.instanceMethod yX4_evened, Cond.selects RX4 yX4_evened yX4_evened, Cond.code yX4_evened cX4_evened 3 (some .int), Cond.methodLink RL 55 yX3_read, Cond.instanceMethod yX3_read, Cond.selects RX3 yX3_read yX3_read, Cond.code yX3_read cX3_read 1 (some .int), Cond.methodLink RX3 98 yX3_readCells, Cond.instanceMethod yX3_readCells, Cond.selects RX3 yX3_readCells yX3_readCells, Cond.code yX3_readCells cX3_readCells 4 (some .int), Cond.methodLink RX3 104 yX2_sumOf, Cond.instanceMethod yX2_sumOf, Cond.selects RX2 yX2_sumOf yX2_sumOf, Cond.code yX2_sumOf cX2_sumOf 8 (some .long), Cond.methodLink RX2 47 yJ7_fill_53178, Cond.methodLink RX2 53 yX2_countAlike, Cond.instanceMethod yX2_countAlike, Cond.selects RX2 yX2_countAlike yX2_countAlike, Cond.code yX2_countAlike cX2_countAlike 4 none, Cond.methodLink RX3 147 yX3_greatest, Cond.instanceMethod yX3_greatest, Cond.selects RX3 yX3_greatest yX3_greatest]
def wsL_law_r11 : List Cond := [Cond.code yX3_greatest cX3_greatest 4 (some .int), Cond.methodLink RL 58 yX4_read, Cond.instanceMethod yX4_read, Cond.selects RX4 yX4_read yX4_read, Cond.code yX4_read cX4_read 1 (some .int), Cond.methodLink RX4 79 yX4_readRow, Cond.instanceMethod yX4_readRow, Cond.selects RX4 yX4_readRow yX4_readRow, Cond.code yX4_readRow cX4_readRow 8 (some .int), Cond.methodLink RX4 69 yX4_sumOf, Cond.instanceMethod yX4_sumOf, Cond.selects RX4 yX4_sumOf yX4_sumOf, Cond.code yX4_sumOf cX4_sumOf 11 (some .long), Cond.methodLink RL 59 yX3_sum, Cond.instanceMethod yX3_sum, Cond.selects RX3 yX3_sum yX3_sum, Cond.code yX3_sum cX3_sum 2 (some .long), Cond.constantLong RX3 102 (-1), Cond.methodLink RL 63 yX4_sum, Cond.instanceMethod yX4_sum, Cond.selects RX4 yX4_sum yX4_sum, Cond.code yX4_sum cX4_sum 2 (some .long), Cond.constantLong RX4 82 (-1), Cond.methodLink RL 64 yX3_bound]
def wsL_law_r12 : List Cond := [Cond.instanceMethod yX3_bound, Cond.selects RX3 yX3_bound yX3_bound, Cond.code yX3_bound cX3_bound 3 (some .boolean), Cond.constantLong RX3 108 (10000), Cond.methodLink RL 68 yX4_bound, Cond.instanceMethod yX4_bound, Cond.selects RX4 yX4_bound yX4_bound, Cond.code yX4_bound cX4_bound 3 (some .boolean), Cond.constantLong RX4 84 (10000), Cond.methodLink RL 69 yX3_worth, Cond.instanceMethod yX3_worth, Cond.selects RX3 yX3_worth yX3_worth, Cond.code yX3_worth cX3_worth 4 (some .boolean), Cond.constantLong RX3 110 (1000000), Cond.methodLink RL 73 yX4_worth, Cond.instanceMethod yX4_worth, Cond.selects RX4 yX4_worth yX4_worth, Cond.code yX4_worth cX4_worth 4 (some .boolean), Cond.constantLong RX4 86 (1000000), Cond.methodLink RL 74 yX3_leftOut, Cond.instanceMethod yX3_leftOut, Cond.selects RX3 yX3_leftOut yX3_leftOut, Cond.code yX3_leftOut cX3_leftOut 2 (some .int), Cond.methodLink RX3 112 yX2_has]
def wsL_law_r13 : List Cond := [Cond.instanceMethod yX2_has, Cond.selects RX2 yX2_has yX2_has, Cond.code yX2_has cX2_has 2 (some .boolean), Cond.methodLink RX3 115 yX3_readWithout, Cond.instanceMethod yX3_readWithout, Cond.selects RX3 yX3_readWithout yX3_readWithout, Cond.code yX3_readWithout cX3_readWithout 2 (some .int), Cond.methodLink RX3 171 yX2_cellsOf, Cond.instanceMethod yX2_cellsOf, Cond.selects RX2 yX2_cellsOf yX2_cellsOf, Cond.code yX2_cellsOf cX2_cellsOf 2 (some (.array .int)), Cond.methodLink RL 77 yX4_leftOut, Cond.instanceMethod yX4_leftOut, Cond.selects RX4 yX4_leftOut yX4_leftOut, Cond.code yX4_leftOut cX4_leftOut 2 (some .int), Cond.methodLink RX4 88 yX4_takeTaught, Cond.instanceMethod yX4_takeTaught, Cond.selects RX4 yX4_takeTaught yX4_takeTaught, Cond.code yX4_takeTaught cX4_takeTaught 3 none, Cond.methodLink RL 78 yX3_wrong, Cond.instanceMethod yX3_wrong, Cond.selects RX3 yX3_wrong yX3_wrong, Cond.code yX3_wrong cX3_wrong 7 (some .long), Cond.methodLink RX3 119 yX2_size]
def wsL_law_r14 : List Cond := [Cond.instanceMethod yX2_size, Cond.selects RX2 yX2_size yX2_size, Cond.code yX2_size cX2_size 1 (some .int), Cond.methodLink RX3 123 yX2_kindOf, Cond.instanceMethod yX2_kindOf, Cond.selects RX2 yX2_kindOf yX2_kindOf, Cond.code yX2_kindOf cX2_kindOf 2 (some .int), Cond.methodLink RL 82 yX4_wrong, Cond.instanceMethod yX4_wrong, Cond.selects RX4 yX4_wrong yX4_wrong, Cond.code yX4_wrong cX4_wrong 6 (some .long), Cond.methodLink RX4 92 yX4_leftOut, Cond.methodLink RL 83 yX3_correct, Cond.instanceMethod yX3_correct, Cond.selects RX3 yX3_correct yX3_correct, Cond.code yX3_correct cX3_correct 4 (some .int), Cond.methodLink RX3 126 yX2_setKind, Cond.instanceMethod yX2_setKind, Cond.selects RX2 yX2_setKind yX2_setKind, Cond.code yX2_setKind cX2_setKind 3 none, Cond.methodLink RL 87 yX4_correct, Cond.instanceMethod yX4_correct, Cond.selects RX4 yX4_correct yX4_correct, Cond.code yX4_correct cX4_correct 4 (some .int)]
def wsL_law_r15 : List Cond := [Cond.methodLink RL 88 yX3_pixel, Cond.instanceMethod yX3_pixel, Cond.selects RX3 yX3_pixel yX3_pixel, Cond.code yX3_pixel cX3_pixel 3 (some .boolean), Cond.methodLink RX3 130 yX0_isFree, Cond.instanceMethod yX0_isFree, Cond.selects RX0 yX0_isFree yX0_isFree, Cond.code yX0_isFree cX0_isFree 3 (some .boolean), Cond.methodLink RX0 40 yX0_isPlace, Cond.static yX0_isPlace, Cond.code yX0_isPlace cX0_isPlace 2 (some .boolean), Cond.methodLink RX3 133 yX0_tell, Cond.instanceMethod yX0_tell, Cond.selects RX0 yX0_tell yX0_tell, Cond.code yX0_tell cX0_tell 4 none, Cond.methodLink RX0 44 yX0_numberPieces, Cond.instanceMethod yX0_numberPieces, Cond.selects RX0 yX0_numberPieces yX0_numberPieces, Cond.code yX0_numberPieces cX0_numberPieces 2 none, Cond.methodLink RX0 47 yX0_joinFrom, Cond.instanceMethod yX0_joinFrom, Cond.selects RX0 yX0_joinFrom yX0_joinFrom, Cond.code yX0_joinFrom cX0_joinFrom 5 none, Cond.methodLink RX0 51 yX0_join]
def wsL_law_r16 : List Cond := [Cond.instanceMethod yX0_join, Cond.selects RX0 yX0_join yX0_join, Cond.code yX0_join cX0_join 4 none, Cond.methodLink RL 91 yX4_pixel, Cond.instanceMethod yX4_pixel, Cond.selects RX4 yX4_pixel yX4_pixel, Cond.code yX4_pixel cX4_pixel 3 (some .boolean), Cond.fieldLink RX4 99 "SpectrumHeadsModel" "pixels" "I", Cond.methodLink RX4 95 yX4_isPlace, Cond.static yX4_isPlace, Cond.code yX4_isPlace cX4_isPlace 2 (some .boolean), Cond.methodLink RL 92 yX3_piece, Cond.instanceMethod yX3_piece, Cond.selects RX3 yX3_piece yX3_piece, Cond.code yX3_piece cX3_piece 3 (some .int), Cond.methodLink RX3 137 yX0_pieceAt, Cond.instanceMethod yX0_pieceAt, Cond.selects RX0 yX0_pieceAt yX0_pieceAt, Cond.code yX0_pieceAt cX0_pieceAt 3 (some .int), Cond.methodLink RL 95 yX4_piece, Cond.instanceMethod yX4_piece, Cond.selects RX4 yX4_piece yX4_piece, Cond.code yX4_piece cX4_piece 4 (some .int), Cond.methodLink RX4 115 yX4_find]
def wsL_law_r17 : List Cond := [Cond.instanceMethod yX4_find, Cond.selects RX4 yX4_find yX4_find, Cond.code yX4_find cX4_find 3 (some .int), Cond.methodLink RX4 102 yX4_spread, Cond.instanceMethod yX4_spread, Cond.selects RX4 yX4_spread yX4_spread, Cond.code yX4_spread cX4_spread 5 none, Cond.methodLink RX4 105 yX4_isKnown, Cond.instanceMethod yX4_isKnown, Cond.selects RX4 yX4_isKnown yX4_isKnown, Cond.code yX4_isKnown cX4_isKnown 3 (some .boolean), Cond.methodLink RX4 108 yX4_isBeside, Cond.instanceMethod yX4_isBeside, Cond.selects RX4 yX4_isBeside yX4_isBeside, Cond.code yX4_isBeside cX4_isBeside 4 (some .boolean), Cond.methodLink RX4 112 yX4_isOf, Cond.instanceMethod yX4_isOf, Cond.selects RX4 yX4_isOf yX4_isOf, Cond.code yX4_isOf cX4_isOf 4 (some .boolean), Cond.methodLink RL 96 yX3_pieceKind, Cond.instanceMethod yX3_pieceKind, Cond.selects RX3 yX3_pieceKind yX3_pieceKind, Cond.code yX3_pieceKind cX3_pieceKind 3 (some .int), Cond.methodLink RX3 141 yX0_hasPiece]
def wsL_law_r18 : List Cond := [Cond.instanceMethod yX0_hasPiece, Cond.selects RX0 yX0_hasPiece yX0_hasPiece, Cond.code yX0_hasPiece cX0_hasPiece 2 (some .boolean), Cond.methodLink RX3 144 yX0_countIn, Cond.instanceMethod yX0_countIn, Cond.selects RX0 yX0_countIn yX0_countIn, Cond.code yX0_countIn cX0_countIn 5 (some .int), Cond.methodLink RL 99 yX4_pieceKind, Cond.instanceMethod yX4_pieceKind, Cond.selects RX4 yX4_pieceKind yX4_pieceKind, Cond.code yX4_pieceKind cX4_pieceKind 6 (some .int), Cond.methodLink RX4 119 yX4_pixelsOf, Cond.instanceMethod yX4_pixelsOf, Cond.selects RX4 yX4_pixelsOf yX4_pixelsOf, Cond.code yX4_pixelsOf cX4_pixelsOf 5 (some .int), Cond.methodLink RL 100 yX3_neighbours, Cond.instanceMethod yX3_neighbours, Cond.selects RX3 yX3_neighbours yX3_neighbours, Cond.code yX3_neighbours cX3_neighbours 2 (some .int), Cond.methodLink RX3 150 yX0_countNeighbours, Cond.instanceMethod yX0_countNeighbours, Cond.selects RX0 yX0_countNeighbours yX0_countNeighbours, Cond.code yX0_countNeighbours cX0_countNeighbours 4 (some .int), Cond.methodLink RX0 55 yX0_meetRound]
def wsL_law_r19 : List Cond := [Cond.instanceMethod yX0_meetRound, Cond.selects RX0 yX0_meetRound yX0_meetRound, Cond.code yX0_meetRound cX0_meetRound 6 none, Cond.methodLink RX0 58 yX0_pieceAt, Cond.methodLink RL 103 yX4_neighbours, Cond.instanceMethod yX4_neighbours, Cond.selects RX4 yX4_neighbours yX4_neighbours, Cond.code yX4_neighbours cX4_neighbours 5 (some .int), Cond.methodLink RX4 123 yX4_areNear, Cond.instanceMethod yX4_areNear, Cond.selects RX4 yX4_areNear yX4_areNear, Cond.code yX4_areNear cX4_areNear 7 (some .boolean), Cond.methodLink RL 104 yX3_pack, Cond.instanceMethod yX3_pack, Cond.selects RX3 yX3_pack yX3_pack, Cond.code yX3_pack cX3_pack 2 (some .int), Cond.methodLink RX3 153 yX2_packedByte, Cond.instanceMethod yX2_packedByte, Cond.selects RX2 yX2_packedByte yX2_packedByte, Cond.code yX2_packedByte cX2_packedByte 3 (some .int), Cond.methodLink RX2 56 yX2_plainByte, Cond.instanceMethod yX2_plainByte, Cond.selects RX2 yX2_plainByte yX2_plainByte, Cond.code yX2_plainByte cX2_plainByte 4 (some .int)]
def wsL_law_r20 : List Cond := [Cond.methodLink RX2 60 yX2_check, Cond.instanceMethod yX2_check, Cond.selects RX2 yX2_check yX2_check, Cond.code yX2_check cX2_check 4 (some .int), Cond.methodLink RL 107 yX4_pack, Cond.instanceMethod yX4_pack, Cond.selects RX4 yX4_pack yX4_pack, Cond.code yX4_pack cX4_pack 5 (some .int), Cond.methodLink RX4 126 yX4_packed, Cond.instanceMethod yX4_packed, Cond.selects RX4 yX4_packed yX4_packed, Cond.code yX4_packed cX4_packed 4 (some .int), Cond.methodLink RL 108 yX3_feed, Cond.instanceMethod yX3_feed, Cond.selects RX3 yX3_feed yX3_feed, Cond.code yX3_feed cX3_feed 2 (some .boolean), Cond.methodLink RL 112 yX4_feed, Cond.instanceMethod yX4_feed, Cond.selects RX4 yX4_feed yX4_feed, Cond.code yX4_feed cX4_feed 2 (some .boolean), Cond.fieldLink RX4 129 "SpectrumHeadsModel" "fedCount" "I", Cond.methodLink RL 113 yX3_open, Cond.instanceMethod yX3_open, Cond.selects RX3 yX3_open yX3_open]
def wsL_law_r21 : List Cond := [Cond.code yX3_open cX3_open 2 (some .int), Cond.methodLink RX3 156 yX2_fits, Cond.instanceMethod yX2_fits, Cond.selects RX2 yX2_fits yX2_fits, Cond.code yX2_fits cX2_fits 6 (some .boolean), Cond.methodLink RX3 160 yX2_load, Cond.instanceMethod yX2_load, Cond.selects RX2 yX2_load yX2_load, Cond.code yX2_load cX2_load 4 none, Cond.methodLink RX2 63 Lib.Math.min.name, Cond.methodLink RL 116 yX4_open, Cond.instanceMethod yX4_open, Cond.selects RX4 yX4_open yX4_open, Cond.code yX4_open cX4_open 6 (some .int)]
def wsL_law : List Cond := (wsL_law_r1 ++ (wsL_law_r2 ++ (wsL_law_r3 ++ (wsL_law_r4 ++ (wsL_law_r5 ++ (wsL_law_r6 ++ (wsL_law_r7 ++ (wsL_law_r8 ++ (wsL_law_r9 ++ (wsL_law_r10 ++ (wsL_law_r11 ++ (wsL_law_r12 ++ (wsL_law_r13 ++ (wsL_law_r14 ++ (wsL_law_r15 ++ (wsL_law_r16 ++ (wsL_law_r17 ++ (wsL_law_r18 ++ (wsL_law_r19 ++ (wsL_law_r20 ++ wsL_law_r21)))))))))))))))))))) ++ wsX30 ++ wsX40 ++ wsX10 ++ wsX20 ++ wsX00 ++ wsJx000600 ++ ([] : List Cond)
theorem inJ7 : ∀ w ∈ wsJ70, w ∈ lw_tbl := by decide +kernel
abbrev vwCl : List vw_C := [(RJx00060, TJx00060, 6), (RX0, TX0, 7), (RX1, TX1, 4), (RX2, TX2, 6), (RX3, TX3, 11), (RX4, TX4, 17)]
end
section
/-! BASE: one form of contract for all methods: a world in, a world out; calls without a frame rule, for a callee takes the caller's whole world -/
abbrev tyl (cI cJ cG : ClassId) : List (ClassId × FieldType) := [(cI, .int), (cJ, .long), (cG, .array .int)]
/-- the world wl, held by U -/
def gw (D : va_G) (tys : List (ClassId × FieldType)) (A : Nat → Prop) (wl : va_W) (U : State) : Prop := va_P D vwCl wl U.heap ∧ va_K D vwCl tys U ∧ va_D A wl
abbrev gP (D : va_G) (tys : List (ClassId × FieldType)) (av : List Value) (wl : va_W) (sz : Nat) : Array Value → State → Prop := va_Pc av (fun U => U.heap.size = sz ∧ gw D tys (fun _ => True) wl U)
abbrev gQi (D : va_G) (tys : List (ClassId × FieldType)) (wl : va_W) (sz : Nat) {S : Type} (post : Int32 → S → Prop) (wf : S → va_W) : Array Value → State → Outcome → State → Prop := va_Qi post (fun u t => gw D tys (va_A wl sz) (wf u) t) (va_A wl sz)
abbrev gQl (D : va_G) (tys : List (ClassId × FieldType)) (wl : va_W) (sz : Nat) {S : Type} (post : Int64 → S → Prop) (wf : S → va_W) : Array Value → State → Outcome → State → Prop := va_Ql post (fun u t => gw D tys (va_A wl sz) (wf u) t) (va_A wl sz)
abbrev gQv (D : va_G) (tys : List (ClassId × FieldType)) (wl : va_W) (sz : Nat) {S : Type} (post : S → Prop) (wf : S → va_W) : Array Value → State → Outcome → State → Prop := va_Qv post (fun u t => gw D tys (va_A wl sz) (wf u) t) (va_A wl sz)
abbrev gQr (D : va_G) (tys : List (ClassId × FieldType)) (wl : va_W) (sz : Nat) {S : Type} (post : S → Prop) (wf : S → va_W) (ad : S → Nat) : Array Value → State → Outcome → State → Prop := va_Qr post (fun u a t => a = ad u ∧ gw D tys (va_A wl sz) (wf u) t) (va_A wl sz)
theorem gP_blind {D : va_G} {tys : List (ClassId × FieldType)} {av : List Value} {wl : va_W} {sz : Nat} : FrameBlind (gP D tys av wl sz) := fun a U g mk q => by
  obtain ⟨q0, q1, qP, qK, qD⟩ := q
  exact ⟨q0, q1, qP, va_K.moved (u := U) (U := U.calling g mk a) (Vm.Alike.refl U.vm) qK, qD⟩
/-- all that a callee may touch is the caller's, where its world is the caller's whole one -/
theorem g_all {A : Nat → Prop} {wl : va_W} {H0 H : Heap} {locs : List Loc} (hD : va_D A wl) (hS : va_S A H0 H locs) (hA : ∀ q, H0.size ≤ q → A q) : ∀ q, va_A wl H.size q → A q := by
  intro q h
  rcases h with ⟨k, e, h⟩ | h
  · exact hD.2 k _ h
  · exact hA q (Nat.le_trans hS.1 h)
section GBASE
variable {p : Program} {l : Launch} {e : Env} {R : Room} {s : State} {m : MethodId} {args : Array Value} {below : List Frame} {meth : Method} {c : Code} {H : Heap} {locs : List Loc} {cells slots : Nat} {Q : State → Prop}
variable {cc bytes : ByteArray} {pc nL maxL n index mc ms : Nat} {ls : Array Slot} {rest As st0 : List Value} {D : va_G} {A : Nat → Prop} {tys : List (ClassId × FieldType)} {ws ws' Ts : List Cond} {rm : Room} {y : MethodName} {H0 : Heap} {own C : String} {b : Nat} {wl : va_W} {ret : Option FieldType} {S : Type}
theorem gMet {av : List Value} {sz : Nat} {Qc : Array Value → State → Outcome → State → Prop} {ls0 : List (Nat × Value)} (hy : plainName y.cls = true) (hw : ws = Cond.code y cc maxL ret :: ws') (hn : (lg_sl av).length ≤ maxL) (hls : lv_args 0 av = ls0)
    (body : ∀ (p : Program) (e : Env) (s : State) (m : MethodId) (below : List Frame) (meth : Method) (c : Code), p.tables.exec = Jvm.exec → c.code = cc → meth.sig.returnType = ret → (∀ w ∈ ws, w.before av.toArray s = true) → s.vm.findClass y.cls = some m.cls → meth.locks = false → c.maxLocals = maxL → meth.name = y.name →
      ∀ (A : Nat → Prop), (∀ q, s.heap.size ≤ q → A q) → A = va_A wl sz → s.heap.size = sz → ∀ (Q : State → Prop), Q = MQ below Qc av.toArray s mc ms (va_A wl sz) → ∀ (H : Heap) (locs : List Loc), va_P D vwCl wl H → va_K D vwCl tys s → va_D A wl → va_S A s.heap H locs →
      ∀ ls : Array Slot, lv_has ls maxL ls0 → W p l e (headSpec ws rm).room s m av.toArray below meth c H locs 0 0 Q (F0 m 0 ls [])) : Met l y ws rm (gP D tys av wl sz) Qc mc ms (va_A wl sz) := by
  refine Met.ofW (cc := cc) (maxL := maxL) (ret := ret) hy hw ?_
  intro p e s m args below meth c s₁ B hml hv
  obtain ⟨rfl, hsz, hP, hK, hD0⟩ := hv
  have hts := atoms_spec (ws := ws) B.pre
  have hown : s.vm.findClass y.cls = some m.cls := findClass_of_methodNamed B.named
  have hl := lv_entry av (n := maxL) hn
  rw [lg_entry_eq]
  rw [hls] at hl
  exact body p e s m below meth c B.exec B.bytes B.returns hts hown B.notSynchronized hml (name_of_methodNamed B.named B.method).1 _ (fun q h => Or.inr (by rw [← hsz]; exact h)) rfl hsz _ rfl _ _ hP hK hD0.self va_S.rf _ hl
/-- ends -/
theorem g_zret {av : List Value} {v : Int32} {post : Int32 → S → Prop} {wf : S → va_W} {locs : List Loc} (hx : p.tables.exec = Jvm.exec) (hb : c.code = cc) (hr : meth.sig.returnType = some .boolean) (hlocks : meth.locks = false) (hn : narrow .boolean (.int v) = .int v) (u : S) (hp : post v u) (hP : va_P D vwCl (wf u) H) (hK : va_K D vwCl tys s) (hD : va_D (va_A wl s.heap.size) (wf u)) (hS : va_S (va_A wl s.heap.size) s.heap H locs) (hdg : decode cc pc = .ok (.ireturn, 1)) :
    W p l e R s m av.toArray below meth c H locs cells slots (MQ below (gQi D tys wl s.heap.size post wf) av.toArray s cells slots (va_A wl s.heap.size)) (F0 m pc ls [.int v]) :=
  W.zret hx hb hr hn (fun t ht hW => ⟨⟨v, u, rfl, hp, by rw [ht]; exact hP, va_K.moved hW.alike hK, hD⟩, hS.F ht⟩) hS.2.2 hdg hlocks
theorem g_iret {av : List Value} {v : Int32} {post : Int32 → S → Prop} {wf : S → va_W} {locs : List Loc} (hx : p.tables.exec = Jvm.exec) (hb : c.code = cc) (hr : meth.sig.returnType = some .int) (hlocks : meth.locks = false) (u : S) (hp : post v u) (hP : va_P D vwCl (wf u) H) (hK : va_K D vwCl tys s) (hD : va_D (va_A wl s.heap.size) (wf u)) (hS : va_S (va_A wl s.heap.size) s.heap H locs) (hdg : decode cc pc = .ok (.ireturn, 1)) :
    W p l e R s m av.toArray below meth c H locs cells slots (MQ below (gQi D tys wl s.heap.size post wf) av.toArray s cells slots (va_A wl s.heap.size)) (F0 m pc ls [.int v]) :=
  W.iret hx hb hr (fun t ht hW => ⟨⟨v, u, rfl, hp, by rw [ht]; exact hP, va_K.moved hW.alike hK, hD⟩, hS.F ht⟩) hS.2.2 hdg hlocks
theorem g_lret {av : List Value} {v : Int64} {post : Int64 → S → Prop} {wf : S → va_W} {locs : List Loc} (hx : p.tables.exec = Jvm.exec) (hb : c.code = cc) (hr : meth.sig.returnType = some .long) (hlocks : meth.locks = false) (u : S) (hp : post v u) (hP : va_P D vwCl (wf u) H) (hK : va_K D vwCl tys s) (hD : va_D (va_A wl s.heap.size) (wf u)) (hS : va_S (va_A wl s.heap.size) s.heap H locs) (hdg : decode cc pc = .ok (.lreturn, 1)) :
    W p l e R s m av.toArray below meth c H locs cells slots (MQ below (gQl D tys wl s.heap.size post wf) av.toArray s cells slots (va_A wl s.heap.size)) (F0 m pc ls [.long v]) :=
  W.lret hx hb hr (fun t ht hW => ⟨⟨v, u, rfl, hp, by rw [ht]; exact hP, va_K.moved hW.alike hK, hD⟩, hS.F ht⟩) hS.2.2 hdg hlocks
theorem g_vret {av : List Value} {post : S → Prop} {wf : S → va_W} {locs : List Loc} (hx : p.tables.exec = Jvm.exec) (hb : c.code = cc) (hr : meth.sig.returnType = none) (hlocks : meth.locks = false) (u : S) (hp : post u) (hP : va_P D vwCl (wf u) H) (hK : va_K D vwCl tys s) (hD : va_D (va_A wl s.heap.size) (wf u)) (hS : va_S (va_A wl s.heap.size) s.heap H locs) (hdg : decode cc pc = .ok (.return_, 1)) :
    W p l e R s m av.toArray below meth c H locs cells slots (MQ below (gQv D tys wl s.heap.size post wf) av.toArray s cells slots (va_A wl s.heap.size)) (F0 m pc ls []) :=
  W.vret hx hb hr (fun t ht hW => ⟨⟨u, rfl, hp, by rw [ht]; exact hP, va_K.moved hW.alike hK, hD⟩, hS.F ht⟩) hS.2.2 hdg hlocks
theorem g_aret {av : List Value} {v : Nat} {rt : FieldType} {post : S → Prop} {wf : S → va_W} {ad : S → Nat} {locs : List Loc} (hx : p.tables.exec = Jvm.exec) (hb : c.code = cc) (hr : meth.sig.returnType = some rt) (hrt : (∃ n, rt = .object n) ∨ ∃ t, rt = .array t) (hlocks : meth.locks = false) (u : S) (hp : post u) (hv : v = ad u) (hP : va_P D vwCl (wf u) H) (hK : va_K D vwCl tys s) (hD : va_D (va_A wl s.heap.size) (wf u)) (hS : va_S (va_A wl s.heap.size) s.heap H locs) (hdg : decode cc pc = .ok (.areturn, 1)) :
    W p l e R s m av.toArray below meth c H locs cells slots (MQ below (gQr D tys wl s.heap.size post wf ad) av.toArray s cells slots (va_A wl s.heap.size)) (F0 m pc ls [.ref v]) :=
  W.aret hx hb hr hrt (Or.inr ⟨_, rfl⟩) (fun t ht hW => ⟨⟨u, v, rfl, hp, hv, by rw [ht]; exact hP, va_K.moved hW.alike hK, hD⟩, hS.F ht⟩) hS.2.2 hdg hlocks
/-- calls: an instance method -/
theorem g_preV {ci q0 : Nat} {vc : vw_C} {fs : List Value} (hK : va_K D vwCl tys s) (hP : va_P D vwCl wl H) (hD : va_D A wl) (hc : vwCl[ci]? = some vc) (hC : vc.1 = C) (he : wl[q0]? = some (b, .inr (ci, fs))) : PreV s H C b (gP D tys (.ref b :: As) wl H.size) As :=
  ⟨gP_blind, by rw [← hC]; exact va_recv hK hP hc he, fun U hU hW => ⟨rfl, by rw [hU], by rw [hU]; exact hP, va_K.moved hW.alike hK, hD.weaken (fun _ _ _ _ => trivial)⟩⟩
theorem g_preS (hK : va_K D vwCl tys s) (hP : va_P D vwCl wl H) (hD : va_D A wl) : PreS s H (gP D tys As wl H.size) As :=
  ⟨gP_blind, fun U hU hW => ⟨rfl, by rw [hU], by rw [hU]; exact hP, va_K.moved hW.alike hK, hD.weaken (fun _ _ _ _ => trivial)⟩⟩
theorem gc_Vi {post : Int32 → S → Prop} {wf : S → va_W} {ci q0 : Nat} {vc : vw_C} {fs : List Value} (F : CallFix p m c cc nL s args Ts own) (hM : Met l y ws rm (gP D tys (.ref b :: As) wl H.size) (gQi D tys wl H.size post wf) mc ms (va_A wl H.size)) (cw : CallW R s args own C index y bytes maxL ret ws rm mc ms n)
    (hc : vwCl[ci]? = some vc) (hC : vc.1 = C) (he : wl[q0]? = some (b, .inr (ci, fs))) (hK : va_K D vwCl tys s) (hP : va_P D vwCl wl H) (hD : va_D A wl) (hS : va_S A H0 H locs) (hA : ∀ q, H0.size ≤ q → A q) (hn : As.length = n) (hsize : ls.size = nL) (hst : st0 = As.reverse ++ .ref b :: rest) (hW : (rest.map fun v => v.category).sum ≤ 8) (hdg : decode cc pc = .ok (.invokevirtual index, 3)) (hf : cells + mc ≤ R.cells ∧ slots + ms ≤ R.slots)
    (kk : ∀ (r : Int32) (u : S) (H1 : Heap) (locs1 : List Loc), post r u → va_P D vwCl (wf u) H1 → va_D A (wf u) → va_S A H0 H1 locs1 → W p l e R s m args below meth c H1 locs1 (cells + mc) (slots + ms) Q (F0 m (pc + 3) ls (.int r :: rest))) : W p l e R s m args below meth c H locs cells slots Q (F0 m pc ls st0) := by
  have hF := g_all hD hS hA
  exact va_calli (va_runV (As := As) (rest := rest) F hM cw (g_preV hK hP hD hc hC he) rfl hn hsize hst (lv_room hW) hdg hf) hS (fun q _ h => hF q h) hF (fun r u t H1 locs1 ht hvm hw hB hz1 hk1 hS1 => kk r u H1 locs1 hw (by rw [← ht]; exact hB.1) (hB.2.2.weaken (fun _ q _ h => hF q.1 h)) hS1)
theorem gc_Vl {post : Int64 → S → Prop} {wf : S → va_W} {ci q0 : Nat} {vc : vw_C} {fs : List Value} (F : CallFix p m c cc nL s args Ts own) (hM : Met l y ws rm (gP D tys (.ref b :: As) wl H.size) (gQl D tys wl H.size post wf) mc ms (va_A wl H.size)) (cw : CallW R s args own C index y bytes maxL ret ws rm mc ms n)
    (hc : vwCl[ci]? = some vc) (hC : vc.1 = C) (he : wl[q0]? = some (b, .inr (ci, fs))) (hK : va_K D vwCl tys s) (hP : va_P D vwCl wl H) (hD : va_D A wl) (hS : va_S A H0 H locs) (hA : ∀ q, H0.size ≤ q → A q) (hn : As.length = n) (hsize : ls.size = nL) (hst : st0 = As.reverse ++ .ref b :: rest) (hW : (rest.map fun v => v.category).sum ≤ 8) (hdg : decode cc pc = .ok (.invokevirtual index, 3)) (hf : cells + mc ≤ R.cells ∧ slots + ms ≤ R.slots)
    (kk : ∀ (r : Int64) (u : S) (H1 : Heap) (locs1 : List Loc), post r u → va_P D vwCl (wf u) H1 → va_D A (wf u) → va_S A H0 H1 locs1 → W p l e R s m args below meth c H1 locs1 (cells + mc) (slots + ms) Q (F0 m (pc + 3) ls (.long r :: rest))) : W p l e R s m args below meth c H locs cells slots Q (F0 m pc ls st0) := by
  have hF := g_all hD hS hA
  exact va_calll (va_runV (As := As) (rest := rest) F hM cw (g_preV hK hP hD hc hC he) rfl hn hsize hst (lv_room hW) hdg hf) hS (fun q _ h => hF q h) hF (fun r u t H1 locs1 ht hvm hw hB hz1 hk1 hS1 => kk r u H1 locs1 hw (by rw [← ht]; exact hB.1) (hB.2.2.weaken (fun _ q _ h => hF q.1 h)) hS1)
theorem gc_Vv {post : S → Prop} {wf : S → va_W} {ci q0 : Nat} {vc : vw_C} {fs : List Value} (F : CallFix p m c cc nL s args Ts own) (hM : Met l y ws rm (gP D tys (.ref b :: As) wl H.size) (gQv D tys wl H.size post wf) mc ms (va_A wl H.size)) (cw : CallW R s args own C index y bytes maxL ret ws rm mc ms n)
    (hc : vwCl[ci]? = some vc) (hC : vc.1 = C) (he : wl[q0]? = some (b, .inr (ci, fs))) (hK : va_K D vwCl tys s) (hP : va_P D vwCl wl H) (hD : va_D A wl) (hS : va_S A H0 H locs) (hA : ∀ q, H0.size ≤ q → A q) (hn : As.length = n) (hsize : ls.size = nL) (hst : st0 = As.reverse ++ .ref b :: rest) (hW : (rest.map fun v => v.category).sum ≤ 8) (hdg : decode cc pc = .ok (.invokevirtual index, 3)) (hf : cells + mc ≤ R.cells ∧ slots + ms ≤ R.slots)
    (kk : ∀ (u : S) (H1 : Heap) (locs1 : List Loc), post u → va_P D vwCl (wf u) H1 → va_D A (wf u) → va_S A H0 H1 locs1 → W p l e R s m args below meth c H1 locs1 (cells + mc) (slots + ms) Q (F0 m (pc + 3) ls rest)) : W p l e R s m args below meth c H locs cells slots Q (F0 m pc ls st0) := by
  have hF := g_all hD hS hA
  exact va_callv (va_runV (As := As) (rest := rest) F hM cw (g_preV hK hP hD hc hC he) rfl hn hsize hst (lv_room hW) hdg hf) hS (fun q _ h => hF q h) hF (fun u t H1 locs1 ht hvm hw hB hz1 hk1 hS1 => kk u H1 locs1 hw (by rw [← ht]; exact hB.1) (hB.2.2.weaken (fun _ q _ h => hF q.1 h)) hS1)
theorem gc_Vr {post : S → Prop} {wf : S → va_W} {ad : S → Nat} {ci q0 : Nat} {vc : vw_C} {fs : List Value} (F : CallFix p m c cc nL s args Ts own) (hM : Met l y ws rm (gP D tys (.ref b :: As) wl H.size) (gQr D tys wl H.size post wf ad) mc ms (va_A wl H.size)) (cw : CallW R s args own C index y bytes maxL ret ws rm mc ms n)
    (hc : vwCl[ci]? = some vc) (hC : vc.1 = C) (he : wl[q0]? = some (b, .inr (ci, fs))) (hK : va_K D vwCl tys s) (hP : va_P D vwCl wl H) (hD : va_D A wl) (hS : va_S A H0 H locs) (hA : ∀ q, H0.size ≤ q → A q) (hn : As.length = n) (hsize : ls.size = nL) (hst : st0 = As.reverse ++ .ref b :: rest) (hW : (rest.map fun v => v.category).sum ≤ 8) (hdg : decode cc pc = .ok (.invokevirtual index, 3)) (hf : cells + mc ≤ R.cells ∧ slots + ms ≤ R.slots)
    (kk : ∀ (u : S) (H1 : Heap) (locs1 : List Loc), post u → va_P D vwCl (wf u) H1 → va_D A (wf u) → va_S A H0 H1 locs1 → W p l e R s m args below meth c H1 locs1 (cells + mc) (slots + ms) Q (F0 m (pc + 3) ls (.ref (ad u) :: rest))) : W p l e R s m args below meth c H locs cells slots Q (F0 m pc ls st0) := by
  have hF := g_all hD hS hA
  refine va_callr (va_runV (As := As) (rest := rest) F hM cw (g_preV hK hP hD hc hC he) rfl hn hsize hst (lv_room hW) hdg hf) hS (fun q _ h => hF q h) hF (fun u r t H1 locs1 ht hvm hw hB hz1 hk1 hS1 => ?_)
  obtain ⟨hr, hB⟩ := hB
  subst hr
  exact kk u H1 locs1 hw (by rw [← ht]; exact hB.1) (hB.2.2.weaken (fun _ q _ h => hF q.1 h)) hS1
/-- calls: a static method -/
theorem gc_Si {post : Int32 → S → Prop} {wf : S → va_W} (F : CallFix p m c cc nL s args Ts own) (hM : Met l y ws rm (gP D tys As wl H.size) (gQi D tys wl H.size post wf) mc ms (va_A wl H.size)) (cw : CallB R s args own index y bytes maxL ret ws rm mc ms n ∧ (Cond.static y).before args s = true)
    (hK : va_K D vwCl tys s) (hP : va_P D vwCl wl H) (hD : va_D A wl) (hS : va_S A H0 H locs) (hA : ∀ q, H0.size ≤ q → A q) (hn : As.length = n) (hsize : ls.size = nL) (hst : st0 = As.reverse ++ rest) (hW : (rest.map fun v => v.category).sum ≤ 8) (hdg : decode cc pc = .ok (.invokestatic index, 3)) (hf : cells + mc ≤ R.cells ∧ slots + ms ≤ R.slots)
    (kk : ∀ (r : Int32) (u : S) (H1 : Heap) (locs1 : List Loc), post r u → va_P D vwCl (wf u) H1 → va_D A (wf u) → va_S A H0 H1 locs1 → W p l e R s m args below meth c H1 locs1 (cells + mc) (slots + ms) Q (F0 m (pc + 3) ls (.int r :: rest))) : W p l e R s m args below meth c H locs cells slots Q (F0 m pc ls st0) := by
  have hF := g_all hD hS hA
  exact va_calli (va_runS (As := As) (rest := rest) F hM cw (g_preS hK hP hD) rfl hn hsize hst (lv_room hW) hdg hf) hS (fun q _ h => hF q h) hF (fun r u t H1 locs1 ht hvm hw hB hz1 hk1 hS1 => kk r u H1 locs1 hw (by rw [← ht]; exact hB.1) (hB.2.2.weaken (fun _ q _ h => hF q.1 h)) hS1)
theorem gc_Sv {post : S → Prop} {wf : S → va_W} (F : CallFix p m c cc nL s args Ts own) (hM : Met l y ws rm (gP D tys As wl H.size) (gQv D tys wl H.size post wf) mc ms (va_A wl H.size)) (cw : CallB R s args own index y bytes maxL ret ws rm mc ms n ∧ (Cond.static y).before args s = true)
    (hK : va_K D vwCl tys s) (hP : va_P D vwCl wl H) (hD : va_D A wl) (hS : va_S A H0 H locs) (hA : ∀ q, H0.size ≤ q → A q) (hn : As.length = n) (hsize : ls.size = nL) (hst : st0 = As.reverse ++ rest) (hW : (rest.map fun v => v.category).sum ≤ 8) (hdg : decode cc pc = .ok (.invokestatic index, 3)) (hf : cells + mc ≤ R.cells ∧ slots + ms ≤ R.slots)
    (kk : ∀ (u : S) (H1 : Heap) (locs1 : List Loc), post u → va_P D vwCl (wf u) H1 → va_D A (wf u) → va_S A H0 H1 locs1 → W p l e R s m args below meth c H1 locs1 (cells + mc) (slots + ms) Q (F0 m (pc + 3) ls rest)) : W p l e R s m args below meth c H locs cells slots Q (F0 m pc ls st0) := by
  have hF := g_all hD hS hA
  exact va_callv (va_runS (As := As) (rest := rest) F hM cw (g_preS hK hP hD) rfl hn hsize hst (lv_room hW) hdg hf) hS (fun q _ h => hF q h) hF (fun u t H1 locs1 ht hvm hw hB hz1 hk1 hS1 => kk u H1 locs1 hw (by rw [← ht]; exact hB.1) (hB.2.2.weaken (fun _ q _ h => hF q.1 h)) hS1)
/-- calls: a constructor -/
theorem gc_Iv {post : S → Prop} {wf : S → va_W} (F : CallFix p m c cc nL s args Ts own) (hM : Met l y ws rm (gP D tys (.ref b :: As) wl H.size) (gQv D tys wl H.size post wf) mc ms (va_A wl H.size)) (cw : CallB R s args own index y bytes maxL none ws rm mc ms n ∧ y.name = "<init>" ∧ (Cond.instanceMethod y).before args s = true)
    (hK : va_K D vwCl tys s) (hP : va_P D vwCl wl H) (hD : va_D A wl) (hS : va_S A H0 H locs) (hA : ∀ q, H0.size ≤ q → A q) (hn : As.length = n) (hsize : ls.size = nL) (hst : st0 = As.reverse ++ .ref b :: rest) (hW : (rest.map fun v => v.category).sum ≤ 8) (hdg : decode cc pc = .ok (.invokespecial index, 3)) (hf : cells + mc ≤ R.cells ∧ slots + ms ≤ R.slots)
    (kk : ∀ (u : S) (H1 : Heap) (locs1 : List Loc), post u → va_P D vwCl (wf u) H1 → va_D A (wf u) → va_S A H0 H1 locs1 → W p l e R s m args below meth c H1 locs1 (cells + mc) (slots + ms) Q (F0 m (pc + 3) ls rest)) : W p l e R s m args below meth c H locs cells slots Q (F0 m pc ls st0) := by
  have hF := g_all hD hS hA
  exact va_callv (va_runI (As := As) (rest := rest) F hM cw (g_preS hK hP hD) rfl hn hsize hst (lv_room hW) hdg hf) hS (fun q _ h => hF q h) hF (fun u t H1 locs1 ht hvm hw hB hz1 hk1 hS1 => kk u H1 locs1 hw (by rw [← ht]; exact hB.1) (hB.2.2.weaken (fun _ q _ h => hF q.1 h)) hS1)
/-- an element of an array of int arrays -/
theorem g_aald (hexec : p.tables.exec = Jvm.exec) (hb : c.code = cc) (hK : va_K D vwCl tys s) (hP : va_P D vwCl wl H) (q0 t0 : Nat) {cA : ClassId} {a k v : Nat} {t : FieldType} {f : Nat → Option Nat} (ha : wl[q0]? = some (a, .inl (cA, k, .inr (.inr (.inr (.inr f)))))) (ht : tys[t0]? = some (cA, .array t)) {i : Int32} (hin : vp_in i k) (hv : f i.toNatClampNeg = some v) (hdg : decode cc pc = .ok (.aaload, 1))
    (kk : W p l e R s m args below meth c H locs cells slots Q (F0 m (pc + 1) ls (.ref v :: rest))) : W p l e R s m args below meth c H locs cells slots Q (F0 m pc ls (.int i :: .ref a :: rest)) := by
  have hlt : i.toNatClampNeg < k := Nat.not_le.mp fun q => hin (Or.inr q)
  refine W.aald (v := va_rf (f i.toNatClampNeg)) (ty := .array t) hexec hb (hP q0 _ ha) ((hK.2 t0 _ ht).1 k (fun j => va_rf (f j))) rfl (fun q => by cases q) (by show ¬ (i < 0 ∨ (arrV _ _ _).slots.size ≤ _); rw [arrV_size]; exact hin) (by show (arrV _ _ _).slots[_]? = _; rw [arrV_read _ _ hlt]) rfl rfl hdg ?_
  rw [hv]
  exact kk
end GBASE
/-- numbers that are tests -/
def bI (b : Bool) : Int32 := if b then 1 else 0
theorem bI_t : bI true = 1 := rfl
theorem bI_f : bI false = 0 := rfl
theorem bI_0 {b : Bool} : bI b = 0 ↔ b = false := by cases b <;> decide
theorem bI_n0 {b : Bool} : ¬ bI b = 0 ↔ b = true := by cases b <;> decide
theorem bI_nar (b : Bool) : narrow .boolean (.int (bI b)) = .int (bI b) := by cases b <;> rfl
/-- 0 ≤ x < n -/
def inB (x : Int32) (n : Nat) : Bool := decide (0 ≤ x.toInt) && decide (x.toInt < n)
theorem inB_nI {j n : Nat} (h : j < n) (hn : n < 2 ^ 31) : inB (nI j) n = true := by
  unfold inB; rw [nI_toInt (by omega)]; simp; omega
theorem inB_of {x : Int32} {n : Nat} (h : inB x n = true) (hn : n < 2 ^ 31) : ∃ j, j < n ∧ x = nI j := by
  unfold inB at h
  simp at h
  exact vp_in_of (vp_in_iff.mpr ⟨h.1, by omega⟩) hn
theorem inB_f1 {x : Int32} {n : Nat} (h : x < 0) : inB x n = false := by
  unfold inB
  rw [Int32.lt_iff_toInt_lt, Int32.toInt_zero] at h
  simp; omega
theorem inB_f2 {x : Int32} {n : Nat} (hn : n < 2 ^ 31) (h : nI n ≤ x) : inB x n = false := by
  unfold inB
  rw [Int32.le_iff_toInt_le, nI_toInt hn] at h
  simp; omega
theorem inB_t {x : Int32} {n : Nat} (hn : n < 2 ^ 31) (h0 : ¬ x < 0) (h : ¬ nI n ≤ x) : inB x n = true := by
  unfold inB
  rw [Int32.le_iff_toInt_le, nI_toInt hn] at h
  rw [Int32.lt_iff_toInt_lt, Int32.toInt_zero] at h0
  simp; omega
end
section
set_option maxRecDepth 20000 in
theorem ggX0_init_J7_fill_53178 : GoodIn wsX0_init wsJ7_fill_53178 := goodIn_r _ [15] (by decide +kernel) (by decide +kernel)
set_option maxRecDepth 20000 in
theorem gX0_init_J7_fill_53178 : GoodIn wsX0_init (va_wsS RX0 24 yJ7_fill_53178 wsJ7_fill_53178) := goodIn_app (goodIn_of _ (by decide +kernel)) ggX0_init_J7_fill_53178
theorem dX0_init_0 : decode cX0_init 0 = .ok (.aload_n 0, 1) := by decide +kernel
theorem dX0_init_1 : decode cX0_init 1 = .ok (.invokespecial 3, 3) := by decide +kernel
theorem dX0_init_4 : decode cX0_init 4 = .ok (.aload_n 0, 1) := by decide +kernel
theorem dX0_init_5 : decode cX0_init 5 = .ok (.sipush 256, 3) := by decide +kernel
theorem dX0_init_8 : decode cX0_init 8 = .ok (.newarray .int, 2) := by decide +kernel
theorem dX0_init_10 : decode cX0_init 10 = .ok (.putfield 11, 3) := by decide +kernel
theorem dX0_init_13 : decode cX0_init 13 = .ok (.aload_n 0, 1) := by decide +kernel
theorem dX0_init_14 : decode cX0_init 14 = .ok (.sipush 256, 3) := by decide +kernel
theorem dX0_init_17 : decode cX0_init 17 = .ok (.newarray .int, 2) := by decide +kernel
theorem dX0_init_19 : decode cX0_init 19 = .ok (.putfield 15, 3) := by decide +kernel
theorem dX0_init_22 : decode cX0_init 22 = .ok (.aload_n 0, 1) := by decide +kernel
theorem dX0_init_23 : decode cX0_init 23 = .ok (.bipush 100, 2) := by decide +kernel
theorem dX0_init_25 : decode cX0_init 25 = .ok (.newarray .int, 2) := by decide +kernel
theorem dX0_init_27 : decode cX0_init 27 = .ok (.putfield 18, 3) := by decide +kernel
theorem dX0_init_30 : decode cX0_init 30 = .ok (.aload_n 0, 1) := by decide +kernel
theorem dX0_init_31 : decode cX0_init 31 = .ok (.bipush 100, 2) := by decide +kernel
theorem dX0_init_33 : decode cX0_init 33 = .ok (.newarray .int, 2) := by decide +kernel
theorem dX0_init_35 : decode cX0_init 35 = .ok (.putfield 21, 3) := by decide +kernel
theorem dX0_init_38 : decode cX0_init 38 = .ok (.aload_n 0, 1) := by decide +kernel
theorem dX0_init_39 : decode cX0_init 39 = .ok (.getfield 11, 3) := by decide +kernel
theorem dX0_init_42 : decode cX0_init 42 = .ok (.bipush (-2), 2) := by decide +kernel
theorem dX0_init_44 : decode cX0_init 44 = .ok (.invokestatic 24, 3) := by decide +kernel
theorem dX0_init_47 : decode cX0_init 47 = .ok (.aload_n 0, 1) := by decide +kernel
theorem dX0_init_48 : decode cX0_init 48 = .ok (.getfield 15, 3) := by decide +kernel
theorem dX0_init_51 : decode cX0_init 51 = .ok (.iconst (-1), 1) := by decide +kernel
theorem dX0_init_52 : decode cX0_init 52 = .ok (.invokestatic 24, 3) := by decide +kernel
theorem dX0_init_55 : decode cX0_init 55 = .ok (.aload_n 0, 1) := by decide +kernel
theorem dX0_init_56 : decode cX0_init 56 = .ok (.iconst 0, 1) := by decide +kernel
theorem dX0_init_57 : decode cX0_init 57 = .ok (.putfield 30, 3) := by decide +kernel
theorem dX0_init_60 : decode cX0_init 60 = .ok (.aload_n 0, 1) := by decide +kernel
theorem dX0_init_61 : decode cX0_init 61 = .ok (.iconst 0, 1) := by decide +kernel
theorem dX0_init_62 : decode cX0_init 62 = .ok (.putfield 34, 3) := by decide +kernel
theorem dX0_init_65 : decode cX0_init 65 = .ok (.aload_n 0, 1) := by decide +kernel
theorem dX0_init_66 : decode cX0_init 66 = .ok (.iconst 0, 1) := by decide +kernel
theorem dX0_init_67 : decode cX0_init 67 = .ok (.putfield 37, 3) := by decide +kernel
theorem dX0_init_70 : decode cX0_init 70 = .ok (.return_, 1) := by decide +kernel
theorem dX0_isPlace_0 : decode cX0_isPlace 0 = .ok (.iload_n 0, 1) := by decide +kernel
theorem dX0_isPlace_1 : decode cX0_isPlace 1 = .ok (.ifCond .lt 23, 3) := by decide +kernel
theorem dX0_isPlace_4 : decode cX0_isPlace 4 = .ok (.iload_n 0, 1) := by decide +kernel
theorem dX0_isPlace_5 : decode cX0_isPlace 5 = .ok (.bipush 16, 2) := by decide +kernel
theorem dX0_isPlace_7 : decode cX0_isPlace 7 = .ok (.if_icmp .ge 17, 3) := by decide +kernel
theorem dX0_isPlace_10 : decode cX0_isPlace 10 = .ok (.iload_n 1, 1) := by decide +kernel
theorem dX0_isPlace_11 : decode cX0_isPlace 11 = .ok (.ifCond .lt 13, 3) := by decide +kernel
theorem dX0_isPlace_14 : decode cX0_isPlace 14 = .ok (.iload_n 1, 1) := by decide +kernel
theorem dX0_isPlace_15 : decode cX0_isPlace 15 = .ok (.bipush 16, 2) := by decide +kernel
theorem dX0_isPlace_17 : decode cX0_isPlace 17 = .ok (.if_icmp .ge 7, 3) := by decide +kernel
theorem dX0_isPlace_20 : decode cX0_isPlace 20 = .ok (.iconst 1, 1) := by decide +kernel
theorem dX0_isPlace_21 : decode cX0_isPlace 21 = .ok (.goto 4, 3) := by decide +kernel
theorem dX0_isPlace_24 : decode cX0_isPlace 24 = .ok (.iconst 0, 1) := by decide +kernel
theorem dX0_isPlace_25 : decode cX0_isPlace 25 = .ok (.ireturn, 1) := by decide +kernel
set_option maxRecDepth 20000 in
theorem ggX0_isFree_X0_isPlace : GoodIn wsX0_isFree wsX0_isPlace := goodIn_r _ [6] (by decide +kernel) (by decide +kernel)
set_option maxRecDepth 20000 in
theorem gX0_isFree_X0_isPlace : GoodIn wsX0_isFree (va_wsS RX0 40 yX0_isPlace wsX0_isPlace) := goodIn_app (goodIn_of _ (by decide +kernel)) ggX0_isFree_X0_isPlace
theorem dX0_isFree_0 : decode cX0_isFree 0 = .ok (.iload_n 1, 1) := by decide +kernel
theorem dX0_isFree_1 : decode cX0_isFree 1 = .ok (.iload_n 2, 1) := by decide +kernel
theorem dX0_isFree_2 : decode cX0_isFree 2 = .ok (.invokestatic 40, 3) := by decide +kernel
theorem dX0_isFree_5 : decode cX0_isFree 5 = .ok (.ifCond .eq 32, 3) := by decide +kernel
theorem dX0_isFree_8 : decode cX0_isFree 8 = .ok (.aload_n 0, 1) := by decide +kernel
theorem dX0_isFree_9 : decode cX0_isFree 9 = .ok (.getfield 34, 3) := by decide +kernel
theorem dX0_isFree_12 : decode cX0_isFree 12 = .ok (.bipush 100, 2) := by decide +kernel
theorem dX0_isFree_14 : decode cX0_isFree 14 = .ok (.if_icmp .ge 23, 3) := by decide +kernel
theorem dX0_isFree_17 : decode cX0_isFree 17 = .ok (.aload_n 0, 1) := by decide +kernel
theorem dX0_isFree_18 : decode cX0_isFree 18 = .ok (.getfield 11, 3) := by decide +kernel
theorem dX0_isFree_21 : decode cX0_isFree 21 = .ok (.bipush 16, 2) := by decide +kernel
theorem dX0_isFree_23 : decode cX0_isFree 23 = .ok (.iload_n 2, 1) := by decide +kernel
theorem dX0_isFree_24 : decode cX0_isFree 24 = .ok (.imul, 1) := by decide +kernel
theorem dX0_isFree_25 : decode cX0_isFree 25 = .ok (.iload_n 1, 1) := by decide +kernel
theorem dX0_isFree_26 : decode cX0_isFree 26 = .ok (.iadd, 1) := by decide +kernel
theorem dX0_isFree_27 : decode cX0_isFree 27 = .ok (.iaload, 1) := by decide +kernel
theorem dX0_isFree_28 : decode cX0_isFree 28 = .ok (.bipush (-2), 2) := by decide +kernel
theorem dX0_isFree_30 : decode cX0_isFree 30 = .ok (.if_icmp .ne 7, 3) := by decide +kernel
theorem dX0_isFree_33 : decode cX0_isFree 33 = .ok (.iconst 1, 1) := by decide +kernel
theorem dX0_isFree_34 : decode cX0_isFree 34 = .ok (.goto 4, 3) := by decide +kernel
theorem dX0_isFree_37 : decode cX0_isFree 37 = .ok (.iconst 0, 1) := by decide +kernel
theorem dX0_isFree_38 : decode cX0_isFree 38 = .ok (.ireturn, 1) := by decide +kernel
theorem dX0_hasPiece_0 : decode cX0_hasPiece 0 = .ok (.iload_n 1, 1) := by decide +kernel
theorem dX0_hasPiece_1 : decode cX0_hasPiece 1 = .ok (.ifCond .lt 15, 3) := by decide +kernel
theorem dX0_hasPiece_4 : decode cX0_hasPiece 4 = .ok (.iload_n 1, 1) := by decide +kernel
theorem dX0_hasPiece_5 : decode cX0_hasPiece 5 = .ok (.aload_n 0, 1) := by decide +kernel
theorem dX0_hasPiece_6 : decode cX0_hasPiece 6 = .ok (.getfield 37, 3) := by decide +kernel
theorem dX0_hasPiece_9 : decode cX0_hasPiece 9 = .ok (.if_icmp .ge 7, 3) := by decide +kernel
theorem dX0_hasPiece_12 : decode cX0_hasPiece 12 = .ok (.iconst 1, 1) := by decide +kernel
theorem dX0_hasPiece_13 : decode cX0_hasPiece 13 = .ok (.goto 4, 3) := by decide +kernel
theorem dX0_hasPiece_16 : decode cX0_hasPiece 16 = .ok (.iconst 0, 1) := by decide +kernel
theorem dX0_hasPiece_17 : decode cX0_hasPiece 17 = .ok (.ireturn, 1) := by decide +kernel
set_option maxRecDepth 20000 in
theorem ggX0_pieceAt_X0_isPlace : GoodIn wsX0_pieceAt wsX0_isPlace := goodIn_r _ [5] (by decide +kernel) (by decide +kernel)
set_option maxRecDepth 20000 in
theorem gX0_pieceAt_X0_isPlace : GoodIn wsX0_pieceAt (va_wsS RX0 40 yX0_isPlace wsX0_isPlace) := goodIn_app (goodIn_of _ (by decide +kernel)) ggX0_pieceAt_X0_isPlace
theorem dX0_pieceAt_0 : decode cX0_pieceAt 0 = .ok (.iload_n 1, 1) := by decide +kernel
theorem dX0_pieceAt_1 : decode cX0_pieceAt 1 = .ok (.iload_n 2, 1) := by decide +kernel
theorem dX0_pieceAt_2 : decode cX0_pieceAt 2 = .ok (.invokestatic 40, 3) := by decide +kernel
theorem dX0_pieceAt_5 : decode cX0_pieceAt 5 = .ok (.ifCond .eq 17, 3) := by decide +kernel
theorem dX0_pieceAt_8 : decode cX0_pieceAt 8 = .ok (.aload_n 0, 1) := by decide +kernel
theorem dX0_pieceAt_9 : decode cX0_pieceAt 9 = .ok (.getfield 15, 3) := by decide +kernel
theorem dX0_pieceAt_12 : decode cX0_pieceAt 12 = .ok (.bipush 16, 2) := by decide +kernel
theorem dX0_pieceAt_14 : decode cX0_pieceAt 14 = .ok (.iload_n 2, 1) := by decide +kernel
theorem dX0_pieceAt_15 : decode cX0_pieceAt 15 = .ok (.imul, 1) := by decide +kernel
theorem dX0_pieceAt_16 : decode cX0_pieceAt 16 = .ok (.iload_n 1, 1) := by decide +kernel
theorem dX0_pieceAt_17 : decode cX0_pieceAt 17 = .ok (.iadd, 1) := by decide +kernel
theorem dX0_pieceAt_18 : decode cX0_pieceAt 18 = .ok (.iaload, 1) := by decide +kernel
theorem dX0_pieceAt_19 : decode cX0_pieceAt 19 = .ok (.goto 4, 3) := by decide +kernel
theorem dX0_pieceAt_22 : decode cX0_pieceAt 22 = .ok (.iconst (-1), 1) := by decide +kernel
theorem dX0_pieceAt_23 : decode cX0_pieceAt 23 = .ok (.ireturn, 1) := by decide +kernel
set_option maxRecDepth 20000 in
theorem ggX0_tell_X0_numberPieces : GoodIn wsX0_tell wsX0_numberPieces := goodIn_r _ [7, 8, 9, 1, 10, 11, 12, 13, 14, 15, 16, 6, 17, 18, 19, 20, 21, 22, 23, 24, 25, 26, 27, 28, 29, 30, 31, 32, 33] (by decide +kernel) (by decide +kernel)
set_option maxRecDepth 20000 in
theorem gX0_tell_X0_numberPieces : GoodIn wsX0_tell (wsV RX0 44 RX0 yX0_numberPieces wsX0_numberPieces) := goodIn_app (goodIn_of _ (by decide +kernel)) ggX0_tell_X0_numberPieces
theorem dX0_tell_0 : decode cX0_tell 0 = .ok (.aload_n 0, 1) := by decide +kernel
theorem dX0_tell_1 : decode cX0_tell 1 = .ok (.getfield 11, 3) := by decide +kernel
theorem dX0_tell_4 : decode cX0_tell 4 = .ok (.bipush 16, 2) := by decide +kernel
theorem dX0_tell_6 : decode cX0_tell 6 = .ok (.iload_n 2, 1) := by decide +kernel
theorem dX0_tell_7 : decode cX0_tell 7 = .ok (.imul, 1) := by decide +kernel
theorem dX0_tell_8 : decode cX0_tell 8 = .ok (.iload_n 1, 1) := by decide +kernel
theorem dX0_tell_9 : decode cX0_tell 9 = .ok (.iadd, 1) := by decide +kernel
theorem dX0_tell_10 : decode cX0_tell 10 = .ok (.iload_n 3, 1) := by decide +kernel
theorem dX0_tell_11 : decode cX0_tell 11 = .ok (.iastore, 1) := by decide +kernel
theorem dX0_tell_12 : decode cX0_tell 12 = .ok (.aload_n 0, 1) := by decide +kernel
theorem dX0_tell_13 : decode cX0_tell 13 = .ok (.dup, 1) := by decide +kernel
theorem dX0_tell_14 : decode cX0_tell 14 = .ok (.getfield 34, 3) := by decide +kernel
theorem dX0_tell_17 : decode cX0_tell 17 = .ok (.iconst 1, 1) := by decide +kernel
theorem dX0_tell_18 : decode cX0_tell 18 = .ok (.iadd, 1) := by decide +kernel
theorem dX0_tell_19 : decode cX0_tell 19 = .ok (.putfield 34, 3) := by decide +kernel
theorem dX0_tell_22 : decode cX0_tell 22 = .ok (.iload_n 3, 1) := by decide +kernel
theorem dX0_tell_23 : decode cX0_tell 23 = .ok (.iconst (-1), 1) := by decide +kernel
theorem dX0_tell_24 : decode cX0_tell 24 = .ok (.if_icmp .eq 7, 3) := by decide +kernel
theorem dX0_tell_27 : decode cX0_tell 27 = .ok (.aload_n 0, 1) := by decide +kernel
theorem dX0_tell_28 : decode cX0_tell 28 = .ok (.invokevirtual 44, 3) := by decide +kernel
theorem dX0_tell_31 : decode cX0_tell 31 = .ok (.return_, 1) := by decide +kernel
set_option maxRecDepth 20000 in
theorem ggX0_numberPieces_J7_fill_53178 : GoodIn wsX0_numberPieces wsJ7_fill_53178 := goodIn_r _ [7] (by decide +kernel) (by decide +kernel)
set_option maxRecDepth 20000 in
theorem gX0_numberPieces_J7_fill_53178 : GoodIn wsX0_numberPieces (va_wsS RX0 24 yJ7_fill_53178 wsJ7_fill_53178) := goodIn_app (goodIn_of _ (by decide +kernel)) ggX0_numberPieces_J7_fill_53178
set_option maxRecDepth 20000 in
theorem ggX0_numberPieces_X0_joinFrom : GoodIn wsX0_numberPieces wsX0_joinFrom := goodIn_r _ [12, 13, 14, 15, 16, 17, 11, 18, 3, 1, 2, 19, 20, 21, 22, 23, 24, 25, 26, 27, 28] (by decide +kernel) (by decide +kernel)
set_option maxRecDepth 20000 in
theorem gX0_numberPieces_X0_joinFrom : GoodIn wsX0_numberPieces (wsV RX0 47 RX0 yX0_joinFrom wsX0_joinFrom) := goodIn_app (goodIn_of _ (by decide +kernel)) ggX0_numberPieces_X0_joinFrom
theorem dX0_numberPieces_0 : decode cX0_numberPieces 0 = .ok (.aload_n 0, 1) := by decide +kernel
theorem dX0_numberPieces_1 : decode cX0_numberPieces 1 = .ok (.getfield 15, 3) := by decide +kernel
theorem dX0_numberPieces_4 : decode cX0_numberPieces 4 = .ok (.iconst (-1), 1) := by decide +kernel
theorem dX0_numberPieces_5 : decode cX0_numberPieces 5 = .ok (.invokestatic 24, 3) := by decide +kernel
theorem dX0_numberPieces_8 : decode cX0_numberPieces 8 = .ok (.aload_n 0, 1) := by decide +kernel
theorem dX0_numberPieces_9 : decode cX0_numberPieces 9 = .ok (.iconst 0, 1) := by decide +kernel
theorem dX0_numberPieces_10 : decode cX0_numberPieces 10 = .ok (.putfield 37, 3) := by decide +kernel
theorem dX0_numberPieces_13 : decode cX0_numberPieces 13 = .ok (.iconst 0, 1) := by decide +kernel
theorem dX0_numberPieces_14 : decode cX0_numberPieces 14 = .ok (.istore_n 1, 1) := by decide +kernel
theorem dX0_numberPieces_15 : decode cX0_numberPieces 15 = .ok (.iload_n 1, 1) := by decide +kernel
theorem dX0_numberPieces_16 : decode cX0_numberPieces 16 = .ok (.sipush 256, 3) := by decide +kernel
theorem dX0_numberPieces_19 : decode cX0_numberPieces 19 = .ok (.if_icmp .ge 43, 3) := by decide +kernel
theorem dX0_numberPieces_22 : decode cX0_numberPieces 22 = .ok (.aload_n 0, 1) := by decide +kernel
theorem dX0_numberPieces_23 : decode cX0_numberPieces 23 = .ok (.getfield 11, 3) := by decide +kernel
theorem dX0_numberPieces_26 : decode cX0_numberPieces 26 = .ok (.iload_n 1, 1) := by decide +kernel
theorem dX0_numberPieces_27 : decode cX0_numberPieces 27 = .ok (.iaload, 1) := by decide +kernel
theorem dX0_numberPieces_28 : decode cX0_numberPieces 28 = .ok (.ifCond .lt 28, 3) := by decide +kernel
theorem dX0_numberPieces_31 : decode cX0_numberPieces 31 = .ok (.aload_n 0, 1) := by decide +kernel
theorem dX0_numberPieces_32 : decode cX0_numberPieces 32 = .ok (.getfield 15, 3) := by decide +kernel
theorem dX0_numberPieces_35 : decode cX0_numberPieces 35 = .ok (.iload_n 1, 1) := by decide +kernel
theorem dX0_numberPieces_36 : decode cX0_numberPieces 36 = .ok (.iaload, 1) := by decide +kernel
theorem dX0_numberPieces_37 : decode cX0_numberPieces 37 = .ok (.iconst (-1), 1) := by decide +kernel
theorem dX0_numberPieces_38 : decode cX0_numberPieces 38 = .ok (.if_icmp .ne 18, 3) := by decide +kernel
theorem dX0_numberPieces_41 : decode cX0_numberPieces 41 = .ok (.aload_n 0, 1) := by decide +kernel
theorem dX0_numberPieces_42 : decode cX0_numberPieces 42 = .ok (.iload_n 1, 1) := by decide +kernel
theorem dX0_numberPieces_43 : decode cX0_numberPieces 43 = .ok (.invokevirtual 47, 3) := by decide +kernel
theorem dX0_numberPieces_46 : decode cX0_numberPieces 46 = .ok (.aload_n 0, 1) := by decide +kernel
theorem dX0_numberPieces_47 : decode cX0_numberPieces 47 = .ok (.dup, 1) := by decide +kernel
theorem dX0_numberPieces_48 : decode cX0_numberPieces 48 = .ok (.getfield 37, 3) := by decide +kernel
theorem dX0_numberPieces_51 : decode cX0_numberPieces 51 = .ok (.iconst 1, 1) := by decide +kernel
theorem dX0_numberPieces_52 : decode cX0_numberPieces 52 = .ok (.iadd, 1) := by decide +kernel
theorem dX0_numberPieces_53 : decode cX0_numberPieces 53 = .ok (.putfield 37, 3) := by decide +kernel
theorem dX0_numberPieces_56 : decode cX0_numberPieces 56 = .ok (.iinc 1 1, 3) := by decide +kernel
theorem dX0_numberPieces_59 : decode cX0_numberPieces 59 = .ok (.goto (-44), 3) := by decide +kernel
theorem dX0_numberPieces_62 : decode cX0_numberPieces 62 = .ok (.return_, 1) := by decide +kernel
set_option maxRecDepth 20000 in
theorem ggX0_joinFrom_X0_join : GoodIn wsX0_joinFrom wsX0_join := goodIn_r _ [7, 1, 8, 9, 10, 2, 11, 12, 6, 13, 14, 15, 16, 17, 18, 19, 20] (by decide +kernel) (by decide +kernel)
set_option maxRecDepth 20000 in
theorem gX0_joinFrom_X0_join : GoodIn wsX0_joinFrom (wsV RX0 51 RX0 yX0_join wsX0_join) := goodIn_app (goodIn_of _ (by decide +kernel)) ggX0_joinFrom_X0_join
theorem dX0_joinFrom_0 : decode cX0_joinFrom 0 = .ok (.aload_n 0, 1) := by decide +kernel
theorem dX0_joinFrom_1 : decode cX0_joinFrom 1 = .ok (.iconst 0, 1) := by decide +kernel
theorem dX0_joinFrom_2 : decode cX0_joinFrom 2 = .ok (.putfield 30, 3) := by decide +kernel
theorem dX0_joinFrom_5 : decode cX0_joinFrom 5 = .ok (.aload_n 0, 1) := by decide +kernel
theorem dX0_joinFrom_6 : decode cX0_joinFrom 6 = .ok (.iload_n 1, 1) := by decide +kernel
theorem dX0_joinFrom_7 : decode cX0_joinFrom 7 = .ok (.bipush 16, 2) := by decide +kernel
theorem dX0_joinFrom_9 : decode cX0_joinFrom 9 = .ok (.irem, 1) := by decide +kernel
theorem dX0_joinFrom_10 : decode cX0_joinFrom 10 = .ok (.iload_n 1, 1) := by decide +kernel
theorem dX0_joinFrom_11 : decode cX0_joinFrom 11 = .ok (.bipush 16, 2) := by decide +kernel
theorem dX0_joinFrom_13 : decode cX0_joinFrom 13 = .ok (.idiv, 1) := by decide +kernel
theorem dX0_joinFrom_14 : decode cX0_joinFrom 14 = .ok (.invokevirtual 51, 3) := by decide +kernel
theorem dX0_joinFrom_17 : decode cX0_joinFrom 17 = .ok (.iconst 0, 1) := by decide +kernel
theorem dX0_joinFrom_18 : decode cX0_joinFrom 18 = .ok (.istore_n 2, 1) := by decide +kernel
theorem dX0_joinFrom_19 : decode cX0_joinFrom 19 = .ok (.iload_n 2, 1) := by decide +kernel
theorem dX0_joinFrom_20 : decode cX0_joinFrom 20 = .ok (.aload_n 0, 1) := by decide +kernel
theorem dX0_joinFrom_21 : decode cX0_joinFrom 21 = .ok (.getfield 30, 3) := by decide +kernel
theorem dX0_joinFrom_24 : decode cX0_joinFrom 24 = .ok (.if_icmp .ge 72, 3) := by decide +kernel
theorem dX0_joinFrom_27 : decode cX0_joinFrom 27 = .ok (.iload_n 2, 1) := by decide +kernel
theorem dX0_joinFrom_28 : decode cX0_joinFrom 28 = .ok (.bipush 100, 2) := by decide +kernel
theorem dX0_joinFrom_30 : decode cX0_joinFrom 30 = .ok (.if_icmp .ge 66, 3) := by decide +kernel
theorem dX0_joinFrom_33 : decode cX0_joinFrom 33 = .ok (.aload_n 0, 1) := by decide +kernel
theorem dX0_joinFrom_34 : decode cX0_joinFrom 34 = .ok (.getfield 18, 3) := by decide +kernel
theorem dX0_joinFrom_37 : decode cX0_joinFrom 37 = .ok (.iload_n 2, 1) := by decide +kernel
theorem dX0_joinFrom_38 : decode cX0_joinFrom 38 = .ok (.iaload, 1) := by decide +kernel
theorem dX0_joinFrom_39 : decode cX0_joinFrom 39 = .ok (.bipush 16, 2) := by decide +kernel
theorem dX0_joinFrom_41 : decode cX0_joinFrom 41 = .ok (.irem, 1) := by decide +kernel
theorem dX0_joinFrom_42 : decode cX0_joinFrom 42 = .ok (.istore_n 3, 1) := by decide +kernel
theorem dX0_joinFrom_43 : decode cX0_joinFrom 43 = .ok (.aload_n 0, 1) := by decide +kernel
theorem dX0_joinFrom_44 : decode cX0_joinFrom 44 = .ok (.getfield 18, 3) := by decide +kernel
theorem dX0_joinFrom_47 : decode cX0_joinFrom 47 = .ok (.iload_n 2, 1) := by decide +kernel
theorem dX0_joinFrom_48 : decode cX0_joinFrom 48 = .ok (.iaload, 1) := by decide +kernel
theorem dX0_joinFrom_49 : decode cX0_joinFrom 49 = .ok (.bipush 16, 2) := by decide +kernel
theorem dX0_joinFrom_51 : decode cX0_joinFrom 51 = .ok (.idiv, 1) := by decide +kernel
theorem dX0_joinFrom_52 : decode cX0_joinFrom 52 = .ok (.istore 4, 2) := by decide +kernel
theorem dX0_joinFrom_54 : decode cX0_joinFrom 54 = .ok (.aload_n 0, 1) := by decide +kernel
theorem dX0_joinFrom_55 : decode cX0_joinFrom 55 = .ok (.iload_n 3, 1) := by decide +kernel
theorem dX0_joinFrom_56 : decode cX0_joinFrom 56 = .ok (.iload 4, 2) := by decide +kernel
theorem dX0_joinFrom_58 : decode cX0_joinFrom 58 = .ok (.iconst 1, 1) := by decide +kernel
theorem dX0_joinFrom_59 : decode cX0_joinFrom 59 = .ok (.isub, 1) := by decide +kernel
theorem dX0_joinFrom_60 : decode cX0_joinFrom 60 = .ok (.invokevirtual 51, 3) := by decide +kernel
theorem dX0_joinFrom_63 : decode cX0_joinFrom 63 = .ok (.aload_n 0, 1) := by decide +kernel
theorem dX0_joinFrom_64 : decode cX0_joinFrom 64 = .ok (.iload_n 3, 1) := by decide +kernel
theorem dX0_joinFrom_65 : decode cX0_joinFrom 65 = .ok (.iconst 1, 1) := by decide +kernel
theorem dX0_joinFrom_66 : decode cX0_joinFrom 66 = .ok (.isub, 1) := by decide +kernel
theorem dX0_joinFrom_67 : decode cX0_joinFrom 67 = .ok (.iload 4, 2) := by decide +kernel
theorem dX0_joinFrom_69 : decode cX0_joinFrom 69 = .ok (.invokevirtual 51, 3) := by decide +kernel
theorem dX0_joinFrom_72 : decode cX0_joinFrom 72 = .ok (.aload_n 0, 1) := by decide +kernel
theorem dX0_joinFrom_73 : decode cX0_joinFrom 73 = .ok (.iload_n 3, 1) := by decide +kernel
theorem dX0_joinFrom_74 : decode cX0_joinFrom 74 = .ok (.iconst 1, 1) := by decide +kernel
theorem dX0_joinFrom_75 : decode cX0_joinFrom 75 = .ok (.iadd, 1) := by decide +kernel
theorem dX0_joinFrom_76 : decode cX0_joinFrom 76 = .ok (.iload 4, 2) := by decide +kernel
theorem dX0_joinFrom_78 : decode cX0_joinFrom 78 = .ok (.invokevirtual 51, 3) := by decide +kernel
theorem dX0_joinFrom_81 : decode cX0_joinFrom 81 = .ok (.aload_n 0, 1) := by decide +kernel
theorem dX0_joinFrom_82 : decode cX0_joinFrom 82 = .ok (.iload_n 3, 1) := by decide +kernel
theorem dX0_joinFrom_83 : decode cX0_joinFrom 83 = .ok (.iload 4, 2) := by decide +kernel
theorem dX0_joinFrom_85 : decode cX0_joinFrom 85 = .ok (.iconst 1, 1) := by decide +kernel
theorem dX0_joinFrom_86 : decode cX0_joinFrom 86 = .ok (.iadd, 1) := by decide +kernel
theorem dX0_joinFrom_87 : decode cX0_joinFrom 87 = .ok (.invokevirtual 51, 3) := by decide +kernel
theorem dX0_joinFrom_90 : decode cX0_joinFrom 90 = .ok (.iinc 2 1, 3) := by decide +kernel
theorem dX0_joinFrom_93 : decode cX0_joinFrom 93 = .ok (.goto (-74), 3) := by decide +kernel
theorem dX0_joinFrom_96 : decode cX0_joinFrom 96 = .ok (.return_, 1) := by decide +kernel
set_option maxRecDepth 20000 in
theorem ggX0_join_X0_isPlace : GoodIn wsX0_join wsX0_isPlace := goodIn_r _ [9] (by decide +kernel) (by decide +kernel)
set_option maxRecDepth 20000 in
theorem gX0_join_X0_isPlace : GoodIn wsX0_join (va_wsS RX0 40 yX0_isPlace wsX0_isPlace) := goodIn_app (goodIn_of _ (by decide +kernel)) ggX0_join_X0_isPlace
theorem dX0_join_0 : decode cX0_join 0 = .ok (.iload_n 1, 1) := by decide +kernel
theorem dX0_join_1 : decode cX0_join 1 = .ok (.iload_n 2, 1) := by decide +kernel
theorem dX0_join_2 : decode cX0_join 2 = .ok (.invokestatic 40, 3) := by decide +kernel
theorem dX0_join_5 : decode cX0_join 5 = .ok (.ifCond .eq 12, 3) := by decide +kernel
theorem dX0_join_8 : decode cX0_join 8 = .ok (.aload_n 0, 1) := by decide +kernel
theorem dX0_join_9 : decode cX0_join 9 = .ok (.getfield 30, 3) := by decide +kernel
theorem dX0_join_12 : decode cX0_join 12 = .ok (.bipush 100, 2) := by decide +kernel
theorem dX0_join_14 : decode cX0_join 14 = .ok (.if_icmp .lt 4, 3) := by decide +kernel
theorem dX0_join_17 : decode cX0_join 17 = .ok (.return_, 1) := by decide +kernel
theorem dX0_join_18 : decode cX0_join 18 = .ok (.bipush 16, 2) := by decide +kernel
theorem dX0_join_20 : decode cX0_join 20 = .ok (.iload_n 2, 1) := by decide +kernel
theorem dX0_join_21 : decode cX0_join 21 = .ok (.imul, 1) := by decide +kernel
theorem dX0_join_22 : decode cX0_join 22 = .ok (.iload_n 1, 1) := by decide +kernel
theorem dX0_join_23 : decode cX0_join 23 = .ok (.iadd, 1) := by decide +kernel
theorem dX0_join_24 : decode cX0_join 24 = .ok (.istore_n 3, 1) := by decide +kernel
theorem dX0_join_25 : decode cX0_join 25 = .ok (.aload_n 0, 1) := by decide +kernel
theorem dX0_join_26 : decode cX0_join 26 = .ok (.getfield 11, 3) := by decide +kernel
theorem dX0_join_29 : decode cX0_join 29 = .ok (.iload_n 3, 1) := by decide +kernel
theorem dX0_join_30 : decode cX0_join 30 = .ok (.iaload, 1) := by decide +kernel
theorem dX0_join_31 : decode cX0_join 31 = .ok (.ifCond .lt 43, 3) := by decide +kernel
theorem dX0_join_34 : decode cX0_join 34 = .ok (.aload_n 0, 1) := by decide +kernel
theorem dX0_join_35 : decode cX0_join 35 = .ok (.getfield 15, 3) := by decide +kernel
theorem dX0_join_38 : decode cX0_join 38 = .ok (.iload_n 3, 1) := by decide +kernel
theorem dX0_join_39 : decode cX0_join 39 = .ok (.iaload, 1) := by decide +kernel
theorem dX0_join_40 : decode cX0_join 40 = .ok (.iconst (-1), 1) := by decide +kernel
theorem dX0_join_41 : decode cX0_join 41 = .ok (.if_icmp .ne 33, 3) := by decide +kernel
theorem dX0_join_44 : decode cX0_join 44 = .ok (.aload_n 0, 1) := by decide +kernel
theorem dX0_join_45 : decode cX0_join 45 = .ok (.getfield 15, 3) := by decide +kernel
theorem dX0_join_48 : decode cX0_join 48 = .ok (.iload_n 3, 1) := by decide +kernel
theorem dX0_join_49 : decode cX0_join 49 = .ok (.aload_n 0, 1) := by decide +kernel
theorem dX0_join_50 : decode cX0_join 50 = .ok (.getfield 37, 3) := by decide +kernel
theorem dX0_join_53 : decode cX0_join 53 = .ok (.iastore, 1) := by decide +kernel
theorem dX0_join_54 : decode cX0_join 54 = .ok (.aload_n 0, 1) := by decide +kernel
theorem dX0_join_55 : decode cX0_join 55 = .ok (.getfield 18, 3) := by decide +kernel
theorem dX0_join_58 : decode cX0_join 58 = .ok (.aload_n 0, 1) := by decide +kernel
theorem dX0_join_59 : decode cX0_join 59 = .ok (.getfield 30, 3) := by decide +kernel
theorem dX0_join_62 : decode cX0_join 62 = .ok (.iload_n 3, 1) := by decide +kernel
theorem dX0_join_63 : decode cX0_join 63 = .ok (.iastore, 1) := by decide +kernel
theorem dX0_join_64 : decode cX0_join 64 = .ok (.aload_n 0, 1) := by decide +kernel
theorem dX0_join_65 : decode cX0_join 65 = .ok (.dup, 1) := by decide +kernel
theorem dX0_join_66 : decode cX0_join 66 = .ok (.getfield 30, 3) := by decide +kernel
theorem dX0_join_69 : decode cX0_join 69 = .ok (.iconst 1, 1) := by decide +kernel
theorem dX0_join_70 : decode cX0_join 70 = .ok (.iadd, 1) := by decide +kernel
theorem dX0_join_71 : decode cX0_join 71 = .ok (.putfield 30, 3) := by decide +kernel
theorem dX0_join_74 : decode cX0_join 74 = .ok (.return_, 1) := by decide +kernel
theorem dX0_countIn_0 : decode cX0_countIn 0 = .ok (.iconst 0, 1) := by decide +kernel
theorem dX0_countIn_1 : decode cX0_countIn 1 = .ok (.istore_n 3, 1) := by decide +kernel
theorem dX0_countIn_2 : decode cX0_countIn 2 = .ok (.iconst 0, 1) := by decide +kernel
theorem dX0_countIn_3 : decode cX0_countIn 3 = .ok (.istore 4, 2) := by decide +kernel
theorem dX0_countIn_5 : decode cX0_countIn 5 = .ok (.iload 4, 2) := by decide +kernel
theorem dX0_countIn_7 : decode cX0_countIn 7 = .ok (.sipush 256, 3) := by decide +kernel
theorem dX0_countIn_10 : decode cX0_countIn 10 = .ok (.if_icmp .ge 34, 3) := by decide +kernel
theorem dX0_countIn_13 : decode cX0_countIn 13 = .ok (.aload_n 0, 1) := by decide +kernel
theorem dX0_countIn_14 : decode cX0_countIn 14 = .ok (.getfield 15, 3) := by decide +kernel
theorem dX0_countIn_17 : decode cX0_countIn 17 = .ok (.iload 4, 2) := by decide +kernel
theorem dX0_countIn_19 : decode cX0_countIn 19 = .ok (.iaload, 1) := by decide +kernel
theorem dX0_countIn_20 : decode cX0_countIn 20 = .ok (.iload_n 1, 1) := by decide +kernel
theorem dX0_countIn_21 : decode cX0_countIn 21 = .ok (.if_icmp .ne 17, 3) := by decide +kernel
theorem dX0_countIn_24 : decode cX0_countIn 24 = .ok (.aload_n 0, 1) := by decide +kernel
theorem dX0_countIn_25 : decode cX0_countIn 25 = .ok (.getfield 11, 3) := by decide +kernel
theorem dX0_countIn_28 : decode cX0_countIn 28 = .ok (.iload 4, 2) := by decide +kernel
theorem dX0_countIn_30 : decode cX0_countIn 30 = .ok (.iaload, 1) := by decide +kernel
theorem dX0_countIn_31 : decode cX0_countIn 31 = .ok (.iload_n 2, 1) := by decide +kernel
theorem dX0_countIn_32 : decode cX0_countIn 32 = .ok (.if_icmp .ne 6, 3) := by decide +kernel
theorem dX0_countIn_35 : decode cX0_countIn 35 = .ok (.iinc 3 1, 3) := by decide +kernel
theorem dX0_countIn_38 : decode cX0_countIn 38 = .ok (.iinc 4 1, 3) := by decide +kernel
theorem dX0_countIn_41 : decode cX0_countIn 41 = .ok (.goto (-36), 3) := by decide +kernel
theorem dX0_countIn_44 : decode cX0_countIn 44 = .ok (.iload_n 3, 1) := by decide +kernel
theorem dX0_countIn_45 : decode cX0_countIn 45 = .ok (.ireturn, 1) := by decide +kernel
set_option maxRecDepth 20000 in
theorem ggX0_countNeighbours_J7_fill_53178 : GoodIn wsX0_countNeighbours wsJ7_fill_53178 := goodIn_r _ [6] (by decide +kernel) (by decide +kernel)
set_option maxRecDepth 20000 in
theorem gX0_countNeighbours_J7_fill_53178 : GoodIn wsX0_countNeighbours (va_wsS RX0 24 yJ7_fill_53178 wsJ7_fill_53178) := goodIn_app (goodIn_of _ (by decide +kernel)) ggX0_countNeighbours_J7_fill_53178
set_option maxRecDepth 20000 in
theorem ggX0_countNeighbours_X0_meetRound : GoodIn wsX0_countNeighbours wsX0_meetRound := goodIn_r _ [11, 1, 12, 13, 14, 10, 15, 2, 16, 17, 18, 19, 20, 21, 22, 23, 24, 25] (by decide +kernel) (by decide +kernel)
set_option maxRecDepth 20000 in
theorem gX0_countNeighbours_X0_meetRound : GoodIn wsX0_countNeighbours (wsV RX0 55 RX0 yX0_meetRound wsX0_meetRound) := goodIn_app (goodIn_of _ (by decide +kernel)) ggX0_countNeighbours_X0_meetRound
theorem dX0_countNeighbours_0 : decode cX0_countNeighbours 0 = .ok (.aload_n 0, 1) := by decide +kernel
theorem dX0_countNeighbours_1 : decode cX0_countNeighbours 1 = .ok (.getfield 21, 3) := by decide +kernel
theorem dX0_countNeighbours_4 : decode cX0_countNeighbours 4 = .ok (.iconst 0, 1) := by decide +kernel
theorem dX0_countNeighbours_5 : decode cX0_countNeighbours 5 = .ok (.invokestatic 24, 3) := by decide +kernel
theorem dX0_countNeighbours_8 : decode cX0_countNeighbours 8 = .ok (.iconst 0, 1) := by decide +kernel
theorem dX0_countNeighbours_9 : decode cX0_countNeighbours 9 = .ok (.istore_n 2, 1) := by decide +kernel
theorem dX0_countNeighbours_10 : decode cX0_countNeighbours 10 = .ok (.iload_n 2, 1) := by decide +kernel
theorem dX0_countNeighbours_11 : decode cX0_countNeighbours 11 = .ok (.sipush 256, 3) := by decide +kernel
theorem dX0_countNeighbours_14 : decode cX0_countNeighbours 14 = .ok (.if_icmp .ge 31, 3) := by decide +kernel
theorem dX0_countNeighbours_17 : decode cX0_countNeighbours 17 = .ok (.aload_n 0, 1) := by decide +kernel
theorem dX0_countNeighbours_18 : decode cX0_countNeighbours 18 = .ok (.getfield 15, 3) := by decide +kernel
theorem dX0_countNeighbours_21 : decode cX0_countNeighbours 21 = .ok (.iload_n 2, 1) := by decide +kernel
theorem dX0_countNeighbours_22 : decode cX0_countNeighbours 22 = .ok (.iaload, 1) := by decide +kernel
theorem dX0_countNeighbours_23 : decode cX0_countNeighbours 23 = .ok (.iload_n 1, 1) := by decide +kernel
theorem dX0_countNeighbours_24 : decode cX0_countNeighbours 24 = .ok (.if_icmp .ne 15, 3) := by decide +kernel
theorem dX0_countNeighbours_27 : decode cX0_countNeighbours 27 = .ok (.aload_n 0, 1) := by decide +kernel
theorem dX0_countNeighbours_28 : decode cX0_countNeighbours 28 = .ok (.iload_n 2, 1) := by decide +kernel
theorem dX0_countNeighbours_29 : decode cX0_countNeighbours 29 = .ok (.bipush 16, 2) := by decide +kernel
theorem dX0_countNeighbours_31 : decode cX0_countNeighbours 31 = .ok (.irem, 1) := by decide +kernel
theorem dX0_countNeighbours_32 : decode cX0_countNeighbours 32 = .ok (.iload_n 2, 1) := by decide +kernel
theorem dX0_countNeighbours_33 : decode cX0_countNeighbours 33 = .ok (.bipush 16, 2) := by decide +kernel
theorem dX0_countNeighbours_35 : decode cX0_countNeighbours 35 = .ok (.idiv, 1) := by decide +kernel
theorem dX0_countNeighbours_36 : decode cX0_countNeighbours 36 = .ok (.invokevirtual 55, 3) := by decide +kernel
theorem dX0_countNeighbours_39 : decode cX0_countNeighbours 39 = .ok (.iinc 2 1, 3) := by decide +kernel
theorem dX0_countNeighbours_42 : decode cX0_countNeighbours 42 = .ok (.goto (-32), 3) := by decide +kernel
theorem dX0_countNeighbours_45 : decode cX0_countNeighbours 45 = .ok (.iconst 0, 1) := by decide +kernel
theorem dX0_countNeighbours_46 : decode cX0_countNeighbours 46 = .ok (.istore_n 2, 1) := by decide +kernel
theorem dX0_countNeighbours_47 : decode cX0_countNeighbours 47 = .ok (.iconst 0, 1) := by decide +kernel
theorem dX0_countNeighbours_48 : decode cX0_countNeighbours 48 = .ok (.istore_n 3, 1) := by decide +kernel
theorem dX0_countNeighbours_49 : decode cX0_countNeighbours 49 = .ok (.iload_n 3, 1) := by decide +kernel
theorem dX0_countNeighbours_50 : decode cX0_countNeighbours 50 = .ok (.bipush 100, 2) := by decide +kernel
theorem dX0_countNeighbours_52 : decode cX0_countNeighbours 52 = .ok (.if_icmp .ge 27, 3) := by decide +kernel
theorem dX0_countNeighbours_55 : decode cX0_countNeighbours 55 = .ok (.iload_n 2, 1) := by decide +kernel
theorem dX0_countNeighbours_56 : decode cX0_countNeighbours 56 = .ok (.iload_n 3, 1) := by decide +kernel
theorem dX0_countNeighbours_57 : decode cX0_countNeighbours 57 = .ok (.iload_n 1, 1) := by decide +kernel
theorem dX0_countNeighbours_58 : decode cX0_countNeighbours 58 = .ok (.if_icmp .ne 7, 3) := by decide +kernel
theorem dX0_countNeighbours_61 : decode cX0_countNeighbours 61 = .ok (.iconst 0, 1) := by decide +kernel
theorem dX0_countNeighbours_62 : decode cX0_countNeighbours 62 = .ok (.goto 9, 3) := by decide +kernel
theorem dX0_countNeighbours_65 : decode cX0_countNeighbours 65 = .ok (.aload_n 0, 1) := by decide +kernel
theorem dX0_countNeighbours_66 : decode cX0_countNeighbours 66 = .ok (.getfield 21, 3) := by decide +kernel
theorem dX0_countNeighbours_69 : decode cX0_countNeighbours 69 = .ok (.iload_n 3, 1) := by decide +kernel
theorem dX0_countNeighbours_70 : decode cX0_countNeighbours 70 = .ok (.iaload, 1) := by decide +kernel
theorem dX0_countNeighbours_71 : decode cX0_countNeighbours 71 = .ok (.iadd, 1) := by decide +kernel
theorem dX0_countNeighbours_72 : decode cX0_countNeighbours 72 = .ok (.istore_n 2, 1) := by decide +kernel
theorem dX0_countNeighbours_73 : decode cX0_countNeighbours 73 = .ok (.iinc 3 1, 3) := by decide +kernel
theorem dX0_countNeighbours_76 : decode cX0_countNeighbours 76 = .ok (.goto (-27), 3) := by decide +kernel
theorem dX0_countNeighbours_79 : decode cX0_countNeighbours 79 = .ok (.iload_n 2, 1) := by decide +kernel
theorem dX0_countNeighbours_80 : decode cX0_countNeighbours 80 = .ok (.ireturn, 1) := by decide +kernel
set_option maxRecDepth 20000 in
theorem ggX0_meetRound_X0_pieceAt : GoodIn wsX0_meetRound wsX0_pieceAt := goodIn_r _ [6, 7, 8, 9, 5, 10, 11, 12, 13, 14, 15, 16, 17] (by decide +kernel) (by decide +kernel)
set_option maxRecDepth 20000 in
theorem gX0_meetRound_X0_pieceAt : GoodIn wsX0_meetRound (wsV RX0 58 RX0 yX0_pieceAt wsX0_pieceAt) := goodIn_app (goodIn_of _ (by decide +kernel)) ggX0_meetRound_X0_pieceAt
theorem dX0_meetRound_0 : decode cX0_meetRound 0 = .ok (.iconst (-1), 1) := by decide +kernel
theorem dX0_meetRound_1 : decode cX0_meetRound 1 = .ok (.istore_n 3, 1) := by decide +kernel
theorem dX0_meetRound_2 : decode cX0_meetRound 2 = .ok (.iload_n 3, 1) := by decide +kernel
theorem dX0_meetRound_3 : decode cX0_meetRound 3 = .ok (.iconst 1, 1) := by decide +kernel
theorem dX0_meetRound_4 : decode cX0_meetRound 4 = .ok (.if_icmp .gt 57, 3) := by decide +kernel
theorem dX0_meetRound_7 : decode cX0_meetRound 7 = .ok (.iconst (-1), 1) := by decide +kernel
theorem dX0_meetRound_8 : decode cX0_meetRound 8 = .ok (.istore 4, 2) := by decide +kernel
theorem dX0_meetRound_10 : decode cX0_meetRound 10 = .ok (.iload 4, 2) := by decide +kernel
theorem dX0_meetRound_12 : decode cX0_meetRound 12 = .ok (.iconst 1, 1) := by decide +kernel
theorem dX0_meetRound_13 : decode cX0_meetRound 13 = .ok (.if_icmp .gt 42, 3) := by decide +kernel
theorem dX0_meetRound_16 : decode cX0_meetRound 16 = .ok (.aload_n 0, 1) := by decide +kernel
theorem dX0_meetRound_17 : decode cX0_meetRound 17 = .ok (.iload_n 1, 1) := by decide +kernel
theorem dX0_meetRound_18 : decode cX0_meetRound 18 = .ok (.iload 4, 2) := by decide +kernel
theorem dX0_meetRound_20 : decode cX0_meetRound 20 = .ok (.iadd, 1) := by decide +kernel
theorem dX0_meetRound_21 : decode cX0_meetRound 21 = .ok (.iload_n 2, 1) := by decide +kernel
theorem dX0_meetRound_22 : decode cX0_meetRound 22 = .ok (.iload_n 3, 1) := by decide +kernel
theorem dX0_meetRound_23 : decode cX0_meetRound 23 = .ok (.iadd, 1) := by decide +kernel
theorem dX0_meetRound_24 : decode cX0_meetRound 24 = .ok (.invokevirtual 58, 3) := by decide +kernel
theorem dX0_meetRound_27 : decode cX0_meetRound 27 = .ok (.istore 5, 2) := by decide +kernel
theorem dX0_meetRound_29 : decode cX0_meetRound 29 = .ok (.iload 5, 2) := by decide +kernel
theorem dX0_meetRound_31 : decode cX0_meetRound 31 = .ok (.ifCond .lt 18, 3) := by decide +kernel
theorem dX0_meetRound_34 : decode cX0_meetRound 34 = .ok (.iload 5, 2) := by decide +kernel
theorem dX0_meetRound_36 : decode cX0_meetRound 36 = .ok (.bipush 100, 2) := by decide +kernel
theorem dX0_meetRound_38 : decode cX0_meetRound 38 = .ok (.if_icmp .ge 11, 3) := by decide +kernel
theorem dX0_meetRound_41 : decode cX0_meetRound 41 = .ok (.aload_n 0, 1) := by decide +kernel
theorem dX0_meetRound_42 : decode cX0_meetRound 42 = .ok (.getfield 21, 3) := by decide +kernel
theorem dX0_meetRound_45 : decode cX0_meetRound 45 = .ok (.iload 5, 2) := by decide +kernel
theorem dX0_meetRound_47 : decode cX0_meetRound 47 = .ok (.iconst 1, 1) := by decide +kernel
theorem dX0_meetRound_48 : decode cX0_meetRound 48 = .ok (.iastore, 1) := by decide +kernel
theorem dX0_meetRound_49 : decode cX0_meetRound 49 = .ok (.iinc 4 1, 3) := by decide +kernel
theorem dX0_meetRound_52 : decode cX0_meetRound 52 = .ok (.goto (-42), 3) := by decide +kernel
theorem dX0_meetRound_55 : decode cX0_meetRound 55 = .ok (.iinc 3 1, 3) := by decide +kernel
theorem dX0_meetRound_58 : decode cX0_meetRound 58 = .ok (.goto (-56), 3) := by decide +kernel
theorem dX0_meetRound_61 : decode cX0_meetRound 61 = .ok (.return_, 1) := by decide +kernel
set_option maxRecDepth 20000 in
theorem ggX1_init_J7_fill_53178 : GoodIn wsX1_init wsJ7_fill_53178 := goodIn_r _ [12] (by decide +kernel) (by decide +kernel)
set_option maxRecDepth 20000 in
theorem gX1_init_J7_fill_53178 : GoodIn wsX1_init (va_wsS RX1 21 yJ7_fill_53178 wsJ7_fill_53178) := goodIn_app (goodIn_of _ (by decide +kernel)) ggX1_init_J7_fill_53178
theorem dX1_init_0 : decode cX1_init 0 = .ok (.aload_n 0, 1) := by decide +kernel
theorem dX1_init_1 : decode cX1_init 1 = .ok (.invokespecial 3, 3) := by decide +kernel
theorem dX1_init_4 : decode cX1_init 4 = .ok (.aload_n 0, 1) := by decide +kernel
theorem dX1_init_5 : decode cX1_init 5 = .ok (.bipush 8, 2) := by decide +kernel
theorem dX1_init_7 : decode cX1_init 7 = .ok (.newarray .int, 2) := by decide +kernel
theorem dX1_init_9 : decode cX1_init 9 = .ok (.putfield 9, 3) := by decide +kernel
theorem dX1_init_12 : decode cX1_init 12 = .ok (.aload_n 0, 1) := by decide +kernel
theorem dX1_init_13 : decode cX1_init 13 = .ok (.bipush 8, 2) := by decide +kernel
theorem dX1_init_15 : decode cX1_init 15 = .ok (.newarray .int, 2) := by decide +kernel
theorem dX1_init_17 : decode cX1_init 17 = .ok (.putfield 15, 3) := by decide +kernel
theorem dX1_init_20 : decode cX1_init 20 = .ok (.aload_n 0, 1) := by decide +kernel
theorem dX1_init_21 : decode cX1_init 21 = .ok (.bipush 8, 2) := by decide +kernel
theorem dX1_init_23 : decode cX1_init 23 = .ok (.newarray .int, 2) := by decide +kernel
theorem dX1_init_25 : decode cX1_init 25 = .ok (.putfield 18, 3) := by decide +kernel
theorem dX1_init_28 : decode cX1_init 28 = .ok (.aload_n 0, 1) := by decide +kernel
theorem dX1_init_29 : decode cX1_init 29 = .ok (.getfield 15, 3) := by decide +kernel
theorem dX1_init_32 : decode cX1_init 32 = .ok (.sipush 255, 3) := by decide +kernel
theorem dX1_init_35 : decode cX1_init 35 = .ok (.invokestatic 21, 3) := by decide +kernel
theorem dX1_init_38 : decode cX1_init 38 = .ok (.aload_n 0, 1) := by decide +kernel
theorem dX1_init_39 : decode cX1_init 39 = .ok (.lconst 0, 1) := by decide +kernel
theorem dX1_init_40 : decode cX1_init 40 = .ok (.putfield 27, 3) := by decide +kernel
theorem dX1_init_43 : decode cX1_init 43 = .ok (.return_, 1) := by decide +kernel
theorem dX1_setWhite_0 : decode cX1_setWhite 0 = .ok (.aload_n 0, 1) := by decide +kernel
theorem dX1_setWhite_1 : decode cX1_setWhite 1 = .ok (.getfield 15, 3) := by decide +kernel
theorem dX1_setWhite_4 : decode cX1_setWhite 4 = .ok (.iload_n 1, 1) := by decide +kernel
theorem dX1_setWhite_5 : decode cX1_setWhite 5 = .ok (.iload_n 2, 1) := by decide +kernel
theorem dX1_setWhite_6 : decode cX1_setWhite 6 = .ok (.iastore, 1) := by decide +kernel
theorem dX1_setWhite_7 : decode cX1_setWhite 7 = .ok (.iconst 1, 1) := by decide +kernel
theorem dX1_setWhite_8 : decode cX1_setWhite 8 = .ok (.ireturn, 1) := by decide +kernel
theorem dX1_setDark_0 : decode cX1_setDark 0 = .ok (.aload_n 0, 1) := by decide +kernel
theorem dX1_setDark_1 : decode cX1_setDark 1 = .ok (.getfield 9, 3) := by decide +kernel
theorem dX1_setDark_4 : decode cX1_setDark 4 = .ok (.iload_n 1, 1) := by decide +kernel
theorem dX1_setDark_5 : decode cX1_setDark 5 = .ok (.iload_n 2, 1) := by decide +kernel
theorem dX1_setDark_6 : decode cX1_setDark 6 = .ok (.iastore, 1) := by decide +kernel
theorem dX1_setDark_7 : decode cX1_setDark 7 = .ok (.iconst 1, 1) := by decide +kernel
theorem dX1_setDark_8 : decode cX1_setDark 8 = .ok (.ireturn, 1) := by decide +kernel
theorem dX1_setValue_0 : decode cX1_setValue 0 = .ok (.aload_n 0, 1) := by decide +kernel
theorem dX1_setValue_1 : decode cX1_setValue 1 = .ok (.getfield 18, 3) := by decide +kernel
theorem dX1_setValue_4 : decode cX1_setValue 4 = .ok (.iload_n 1, 1) := by decide +kernel
theorem dX1_setValue_5 : decode cX1_setValue 5 = .ok (.iload_n 2, 1) := by decide +kernel
theorem dX1_setValue_6 : decode cX1_setValue 6 = .ok (.iastore, 1) := by decide +kernel
theorem dX1_setValue_7 : decode cX1_setValue 7 = .ok (.iconst 1, 1) := by decide +kernel
theorem dX1_setValue_8 : decode cX1_setValue 8 = .ok (.ireturn, 1) := by decide +kernel
set_option maxRecDepth 20000 in
theorem ggX1_setWhiteAt_X1_setWhite : GoodIn wsX1_setWhiteAt wsX1_setWhite := goodIn_r _ [6, 7, 8, 9, 10, 11] (by decide +kernel) (by decide +kernel)
set_option maxRecDepth 20000 in
theorem gX1_setWhiteAt_X1_setWhite : GoodIn wsX1_setWhiteAt (wsV RX1 31 RX1 yX1_setWhite wsX1_setWhite) := goodIn_app (goodIn_of _ (by decide +kernel)) ggX1_setWhiteAt_X1_setWhite
theorem dX1_setWhiteAt_0 : decode cX1_setWhiteAt 0 = .ok (.lload_n 3, 1) := by decide +kernel
theorem dX1_setWhiteAt_1 : decode cX1_setWhiteAt 1 = .ok (.aload_n 0, 1) := by decide +kernel
theorem dX1_setWhiteAt_2 : decode cX1_setWhiteAt 2 = .ok (.getfield 27, 3) := by decide +kernel
theorem dX1_setWhiteAt_5 : decode cX1_setWhiteAt 5 = .ok (.lcmp, 1) := by decide +kernel
theorem dX1_setWhiteAt_6 : decode cX1_setWhiteAt 6 = .ok (.ifCond .gt 5, 3) := by decide +kernel
theorem dX1_setWhiteAt_9 : decode cX1_setWhiteAt 9 = .ok (.iconst 0, 1) := by decide +kernel
theorem dX1_setWhiteAt_10 : decode cX1_setWhiteAt 10 = .ok (.ireturn, 1) := by decide +kernel
theorem dX1_setWhiteAt_11 : decode cX1_setWhiteAt 11 = .ok (.aload_n 0, 1) := by decide +kernel
theorem dX1_setWhiteAt_12 : decode cX1_setWhiteAt 12 = .ok (.lload_n 3, 1) := by decide +kernel
theorem dX1_setWhiteAt_13 : decode cX1_setWhiteAt 13 = .ok (.putfield 27, 3) := by decide +kernel
theorem dX1_setWhiteAt_16 : decode cX1_setWhiteAt 16 = .ok (.aload_n 0, 1) := by decide +kernel
theorem dX1_setWhiteAt_17 : decode cX1_setWhiteAt 17 = .ok (.iload_n 1, 1) := by decide +kernel
theorem dX1_setWhiteAt_18 : decode cX1_setWhiteAt 18 = .ok (.iload_n 2, 1) := by decide +kernel
theorem dX1_setWhiteAt_19 : decode cX1_setWhiteAt 19 = .ok (.invokevirtual 31, 3) := by decide +kernel
theorem dX1_setWhiteAt_22 : decode cX1_setWhiteAt 22 = .ok (.ireturn, 1) := by decide +kernel
set_option maxRecDepth 20000 in
theorem ggX1_fillRow_X1_evened : GoodIn wsX1_fillRow wsX1_evened := goodIn_r _ [5, 6, 7, 8, 9, 10, 11, 12, 13, 14, 15, 16] (by decide +kernel) (by decide +kernel)
set_option maxRecDepth 20000 in
theorem gX1_fillRow_X1_evened : GoodIn wsX1_fillRow (wsV RX1 35 RX1 yX1_evened wsX1_evened) := goodIn_app (goodIn_of _ (by decide +kernel)) ggX1_fillRow_X1_evened
theorem dX1_fillRow_0 : decode cX1_fillRow 0 = .ok (.iconst 0, 1) := by decide +kernel
theorem dX1_fillRow_1 : decode cX1_fillRow 1 = .ok (.istore_n 2, 1) := by decide +kernel
theorem dX1_fillRow_2 : decode cX1_fillRow 2 = .ok (.iload_n 2, 1) := by decide +kernel
theorem dX1_fillRow_3 : decode cX1_fillRow 3 = .ok (.bipush 8, 2) := by decide +kernel
theorem dX1_fillRow_5 : decode cX1_fillRow 5 = .ok (.if_icmp .ge 17, 3) := by decide +kernel
theorem dX1_fillRow_8 : decode cX1_fillRow 8 = .ok (.aload_n 1, 1) := by decide +kernel
theorem dX1_fillRow_9 : decode cX1_fillRow 9 = .ok (.iload_n 2, 1) := by decide +kernel
theorem dX1_fillRow_10 : decode cX1_fillRow 10 = .ok (.aload_n 0, 1) := by decide +kernel
theorem dX1_fillRow_11 : decode cX1_fillRow 11 = .ok (.iload_n 2, 1) := by decide +kernel
theorem dX1_fillRow_12 : decode cX1_fillRow 12 = .ok (.invokevirtual 35, 3) := by decide +kernel
theorem dX1_fillRow_15 : decode cX1_fillRow 15 = .ok (.iastore, 1) := by decide +kernel
theorem dX1_fillRow_16 : decode cX1_fillRow 16 = .ok (.iinc 2 1, 3) := by decide +kernel
theorem dX1_fillRow_19 : decode cX1_fillRow 19 = .ok (.goto (-17), 3) := by decide +kernel
theorem dX1_fillRow_22 : decode cX1_fillRow 22 = .ok (.return_, 1) := by decide +kernel
theorem dX1_evened_0 : decode cX1_evened 0 = .ok (.aload_n 0, 1) := by decide +kernel
theorem dX1_evened_1 : decode cX1_evened 1 = .ok (.getfield 15, 3) := by decide +kernel
theorem dX1_evened_4 : decode cX1_evened 4 = .ok (.iload_n 1, 1) := by decide +kernel
theorem dX1_evened_5 : decode cX1_evened 5 = .ok (.iaload, 1) := by decide +kernel
theorem dX1_evened_6 : decode cX1_evened 6 = .ok (.aload_n 0, 1) := by decide +kernel
theorem dX1_evened_7 : decode cX1_evened 7 = .ok (.getfield 9, 3) := by decide +kernel
theorem dX1_evened_10 : decode cX1_evened 10 = .ok (.iload_n 1, 1) := by decide +kernel
theorem dX1_evened_11 : decode cX1_evened 11 = .ok (.iaload, 1) := by decide +kernel
theorem dX1_evened_12 : decode cX1_evened 12 = .ok (.isub, 1) := by decide +kernel
theorem dX1_evened_13 : decode cX1_evened 13 = .ok (.istore_n 2, 1) := by decide +kernel
theorem dX1_evened_14 : decode cX1_evened 14 = .ok (.aload_n 0, 1) := by decide +kernel
theorem dX1_evened_15 : decode cX1_evened 15 = .ok (.getfield 18, 3) := by decide +kernel
theorem dX1_evened_18 : decode cX1_evened 18 = .ok (.iload_n 1, 1) := by decide +kernel
theorem dX1_evened_19 : decode cX1_evened 19 = .ok (.iaload, 1) := by decide +kernel
theorem dX1_evened_20 : decode cX1_evened 20 = .ok (.aload_n 0, 1) := by decide +kernel
theorem dX1_evened_21 : decode cX1_evened 21 = .ok (.getfield 9, 3) := by decide +kernel
theorem dX1_evened_24 : decode cX1_evened 24 = .ok (.iload_n 1, 1) := by decide +kernel
theorem dX1_evened_25 : decode cX1_evened 25 = .ok (.iaload, 1) := by decide +kernel
theorem dX1_evened_26 : decode cX1_evened 26 = .ok (.isub, 1) := by decide +kernel
theorem dX1_evened_27 : decode cX1_evened 27 = .ok (.istore_n 3, 1) := by decide +kernel
theorem dX1_evened_28 : decode cX1_evened 28 = .ok (.iload_n 2, 1) := by decide +kernel
theorem dX1_evened_29 : decode cX1_evened 29 = .ok (.ifCond .le 7, 3) := by decide +kernel
theorem dX1_evened_32 : decode cX1_evened 32 = .ok (.iload_n 3, 1) := by decide +kernel
theorem dX1_evened_33 : decode cX1_evened 33 = .ok (.ifCond .gt 5, 3) := by decide +kernel
theorem dX1_evened_36 : decode cX1_evened 36 = .ok (.iconst 0, 1) := by decide +kernel
theorem dX1_evened_37 : decode cX1_evened 37 = .ok (.ireturn, 1) := by decide +kernel
theorem dX1_evened_38 : decode cX1_evened 38 = .ok (.sipush 255, 3) := by decide +kernel
theorem dX1_evened_41 : decode cX1_evened 41 = .ok (.sipush 256, 3) := by decide +kernel
theorem dX1_evened_44 : decode cX1_evened 44 = .ok (.iload_n 3, 1) := by decide +kernel
theorem dX1_evened_45 : decode cX1_evened 45 = .ok (.imul, 1) := by decide +kernel
theorem dX1_evened_46 : decode cX1_evened 46 = .ok (.iload_n 2, 1) := by decide +kernel
theorem dX1_evened_47 : decode cX1_evened 47 = .ok (.idiv, 1) := by decide +kernel
theorem dX1_evened_48 : decode cX1_evened 48 = .ok (.invokestatic 39, 3) := by decide +kernel
theorem dX1_evened_51 : decode cX1_evened 51 = .ok (.ireturn, 1) := by decide +kernel
theorem dX2_init_0 : decode cX2_init 0 = .ok (.aload_n 0, 1) := by decide +kernel
theorem dX2_init_1 : decode cX2_init 1 = .ok (.invokespecial 3, 3) := by decide +kernel
theorem dX2_init_4 : decode cX2_init 4 = .ok (.aload_n 0, 1) := by decide +kernel
theorem dX2_init_5 : decode cX2_init 5 = .ok (.bipush 40, 2) := by decide +kernel
theorem dX2_init_7 : decode cX2_init 7 = .ok (.newarray .int, 2) := by decide +kernel
theorem dX2_init_9 : decode cX2_init 9 = .ok (.putfield 9, 3) := by decide +kernel
theorem dX2_init_12 : decode cX2_init 12 = .ok (.aload_n 0, 1) := by decide +kernel
theorem dX2_init_13 : decode cX2_init 13 = .ok (.bipush 40, 2) := by decide +kernel
theorem dX2_init_15 : decode cX2_init 15 = .ok (.bipush 8, 2) := by decide +kernel
theorem dX2_init_17 : decode cX2_init 17 = .ok (.multianewarray 15 2, 4) := by decide +kernel
theorem dX2_init_21 : decode cX2_init 21 = .ok (.putfield 17, 3) := by decide +kernel
theorem dX2_init_24 : decode cX2_init 24 = .ok (.aload_n 0, 1) := by decide +kernel
theorem dX2_init_25 : decode cX2_init 25 = .ok (.bipush 40, 2) := by decide +kernel
theorem dX2_init_27 : decode cX2_init 27 = .ok (.bipush 7, 2) := by decide +kernel
theorem dX2_init_29 : decode cX2_init 29 = .ok (.multianewarray 15 2, 4) := by decide +kernel
theorem dX2_init_33 : decode cX2_init 33 = .ok (.putfield 20, 3) := by decide +kernel
theorem dX2_init_36 : decode cX2_init 36 = .ok (.aload_n 0, 1) := by decide +kernel
theorem dX2_init_37 : decode cX2_init 37 = .ok (.bipush 7, 2) := by decide +kernel
theorem dX2_init_39 : decode cX2_init 39 = .ok (.newarray .int, 2) := by decide +kernel
theorem dX2_init_41 : decode cX2_init 41 = .ok (.putfield 23, 3) := by decide +kernel
theorem dX2_init_44 : decode cX2_init 44 = .ok (.aload_n 0, 1) := by decide +kernel
theorem dX2_init_45 : decode cX2_init 45 = .ok (.iload_n 1, 1) := by decide +kernel
theorem dX2_init_46 : decode cX2_init 46 = .ok (.putfield 26, 3) := by decide +kernel
theorem dX2_init_49 : decode cX2_init 49 = .ok (.aload_n 0, 1) := by decide +kernel
theorem dX2_init_50 : decode cX2_init 50 = .ok (.iconst 0, 1) := by decide +kernel
theorem dX2_init_51 : decode cX2_init 51 = .ok (.putfield 30, 3) := by decide +kernel
theorem dX2_init_54 : decode cX2_init 54 = .ok (.return_, 1) := by decide +kernel
theorem dX2_fillCells_0 : decode cX2_fillCells 0 = .ok (.iconst 0, 1) := by decide +kernel
theorem dX2_fillCells_1 : decode cX2_fillCells 1 = .ok (.istore_n 2, 1) := by decide +kernel
theorem dX2_fillCells_2 : decode cX2_fillCells 2 = .ok (.iload_n 2, 1) := by decide +kernel
theorem dX2_fillCells_3 : decode cX2_fillCells 3 = .ok (.bipush 7, 2) := by decide +kernel
theorem dX2_fillCells_5 : decode cX2_fillCells 5 = .ok (.if_icmp .ge 28, 3) := by decide +kernel
theorem dX2_fillCells_8 : decode cX2_fillCells 8 = .ok (.aload_n 1, 1) := by decide +kernel
theorem dX2_fillCells_9 : decode cX2_fillCells 9 = .ok (.iload_n 2, 1) := by decide +kernel
theorem dX2_fillCells_10 : decode cX2_fillCells 10 = .ok (.aload_n 0, 1) := by decide +kernel
theorem dX2_fillCells_11 : decode cX2_fillCells 11 = .ok (.iload_n 2, 1) := by decide +kernel
theorem dX2_fillCells_12 : decode cX2_fillCells 12 = .ok (.iconst 1, 1) := by decide +kernel
theorem dX2_fillCells_13 : decode cX2_fillCells 13 = .ok (.iadd, 1) := by decide +kernel
theorem dX2_fillCells_14 : decode cX2_fillCells 14 = .ok (.iaload, 1) := by decide +kernel
theorem dX2_fillCells_15 : decode cX2_fillCells 15 = .ok (.aload_n 0, 1) := by decide +kernel
theorem dX2_fillCells_16 : decode cX2_fillCells 16 = .ok (.iload_n 2, 1) := by decide +kernel
theorem dX2_fillCells_17 : decode cX2_fillCells 17 = .ok (.iaload, 1) := by decide +kernel
theorem dX2_fillCells_18 : decode cX2_fillCells 18 = .ok (.isub, 1) := by decide +kernel
theorem dX2_fillCells_19 : decode cX2_fillCells 19 = .ok (.sipush 256, 3) := by decide +kernel
theorem dX2_fillCells_22 : decode cX2_fillCells 22 = .ok (.iadd, 1) := by decide +kernel
theorem dX2_fillCells_23 : decode cX2_fillCells 23 = .ok (.bipush 64, 2) := by decide +kernel
theorem dX2_fillCells_25 : decode cX2_fillCells 25 = .ok (.idiv, 1) := by decide +kernel
theorem dX2_fillCells_26 : decode cX2_fillCells 26 = .ok (.iastore, 1) := by decide +kernel
theorem dX2_fillCells_27 : decode cX2_fillCells 27 = .ok (.iinc 2 1, 3) := by decide +kernel
theorem dX2_fillCells_30 : decode cX2_fillCells 30 = .ok (.goto (-28), 3) := by decide +kernel
theorem dX2_fillCells_33 : decode cX2_fillCells 33 = .ok (.return_, 1) := by decide +kernel
theorem dX2_size_0 : decode cX2_size 0 = .ok (.aload_n 0, 1) := by decide +kernel
theorem dX2_size_1 : decode cX2_size 1 = .ok (.getfield 30, 3) := by decide +kernel
theorem dX2_size_4 : decode cX2_size 4 = .ok (.ireturn, 1) := by decide +kernel
theorem dX2_has_0 : decode cX2_has 0 = .ok (.iload_n 1, 1) := by decide +kernel
theorem dX2_has_1 : decode cX2_has 1 = .ok (.ifCond .lt 15, 3) := by decide +kernel
theorem dX2_has_4 : decode cX2_has 4 = .ok (.iload_n 1, 1) := by decide +kernel
theorem dX2_has_5 : decode cX2_has 5 = .ok (.aload_n 0, 1) := by decide +kernel
theorem dX2_has_6 : decode cX2_has 6 = .ok (.getfield 30, 3) := by decide +kernel
theorem dX2_has_9 : decode cX2_has 9 = .ok (.if_icmp .ge 7, 3) := by decide +kernel
theorem dX2_has_12 : decode cX2_has 12 = .ok (.iconst 1, 1) := by decide +kernel
theorem dX2_has_13 : decode cX2_has 13 = .ok (.goto 4, 3) := by decide +kernel
theorem dX2_has_16 : decode cX2_has 16 = .ok (.iconst 0, 1) := by decide +kernel
theorem dX2_has_17 : decode cX2_has 17 = .ok (.ireturn, 1) := by decide +kernel
theorem dX2_kindOf_0 : decode cX2_kindOf 0 = .ok (.aload_n 0, 1) := by decide +kernel
theorem dX2_kindOf_1 : decode cX2_kindOf 1 = .ok (.getfield 9, 3) := by decide +kernel
theorem dX2_kindOf_4 : decode cX2_kindOf 4 = .ok (.iload_n 1, 1) := by decide +kernel
theorem dX2_kindOf_5 : decode cX2_kindOf 5 = .ok (.iaload, 1) := by decide +kernel
theorem dX2_kindOf_6 : decode cX2_kindOf 6 = .ok (.ireturn, 1) := by decide +kernel
theorem dX2_cellsOf_0 : decode cX2_cellsOf 0 = .ok (.aload_n 0, 1) := by decide +kernel
theorem dX2_cellsOf_1 : decode cX2_cellsOf 1 = .ok (.getfield 20, 3) := by decide +kernel
theorem dX2_cellsOf_4 : decode cX2_cellsOf 4 = .ok (.iload_n 1, 1) := by decide +kernel
theorem dX2_cellsOf_5 : decode cX2_cellsOf 5 = .ok (.aaload, 1) := by decide +kernel
theorem dX2_cellsOf_6 : decode cX2_cellsOf 6 = .ok (.areturn, 1) := by decide +kernel
theorem dX2_setKind_0 : decode cX2_setKind 0 = .ok (.aload_n 0, 1) := by decide +kernel
theorem dX2_setKind_1 : decode cX2_setKind 1 = .ok (.getfield 9, 3) := by decide +kernel
theorem dX2_setKind_4 : decode cX2_setKind 4 = .ok (.iload_n 1, 1) := by decide +kernel
theorem dX2_setKind_5 : decode cX2_setKind 5 = .ok (.iload_n 2, 1) := by decide +kernel
theorem dX2_setKind_6 : decode cX2_setKind 6 = .ok (.iastore, 1) := by decide +kernel
theorem dX2_setKind_7 : decode cX2_setKind 7 = .ok (.return_, 1) := by decide +kernel
set_option maxRecDepth 20000 in
theorem ggX2_add_X2_put : GoodIn wsX2_add wsX2_put := goodIn_r _ [6, 7, 8, 9, 10, 11, 12, 13, 14, 15, 5, 16, 17, 18, 19, 20, 21, 22] (by decide +kernel) (by decide +kernel)
set_option maxRecDepth 20000 in
theorem gX2_add_X2_put : GoodIn wsX2_add (wsV RX2 33 RX2 yX2_put wsX2_put) := goodIn_app (goodIn_of _ (by decide +kernel)) ggX2_add_X2_put
theorem dX2_add_0 : decode cX2_add 0 = .ok (.aload_n 0, 1) := by decide +kernel
theorem dX2_add_1 : decode cX2_add 1 = .ok (.getfield 30, 3) := by decide +kernel
theorem dX2_add_4 : decode cX2_add 4 = .ok (.bipush 40, 2) := by decide +kernel
theorem dX2_add_6 : decode cX2_add 6 = .ok (.if_icmp .lt 5, 3) := by decide +kernel
theorem dX2_add_9 : decode cX2_add 9 = .ok (.iconst (-1), 1) := by decide +kernel
theorem dX2_add_10 : decode cX2_add 10 = .ok (.ireturn, 1) := by decide +kernel
theorem dX2_add_11 : decode cX2_add 11 = .ok (.aload_n 0, 1) := by decide +kernel
theorem dX2_add_12 : decode cX2_add 12 = .ok (.getfield 30, 3) := by decide +kernel
theorem dX2_add_15 : decode cX2_add 15 = .ok (.istore_n 3, 1) := by decide +kernel
theorem dX2_add_16 : decode cX2_add 16 = .ok (.aload_n 0, 1) := by decide +kernel
theorem dX2_add_17 : decode cX2_add 17 = .ok (.iload_n 3, 1) := by decide +kernel
theorem dX2_add_18 : decode cX2_add 18 = .ok (.iload_n 1, 1) := by decide +kernel
theorem dX2_add_19 : decode cX2_add 19 = .ok (.aload_n 2, 1) := by decide +kernel
theorem dX2_add_20 : decode cX2_add 20 = .ok (.iconst 0, 1) := by decide +kernel
theorem dX2_add_21 : decode cX2_add 21 = .ok (.invokevirtual 33, 3) := by decide +kernel
theorem dX2_add_24 : decode cX2_add 24 = .ok (.aload_n 0, 1) := by decide +kernel
theorem dX2_add_25 : decode cX2_add 25 = .ok (.dup, 1) := by decide +kernel
theorem dX2_add_26 : decode cX2_add 26 = .ok (.getfield 30, 3) := by decide +kernel
theorem dX2_add_29 : decode cX2_add 29 = .ok (.iconst 1, 1) := by decide +kernel
theorem dX2_add_30 : decode cX2_add 30 = .ok (.iadd, 1) := by decide +kernel
theorem dX2_add_31 : decode cX2_add 31 = .ok (.putfield 30, 3) := by decide +kernel
theorem dX2_add_34 : decode cX2_add 34 = .ok (.iload_n 3, 1) := by decide +kernel
theorem dX2_add_35 : decode cX2_add 35 = .ok (.ireturn, 1) := by decide +kernel
set_option maxRecDepth 20000 in
theorem ggX2_put_X2_fillCells : GoodIn wsX2_put wsX2_fillCells := goodIn_r _ [11] (by decide +kernel) (by decide +kernel)
set_option maxRecDepth 20000 in
theorem gX2_put_X2_fillCells : GoodIn wsX2_put (va_wsS RX2 43 yX2_fillCells wsX2_fillCells) := goodIn_app (goodIn_of _ (by decide +kernel)) ggX2_put_X2_fillCells
theorem dX2_put_0 : decode cX2_put 0 = .ok (.aload_n 0, 1) := by decide +kernel
theorem dX2_put_1 : decode cX2_put 1 = .ok (.getfield 9, 3) := by decide +kernel
theorem dX2_put_4 : decode cX2_put 4 = .ok (.iload_n 1, 1) := by decide +kernel
theorem dX2_put_5 : decode cX2_put 5 = .ok (.iload_n 2, 1) := by decide +kernel
theorem dX2_put_6 : decode cX2_put 6 = .ok (.iastore, 1) := by decide +kernel
theorem dX2_put_7 : decode cX2_put 7 = .ok (.aload_n 3, 1) := by decide +kernel
theorem dX2_put_8 : decode cX2_put 8 = .ok (.iload 4, 2) := by decide +kernel
theorem dX2_put_10 : decode cX2_put 10 = .ok (.aload_n 0, 1) := by decide +kernel
theorem dX2_put_11 : decode cX2_put 11 = .ok (.getfield 17, 3) := by decide +kernel
theorem dX2_put_14 : decode cX2_put 14 = .ok (.iload_n 1, 1) := by decide +kernel
theorem dX2_put_15 : decode cX2_put 15 = .ok (.aaload, 1) := by decide +kernel
theorem dX2_put_16 : decode cX2_put 16 = .ok (.iconst 0, 1) := by decide +kernel
theorem dX2_put_17 : decode cX2_put 17 = .ok (.bipush 8, 2) := by decide +kernel
theorem dX2_put_19 : decode cX2_put 19 = .ok (.invokestatic 37, 3) := by decide +kernel
theorem dX2_put_22 : decode cX2_put 22 = .ok (.aload_n 0, 1) := by decide +kernel
theorem dX2_put_23 : decode cX2_put 23 = .ok (.getfield 17, 3) := by decide +kernel
theorem dX2_put_26 : decode cX2_put 26 = .ok (.iload_n 1, 1) := by decide +kernel
theorem dX2_put_27 : decode cX2_put 27 = .ok (.aaload, 1) := by decide +kernel
theorem dX2_put_28 : decode cX2_put 28 = .ok (.aload_n 0, 1) := by decide +kernel
theorem dX2_put_29 : decode cX2_put 29 = .ok (.getfield 20, 3) := by decide +kernel
theorem dX2_put_32 : decode cX2_put 32 = .ok (.iload_n 1, 1) := by decide +kernel
theorem dX2_put_33 : decode cX2_put 33 = .ok (.aaload, 1) := by decide +kernel
theorem dX2_put_34 : decode cX2_put 34 = .ok (.invokestatic 43, 3) := by decide +kernel
theorem dX2_put_37 : decode cX2_put 37 = .ok (.return_, 1) := by decide +kernel
set_option maxRecDepth 20000 in
theorem ggX2_sumOf_J7_fill_53178 : GoodIn wsX2_sumOf wsJ7_fill_53178 := goodIn_r _ [8] (by decide +kernel) (by decide +kernel)
set_option maxRecDepth 20000 in
theorem gX2_sumOf_J7_fill_53178 : GoodIn wsX2_sumOf (va_wsS RX2 47 yJ7_fill_53178 wsJ7_fill_53178) := goodIn_app (goodIn_of _ (by decide +kernel)) ggX2_sumOf_J7_fill_53178
set_option maxRecDepth 20000 in
theorem ggX2_sumOf_X2_countAlike : GoodIn wsX2_sumOf wsX2_countAlike := goodIn_r _ [13, 1, 14, 15, 16, 17, 18, 19] (by decide +kernel) (by decide +kernel)
set_option maxRecDepth 20000 in
theorem gX2_sumOf_X2_countAlike : GoodIn wsX2_sumOf (wsV RX2 53 RX2 yX2_countAlike wsX2_countAlike) := goodIn_app (goodIn_of _ (by decide +kernel)) ggX2_sumOf_X2_countAlike
theorem dX2_sumOf_0 : decode cX2_sumOf 0 = .ok (.aload_n 0, 1) := by decide +kernel
theorem dX2_sumOf_1 : decode cX2_sumOf 1 = .ok (.getfield 23, 3) := by decide +kernel
theorem dX2_sumOf_4 : decode cX2_sumOf 4 = .ok (.iconst 0, 1) := by decide +kernel
theorem dX2_sumOf_5 : decode cX2_sumOf 5 = .ok (.invokestatic 47, 3) := by decide +kernel
theorem dX2_sumOf_8 : decode cX2_sumOf 8 = .ok (.iconst 0, 1) := by decide +kernel
theorem dX2_sumOf_9 : decode cX2_sumOf 9 = .ok (.istore 4, 2) := by decide +kernel
theorem dX2_sumOf_11 : decode cX2_sumOf 11 = .ok (.iconst 0, 1) := by decide +kernel
theorem dX2_sumOf_12 : decode cX2_sumOf 12 = .ok (.istore 5, 2) := by decide +kernel
theorem dX2_sumOf_14 : decode cX2_sumOf 14 = .ok (.iload 5, 2) := by decide +kernel
theorem dX2_sumOf_16 : decode cX2_sumOf 16 = .ok (.aload_n 0, 1) := by decide +kernel
theorem dX2_sumOf_17 : decode cX2_sumOf 17 = .ok (.getfield 30, 3) := by decide +kernel
theorem dX2_sumOf_20 : decode cX2_sumOf 20 = .ok (.if_icmp .ge 41, 3) := by decide +kernel
theorem dX2_sumOf_23 : decode cX2_sumOf 23 = .ok (.aload_n 0, 1) := by decide +kernel
theorem dX2_sumOf_24 : decode cX2_sumOf 24 = .ok (.getfield 9, 3) := by decide +kernel
theorem dX2_sumOf_27 : decode cX2_sumOf 27 = .ok (.iload 5, 2) := by decide +kernel
theorem dX2_sumOf_29 : decode cX2_sumOf 29 = .ok (.iaload, 1) := by decide +kernel
theorem dX2_sumOf_30 : decode cX2_sumOf 30 = .ok (.iload_n 1, 1) := by decide +kernel
theorem dX2_sumOf_31 : decode cX2_sumOf 31 = .ok (.if_icmp .ne 24, 3) := by decide +kernel
theorem dX2_sumOf_34 : decode cX2_sumOf 34 = .ok (.iload 5, 2) := by decide +kernel
theorem dX2_sumOf_36 : decode cX2_sumOf 36 = .ok (.iload_n 3, 1) := by decide +kernel
theorem dX2_sumOf_37 : decode cX2_sumOf 37 = .ok (.if_icmp .eq 18, 3) := by decide +kernel
theorem dX2_sumOf_40 : decode cX2_sumOf 40 = .ok (.iinc 4 1, 3) := by decide +kernel
theorem dX2_sumOf_43 : decode cX2_sumOf 43 = .ok (.aload_n 0, 1) := by decide +kernel
theorem dX2_sumOf_44 : decode cX2_sumOf 44 = .ok (.aload_n 2, 1) := by decide +kernel
theorem dX2_sumOf_45 : decode cX2_sumOf 45 = .ok (.aload_n 0, 1) := by decide +kernel
theorem dX2_sumOf_46 : decode cX2_sumOf 46 = .ok (.getfield 20, 3) := by decide +kernel
theorem dX2_sumOf_49 : decode cX2_sumOf 49 = .ok (.iload 5, 2) := by decide +kernel
theorem dX2_sumOf_51 : decode cX2_sumOf 51 = .ok (.aaload, 1) := by decide +kernel
theorem dX2_sumOf_52 : decode cX2_sumOf 52 = .ok (.invokevirtual 53, 3) := by decide +kernel
theorem dX2_sumOf_55 : decode cX2_sumOf 55 = .ok (.iinc 5 1, 3) := by decide +kernel
theorem dX2_sumOf_58 : decode cX2_sumOf 58 = .ok (.goto (-44), 3) := by decide +kernel
theorem dX2_sumOf_61 : decode cX2_sumOf 61 = .ok (.iload 4, 2) := by decide +kernel
theorem dX2_sumOf_63 : decode cX2_sumOf 63 = .ok (.ifCond .ne 5, 3) := by decide +kernel
theorem dX2_sumOf_66 : decode cX2_sumOf 66 = .ok (.lconst 0, 1) := by decide +kernel
theorem dX2_sumOf_67 : decode cX2_sumOf 67 = .ok (.lreturn, 1) := by decide +kernel
theorem dX2_sumOf_68 : decode cX2_sumOf 68 = .ok (.lconst 0, 1) := by decide +kernel
theorem dX2_sumOf_69 : decode cX2_sumOf 69 = .ok (.lstore 5, 2) := by decide +kernel
theorem dX2_sumOf_71 : decode cX2_sumOf 71 = .ok (.iconst 0, 1) := by decide +kernel
theorem dX2_sumOf_72 : decode cX2_sumOf 72 = .ok (.istore 7, 2) := by decide +kernel
theorem dX2_sumOf_74 : decode cX2_sumOf 74 = .ok (.iload 7, 2) := by decide +kernel
theorem dX2_sumOf_76 : decode cX2_sumOf 76 = .ok (.bipush 7, 2) := by decide +kernel
theorem dX2_sumOf_78 : decode cX2_sumOf 78 = .ok (.if_icmp .ge 29, 3) := by decide +kernel
theorem dX2_sumOf_81 : decode cX2_sumOf 81 = .ok (.lload 5, 2) := by decide +kernel
theorem dX2_sumOf_83 : decode cX2_sumOf 83 = .ok (.aload_n 0, 1) := by decide +kernel
theorem dX2_sumOf_84 : decode cX2_sumOf 84 = .ok (.getfield 23, 3) := by decide +kernel
theorem dX2_sumOf_87 : decode cX2_sumOf 87 = .ok (.iload 7, 2) := by decide +kernel
theorem dX2_sumOf_89 : decode cX2_sumOf 89 = .ok (.iaload, 1) := by decide +kernel
theorem dX2_sumOf_90 : decode cX2_sumOf 90 = .ok (.sipush 1000, 3) := by decide +kernel
theorem dX2_sumOf_93 : decode cX2_sumOf 93 = .ok (.imul, 1) := by decide +kernel
theorem dX2_sumOf_94 : decode cX2_sumOf 94 = .ok (.iload 4, 2) := by decide +kernel
theorem dX2_sumOf_96 : decode cX2_sumOf 96 = .ok (.idiv, 1) := by decide +kernel
theorem dX2_sumOf_97 : decode cX2_sumOf 97 = .ok (.i2l, 1) := by decide +kernel
theorem dX2_sumOf_98 : decode cX2_sumOf 98 = .ok (.ladd, 1) := by decide +kernel
theorem dX2_sumOf_99 : decode cX2_sumOf 99 = .ok (.lstore 5, 2) := by decide +kernel
theorem dX2_sumOf_101 : decode cX2_sumOf 101 = .ok (.iinc 7 1, 3) := by decide +kernel
theorem dX2_sumOf_104 : decode cX2_sumOf 104 = .ok (.goto (-30), 3) := by decide +kernel
theorem dX2_sumOf_107 : decode cX2_sumOf 107 = .ok (.lload 5, 2) := by decide +kernel
theorem dX2_sumOf_109 : decode cX2_sumOf 109 = .ok (.lreturn, 1) := by decide +kernel
theorem dX2_countAlike_0 : decode cX2_countAlike 0 = .ok (.iconst 0, 1) := by decide +kernel
theorem dX2_countAlike_1 : decode cX2_countAlike 1 = .ok (.istore_n 3, 1) := by decide +kernel
theorem dX2_countAlike_2 : decode cX2_countAlike 2 = .ok (.iload_n 3, 1) := by decide +kernel
theorem dX2_countAlike_3 : decode cX2_countAlike 3 = .ok (.bipush 7, 2) := by decide +kernel
theorem dX2_countAlike_5 : decode cX2_countAlike 5 = .ok (.if_icmp .ge 28, 3) := by decide +kernel
theorem dX2_countAlike_8 : decode cX2_countAlike 8 = .ok (.aload_n 1, 1) := by decide +kernel
theorem dX2_countAlike_9 : decode cX2_countAlike 9 = .ok (.iload_n 3, 1) := by decide +kernel
theorem dX2_countAlike_10 : decode cX2_countAlike 10 = .ok (.iaload, 1) := by decide +kernel
theorem dX2_countAlike_11 : decode cX2_countAlike 11 = .ok (.aload_n 2, 1) := by decide +kernel
theorem dX2_countAlike_12 : decode cX2_countAlike 12 = .ok (.iload_n 3, 1) := by decide +kernel
theorem dX2_countAlike_13 : decode cX2_countAlike 13 = .ok (.iaload, 1) := by decide +kernel
theorem dX2_countAlike_14 : decode cX2_countAlike 14 = .ok (.if_icmp .ne 13, 3) := by decide +kernel
theorem dX2_countAlike_17 : decode cX2_countAlike 17 = .ok (.aload_n 0, 1) := by decide +kernel
theorem dX2_countAlike_18 : decode cX2_countAlike 18 = .ok (.getfield 23, 3) := by decide +kernel
theorem dX2_countAlike_21 : decode cX2_countAlike 21 = .ok (.iload_n 3, 1) := by decide +kernel
theorem dX2_countAlike_22 : decode cX2_countAlike 22 = .ok (.dup2, 1) := by decide +kernel
theorem dX2_countAlike_23 : decode cX2_countAlike 23 = .ok (.iaload, 1) := by decide +kernel
theorem dX2_countAlike_24 : decode cX2_countAlike 24 = .ok (.iconst 1, 1) := by decide +kernel
theorem dX2_countAlike_25 : decode cX2_countAlike 25 = .ok (.iadd, 1) := by decide +kernel
theorem dX2_countAlike_26 : decode cX2_countAlike 26 = .ok (.iastore, 1) := by decide +kernel
theorem dX2_countAlike_27 : decode cX2_countAlike 27 = .ok (.iinc 3 1, 3) := by decide +kernel
theorem dX2_countAlike_30 : decode cX2_countAlike 30 = .ok (.goto (-28), 3) := by decide +kernel
theorem dX2_countAlike_33 : decode cX2_countAlike 33 = .ok (.return_, 1) := by decide +kernel
set_option maxRecDepth 20000 in
theorem ggX2_packedByte_X2_plainByte : GoodIn wsX2_packedByte wsX2_plainByte := goodIn_r _ [6, 7, 1, 8, 9, 14, 15, 16, 17, 18, 19] (by decide +kernel) (by decide +kernel)
set_option maxRecDepth 20000 in
theorem gX2_packedByte_X2_plainByte : GoodIn wsX2_packedByte (wsV RX2 56 RX2 yX2_plainByte wsX2_plainByte) := goodIn_app (goodIn_of _ (by decide +kernel)) ggX2_packedByte_X2_plainByte
set_option maxRecDepth 20000 in
theorem ggX2_packedByte_X2_check : GoodIn wsX2_packedByte wsX2_check := goodIn_r _ [13, 2, 3, 4, 5, 6, 7, 1, 8, 9, 14, 15, 16, 17, 18, 19] (by decide +kernel) (by decide +kernel)
set_option maxRecDepth 20000 in
theorem gX2_packedByte_X2_check : GoodIn wsX2_packedByte (wsV RX2 60 RX2 yX2_check wsX2_check) := goodIn_app (goodIn_of _ (by decide +kernel)) ggX2_packedByte_X2_check
theorem dX2_packedByte_0 : decode cX2_packedByte 0 = .ok (.iconst 2, 1) := by decide +kernel
theorem dX2_packedByte_1 : decode cX2_packedByte 1 = .ok (.bipush 9, 2) := by decide +kernel
theorem dX2_packedByte_3 : decode cX2_packedByte 3 = .ok (.aload_n 0, 1) := by decide +kernel
theorem dX2_packedByte_4 : decode cX2_packedByte 4 = .ok (.getfield 30, 3) := by decide +kernel
theorem dX2_packedByte_7 : decode cX2_packedByte 7 = .ok (.imul, 1) := by decide +kernel
theorem dX2_packedByte_8 : decode cX2_packedByte 8 = .ok (.iadd, 1) := by decide +kernel
theorem dX2_packedByte_9 : decode cX2_packedByte 9 = .ok (.istore_n 2, 1) := by decide +kernel
theorem dX2_packedByte_10 : decode cX2_packedByte 10 = .ok (.iload_n 1, 1) := by decide +kernel
theorem dX2_packedByte_11 : decode cX2_packedByte 11 = .ok (.ifCond .lt 8, 3) := by decide +kernel
theorem dX2_packedByte_14 : decode cX2_packedByte 14 = .ok (.iload_n 1, 1) := by decide +kernel
theorem dX2_packedByte_15 : decode cX2_packedByte 15 = .ok (.iload_n 2, 1) := by decide +kernel
theorem dX2_packedByte_16 : decode cX2_packedByte 16 = .ok (.if_icmp .le 5, 3) := by decide +kernel
theorem dX2_packedByte_19 : decode cX2_packedByte 19 = .ok (.iconst (-1), 1) := by decide +kernel
theorem dX2_packedByte_20 : decode cX2_packedByte 20 = .ok (.ireturn, 1) := by decide +kernel
theorem dX2_packedByte_21 : decode cX2_packedByte 21 = .ok (.iload_n 1, 1) := by decide +kernel
theorem dX2_packedByte_22 : decode cX2_packedByte 22 = .ok (.iload_n 2, 1) := by decide +kernel
theorem dX2_packedByte_23 : decode cX2_packedByte 23 = .ok (.if_icmp .ge 11, 3) := by decide +kernel
theorem dX2_packedByte_26 : decode cX2_packedByte 26 = .ok (.aload_n 0, 1) := by decide +kernel
theorem dX2_packedByte_27 : decode cX2_packedByte 27 = .ok (.iload_n 1, 1) := by decide +kernel
theorem dX2_packedByte_28 : decode cX2_packedByte 28 = .ok (.invokevirtual 56, 3) := by decide +kernel
theorem dX2_packedByte_31 : decode cX2_packedByte 31 = .ok (.goto 8, 3) := by decide +kernel
theorem dX2_packedByte_34 : decode cX2_packedByte 34 = .ok (.aload_n 0, 1) := by decide +kernel
theorem dX2_packedByte_35 : decode cX2_packedByte 35 = .ok (.iload_n 2, 1) := by decide +kernel
theorem dX2_packedByte_36 : decode cX2_packedByte 36 = .ok (.invokevirtual 60, 3) := by decide +kernel
theorem dX2_packedByte_39 : decode cX2_packedByte 39 = .ok (.ireturn, 1) := by decide +kernel
theorem dX2_plainByte_0 : decode cX2_plainByte 0 = .ok (.iload_n 1, 1) := by decide +kernel
theorem dX2_plainByte_1 : decode cX2_plainByte 1 = .ok (.iconst 2, 1) := by decide +kernel
theorem dX2_plainByte_2 : decode cX2_plainByte 2 = .ok (.if_icmp .ge 19, 3) := by decide +kernel
theorem dX2_plainByte_5 : decode cX2_plainByte 5 = .ok (.iload_n 1, 1) := by decide +kernel
theorem dX2_plainByte_6 : decode cX2_plainByte 6 = .ok (.ifCond .ne 10, 3) := by decide +kernel
theorem dX2_plainByte_9 : decode cX2_plainByte 9 = .ok (.aload_n 0, 1) := by decide +kernel
theorem dX2_plainByte_10 : decode cX2_plainByte 10 = .ok (.getfield 26, 3) := by decide +kernel
theorem dX2_plainByte_13 : decode cX2_plainByte 13 = .ok (.goto 7, 3) := by decide +kernel
theorem dX2_plainByte_16 : decode cX2_plainByte 16 = .ok (.aload_n 0, 1) := by decide +kernel
theorem dX2_plainByte_17 : decode cX2_plainByte 17 = .ok (.getfield 30, 3) := by decide +kernel
theorem dX2_plainByte_20 : decode cX2_plainByte 20 = .ok (.ireturn, 1) := by decide +kernel
theorem dX2_plainByte_21 : decode cX2_plainByte 21 = .ok (.iload_n 1, 1) := by decide +kernel
theorem dX2_plainByte_22 : decode cX2_plainByte 22 = .ok (.iconst 2, 1) := by decide +kernel
theorem dX2_plainByte_23 : decode cX2_plainByte 23 = .ok (.isub, 1) := by decide +kernel
theorem dX2_plainByte_24 : decode cX2_plainByte 24 = .ok (.bipush 9, 2) := by decide +kernel
theorem dX2_plainByte_26 : decode cX2_plainByte 26 = .ok (.idiv, 1) := by decide +kernel
theorem dX2_plainByte_27 : decode cX2_plainByte 27 = .ok (.istore_n 2, 1) := by decide +kernel
theorem dX2_plainByte_28 : decode cX2_plainByte 28 = .ok (.iload_n 1, 1) := by decide +kernel
theorem dX2_plainByte_29 : decode cX2_plainByte 29 = .ok (.iconst 2, 1) := by decide +kernel
theorem dX2_plainByte_30 : decode cX2_plainByte 30 = .ok (.isub, 1) := by decide +kernel
theorem dX2_plainByte_31 : decode cX2_plainByte 31 = .ok (.bipush 9, 2) := by decide +kernel
theorem dX2_plainByte_33 : decode cX2_plainByte 33 = .ok (.irem, 1) := by decide +kernel
theorem dX2_plainByte_34 : decode cX2_plainByte 34 = .ok (.istore_n 3, 1) := by decide +kernel
theorem dX2_plainByte_35 : decode cX2_plainByte 35 = .ok (.iload_n 3, 1) := by decide +kernel
theorem dX2_plainByte_36 : decode cX2_plainByte 36 = .ok (.ifCond .ne 12, 3) := by decide +kernel
theorem dX2_plainByte_39 : decode cX2_plainByte 39 = .ok (.aload_n 0, 1) := by decide +kernel
theorem dX2_plainByte_40 : decode cX2_plainByte 40 = .ok (.getfield 9, 3) := by decide +kernel
theorem dX2_plainByte_43 : decode cX2_plainByte 43 = .ok (.iload_n 2, 1) := by decide +kernel
theorem dX2_plainByte_44 : decode cX2_plainByte 44 = .ok (.iaload, 1) := by decide +kernel
theorem dX2_plainByte_45 : decode cX2_plainByte 45 = .ok (.goto 13, 3) := by decide +kernel
theorem dX2_plainByte_48 : decode cX2_plainByte 48 = .ok (.aload_n 0, 1) := by decide +kernel
theorem dX2_plainByte_49 : decode cX2_plainByte 49 = .ok (.getfield 17, 3) := by decide +kernel
theorem dX2_plainByte_52 : decode cX2_plainByte 52 = .ok (.iload_n 2, 1) := by decide +kernel
theorem dX2_plainByte_53 : decode cX2_plainByte 53 = .ok (.aaload, 1) := by decide +kernel
theorem dX2_plainByte_54 : decode cX2_plainByte 54 = .ok (.iload_n 3, 1) := by decide +kernel
theorem dX2_plainByte_55 : decode cX2_plainByte 55 = .ok (.iconst 1, 1) := by decide +kernel
theorem dX2_plainByte_56 : decode cX2_plainByte 56 = .ok (.isub, 1) := by decide +kernel
theorem dX2_plainByte_57 : decode cX2_plainByte 57 = .ok (.iaload, 1) := by decide +kernel
theorem dX2_plainByte_58 : decode cX2_plainByte 58 = .ok (.ireturn, 1) := by decide +kernel
set_option maxRecDepth 20000 in
theorem ggX2_check_X2_plainByte : GoodIn wsX2_check wsX2_plainByte := goodIn_r _ [5, 6, 7, 8, 9, 10, 11, 12, 13, 14, 15] (by decide +kernel) (by decide +kernel)
set_option maxRecDepth 20000 in
theorem gX2_check_X2_plainByte : GoodIn wsX2_check (wsV RX2 56 RX2 yX2_plainByte wsX2_plainByte) := goodIn_app (goodIn_of _ (by decide +kernel)) ggX2_check_X2_plainByte
theorem dX2_check_0 : decode cX2_check 0 = .ok (.iconst 0, 1) := by decide +kernel
theorem dX2_check_1 : decode cX2_check 1 = .ok (.istore_n 2, 1) := by decide +kernel
theorem dX2_check_2 : decode cX2_check 2 = .ok (.iconst 0, 1) := by decide +kernel
theorem dX2_check_3 : decode cX2_check 3 = .ok (.istore_n 3, 1) := by decide +kernel
theorem dX2_check_4 : decode cX2_check 4 = .ok (.iload_n 3, 1) := by decide +kernel
theorem dX2_check_5 : decode cX2_check 5 = .ok (.iload_n 1, 1) := by decide +kernel
theorem dX2_check_6 : decode cX2_check 6 = .ok (.if_icmp .ge 17, 3) := by decide +kernel
theorem dX2_check_9 : decode cX2_check 9 = .ok (.iload_n 2, 1) := by decide +kernel
theorem dX2_check_10 : decode cX2_check 10 = .ok (.aload_n 0, 1) := by decide +kernel
theorem dX2_check_11 : decode cX2_check 11 = .ok (.iload_n 3, 1) := by decide +kernel
theorem dX2_check_12 : decode cX2_check 12 = .ok (.invokevirtual 56, 3) := by decide +kernel
theorem dX2_check_15 : decode cX2_check 15 = .ok (.iadd, 1) := by decide +kernel
theorem dX2_check_16 : decode cX2_check 16 = .ok (.istore_n 2, 1) := by decide +kernel
theorem dX2_check_17 : decode cX2_check 17 = .ok (.iinc 3 1, 3) := by decide +kernel
theorem dX2_check_20 : decode cX2_check 20 = .ok (.goto (-16), 3) := by decide +kernel
theorem dX2_check_23 : decode cX2_check 23 = .ok (.iload_n 2, 1) := by decide +kernel
theorem dX2_check_24 : decode cX2_check 24 = .ok (.sipush 256, 3) := by decide +kernel
theorem dX2_check_27 : decode cX2_check 27 = .ok (.irem, 1) := by decide +kernel
theorem dX2_check_28 : decode cX2_check 28 = .ok (.ireturn, 1) := by decide +kernel
theorem dX2_fits_0 : decode cX2_fits 0 = .ok (.iload_n 2, 1) := by decide +kernel
theorem dX2_fits_1 : decode cX2_fits 1 = .ok (.iconst 2, 1) := by decide +kernel
theorem dX2_fits_2 : decode cX2_fits 2 = .ok (.if_icmp .le 21, 3) := by decide +kernel
theorem dX2_fits_5 : decode cX2_fits 5 = .ok (.aload_n 1, 1) := by decide +kernel
theorem dX2_fits_6 : decode cX2_fits 6 = .ok (.iconst 0, 1) := by decide +kernel
theorem dX2_fits_7 : decode cX2_fits 7 = .ok (.iaload, 1) := by decide +kernel
theorem dX2_fits_8 : decode cX2_fits 8 = .ok (.aload_n 0, 1) := by decide +kernel
theorem dX2_fits_9 : decode cX2_fits 9 = .ok (.getfield 26, 3) := by decide +kernel
theorem dX2_fits_12 : decode cX2_fits 12 = .ok (.if_icmp .ne 11, 3) := by decide +kernel
theorem dX2_fits_15 : decode cX2_fits 15 = .ok (.aload_n 1, 1) := by decide +kernel
theorem dX2_fits_16 : decode cX2_fits 16 = .ok (.iconst 1, 1) := by decide +kernel
theorem dX2_fits_17 : decode cX2_fits 17 = .ok (.iaload, 1) := by decide +kernel
theorem dX2_fits_18 : decode cX2_fits 18 = .ok (.bipush 40, 2) := by decide +kernel
theorem dX2_fits_20 : decode cX2_fits 20 = .ok (.if_icmp .le 5, 3) := by decide +kernel
theorem dX2_fits_23 : decode cX2_fits 23 = .ok (.iconst 0, 1) := by decide +kernel
theorem dX2_fits_24 : decode cX2_fits 24 = .ok (.ireturn, 1) := by decide +kernel
theorem dX2_fits_25 : decode cX2_fits 25 = .ok (.iconst 2, 1) := by decide +kernel
theorem dX2_fits_26 : decode cX2_fits 26 = .ok (.bipush 9, 2) := by decide +kernel
theorem dX2_fits_28 : decode cX2_fits 28 = .ok (.aload_n 1, 1) := by decide +kernel
theorem dX2_fits_29 : decode cX2_fits 29 = .ok (.iconst 1, 1) := by decide +kernel
theorem dX2_fits_30 : decode cX2_fits 30 = .ok (.iaload, 1) := by decide +kernel
theorem dX2_fits_31 : decode cX2_fits 31 = .ok (.imul, 1) := by decide +kernel
theorem dX2_fits_32 : decode cX2_fits 32 = .ok (.iadd, 1) := by decide +kernel
theorem dX2_fits_33 : decode cX2_fits 33 = .ok (.istore_n 3, 1) := by decide +kernel
theorem dX2_fits_34 : decode cX2_fits 34 = .ok (.iload_n 2, 1) := by decide +kernel
theorem dX2_fits_35 : decode cX2_fits 35 = .ok (.iload_n 3, 1) := by decide +kernel
theorem dX2_fits_36 : decode cX2_fits 36 = .ok (.iconst 1, 1) := by decide +kernel
theorem dX2_fits_37 : decode cX2_fits 37 = .ok (.iadd, 1) := by decide +kernel
theorem dX2_fits_38 : decode cX2_fits 38 = .ok (.if_icmp .eq 5, 3) := by decide +kernel
theorem dX2_fits_41 : decode cX2_fits 41 = .ok (.iconst 0, 1) := by decide +kernel
theorem dX2_fits_42 : decode cX2_fits 42 = .ok (.ireturn, 1) := by decide +kernel
theorem dX2_fits_43 : decode cX2_fits 43 = .ok (.iconst 0, 1) := by decide +kernel
theorem dX2_fits_44 : decode cX2_fits 44 = .ok (.istore 4, 2) := by decide +kernel
theorem dX2_fits_46 : decode cX2_fits 46 = .ok (.iconst 0, 1) := by decide +kernel
theorem dX2_fits_47 : decode cX2_fits 47 = .ok (.istore 5, 2) := by decide +kernel
theorem dX2_fits_49 : decode cX2_fits 49 = .ok (.iload 5, 2) := by decide +kernel
theorem dX2_fits_51 : decode cX2_fits 51 = .ok (.iload_n 3, 1) := by decide +kernel
theorem dX2_fits_52 : decode cX2_fits 52 = .ok (.if_icmp .ge 47, 3) := by decide +kernel
theorem dX2_fits_55 : decode cX2_fits 55 = .ok (.iload 5, 2) := by decide +kernel
theorem dX2_fits_57 : decode cX2_fits 57 = .ok (.iconst 2, 1) := by decide +kernel
theorem dX2_fits_58 : decode cX2_fits 58 = .ok (.if_icmp .lt 26, 3) := by decide +kernel
theorem dX2_fits_61 : decode cX2_fits 61 = .ok (.iload 5, 2) := by decide +kernel
theorem dX2_fits_63 : decode cX2_fits 63 = .ok (.iconst 2, 1) := by decide +kernel
theorem dX2_fits_64 : decode cX2_fits 64 = .ok (.isub, 1) := by decide +kernel
theorem dX2_fits_65 : decode cX2_fits 65 = .ok (.bipush 9, 2) := by decide +kernel
theorem dX2_fits_67 : decode cX2_fits 67 = .ok (.irem, 1) := by decide +kernel
theorem dX2_fits_68 : decode cX2_fits 68 = .ok (.ifCond .ne 16, 3) := by decide +kernel
theorem dX2_fits_71 : decode cX2_fits 71 = .ok (.aload_n 1, 1) := by decide +kernel
theorem dX2_fits_72 : decode cX2_fits 72 = .ok (.iload 5, 2) := by decide +kernel
theorem dX2_fits_74 : decode cX2_fits 74 = .ok (.iaload, 1) := by decide +kernel
theorem dX2_fits_75 : decode cX2_fits 75 = .ok (.aload_n 0, 1) := by decide +kernel
theorem dX2_fits_76 : decode cX2_fits 76 = .ok (.getfield 26, 3) := by decide +kernel
theorem dX2_fits_79 : decode cX2_fits 79 = .ok (.if_icmp .lt 5, 3) := by decide +kernel
theorem dX2_fits_82 : decode cX2_fits 82 = .ok (.iconst 0, 1) := by decide +kernel
theorem dX2_fits_83 : decode cX2_fits 83 = .ok (.ireturn, 1) := by decide +kernel
theorem dX2_fits_84 : decode cX2_fits 84 = .ok (.iload 4, 2) := by decide +kernel
theorem dX2_fits_86 : decode cX2_fits 86 = .ok (.aload_n 1, 1) := by decide +kernel
theorem dX2_fits_87 : decode cX2_fits 87 = .ok (.iload 5, 2) := by decide +kernel
theorem dX2_fits_89 : decode cX2_fits 89 = .ok (.iaload, 1) := by decide +kernel
theorem dX2_fits_90 : decode cX2_fits 90 = .ok (.iadd, 1) := by decide +kernel
theorem dX2_fits_91 : decode cX2_fits 91 = .ok (.istore 4, 2) := by decide +kernel
theorem dX2_fits_93 : decode cX2_fits 93 = .ok (.iinc 5 1, 3) := by decide +kernel
theorem dX2_fits_96 : decode cX2_fits 96 = .ok (.goto (-47), 3) := by decide +kernel
theorem dX2_fits_99 : decode cX2_fits 99 = .ok (.aload_n 1, 1) := by decide +kernel
theorem dX2_fits_100 : decode cX2_fits 100 = .ok (.iload_n 3, 1) := by decide +kernel
theorem dX2_fits_101 : decode cX2_fits 101 = .ok (.iaload, 1) := by decide +kernel
theorem dX2_fits_102 : decode cX2_fits 102 = .ok (.iload 4, 2) := by decide +kernel
theorem dX2_fits_104 : decode cX2_fits 104 = .ok (.sipush 256, 3) := by decide +kernel
theorem dX2_fits_107 : decode cX2_fits 107 = .ok (.irem, 1) := by decide +kernel
theorem dX2_fits_108 : decode cX2_fits 108 = .ok (.if_icmp .ne 7, 3) := by decide +kernel
theorem dX2_fits_111 : decode cX2_fits 111 = .ok (.iconst 1, 1) := by decide +kernel
theorem dX2_fits_112 : decode cX2_fits 112 = .ok (.goto 4, 3) := by decide +kernel
theorem dX2_fits_115 : decode cX2_fits 115 = .ok (.iconst 0, 1) := by decide +kernel
theorem dX2_fits_116 : decode cX2_fits 116 = .ok (.ireturn, 1) := by decide +kernel
set_option maxRecDepth 20000 in
theorem ggX2_load_X2_put : GoodIn wsX2_load wsX2_put := goodIn_r _ [10, 11, 12, 13, 14, 15, 16, 17, 18, 19, 9, 20, 21, 22, 23, 24, 25, 26] (by decide +kernel) (by decide +kernel)
set_option maxRecDepth 20000 in
theorem gX2_load_X2_put : GoodIn wsX2_load (wsV RX2 33 RX2 yX2_put wsX2_put) := goodIn_app (goodIn_of _ (by decide +kernel)) ggX2_load_X2_put
theorem dX2_load_0 : decode cX2_load 0 = .ok (.aload_n 0, 1) := by decide +kernel
theorem dX2_load_1 : decode cX2_load 1 = .ok (.bipush 40, 2) := by decide +kernel
theorem dX2_load_3 : decode cX2_load 3 = .ok (.aload_n 1, 1) := by decide +kernel
theorem dX2_load_4 : decode cX2_load 4 = .ok (.iconst 1, 1) := by decide +kernel
theorem dX2_load_5 : decode cX2_load 5 = .ok (.iaload, 1) := by decide +kernel
theorem dX2_load_6 : decode cX2_load 6 = .ok (.invokestatic 63, 3) := by decide +kernel
theorem dX2_load_9 : decode cX2_load 9 = .ok (.putfield 30, 3) := by decide +kernel
theorem dX2_load_12 : decode cX2_load 12 = .ok (.iconst 0, 1) := by decide +kernel
theorem dX2_load_13 : decode cX2_load 13 = .ok (.istore_n 2, 1) := by decide +kernel
theorem dX2_load_14 : decode cX2_load 14 = .ok (.iload_n 2, 1) := by decide +kernel
theorem dX2_load_15 : decode cX2_load 15 = .ok (.aload_n 0, 1) := by decide +kernel
theorem dX2_load_16 : decode cX2_load 16 = .ok (.getfield 30, 3) := by decide +kernel
theorem dX2_load_19 : decode cX2_load 19 = .ok (.if_icmp .ge 28, 3) := by decide +kernel
theorem dX2_load_22 : decode cX2_load 22 = .ok (.iconst 2, 1) := by decide +kernel
theorem dX2_load_23 : decode cX2_load 23 = .ok (.bipush 9, 2) := by decide +kernel
theorem dX2_load_25 : decode cX2_load 25 = .ok (.iload_n 2, 1) := by decide +kernel
theorem dX2_load_26 : decode cX2_load 26 = .ok (.imul, 1) := by decide +kernel
theorem dX2_load_27 : decode cX2_load 27 = .ok (.iadd, 1) := by decide +kernel
theorem dX2_load_28 : decode cX2_load 28 = .ok (.istore_n 3, 1) := by decide +kernel
theorem dX2_load_29 : decode cX2_load 29 = .ok (.aload_n 0, 1) := by decide +kernel
theorem dX2_load_30 : decode cX2_load 30 = .ok (.iload_n 2, 1) := by decide +kernel
theorem dX2_load_31 : decode cX2_load 31 = .ok (.aload_n 1, 1) := by decide +kernel
theorem dX2_load_32 : decode cX2_load 32 = .ok (.iload_n 3, 1) := by decide +kernel
theorem dX2_load_33 : decode cX2_load 33 = .ok (.iaload, 1) := by decide +kernel
theorem dX2_load_34 : decode cX2_load 34 = .ok (.aload_n 1, 1) := by decide +kernel
theorem dX2_load_35 : decode cX2_load 35 = .ok (.iload_n 3, 1) := by decide +kernel
theorem dX2_load_36 : decode cX2_load 36 = .ok (.iconst 1, 1) := by decide +kernel
theorem dX2_load_37 : decode cX2_load 37 = .ok (.iadd, 1) := by decide +kernel
theorem dX2_load_38 : decode cX2_load 38 = .ok (.invokevirtual 33, 3) := by decide +kernel
theorem dX2_load_41 : decode cX2_load 41 = .ok (.iinc 2 1, 3) := by decide +kernel
theorem dX2_load_44 : decode cX2_load 44 = .ok (.goto (-30), 3) := by decide +kernel
theorem dX2_load_47 : decode cX2_load 47 = .ok (.return_, 1) := by decide +kernel
set_option maxRecDepth 20000 in
theorem ggX3_init_X1_init : GoodIn wsX3_init wsX1_init := goodIn_r _ [28, 29, 2, 3, 20, 30, 31, 32, 33, 34, 35, 36, 37, 72, 73, 74, 75] (by decide +kernel) (by decide +kernel)
set_option maxRecDepth 20000 in
theorem gX3_init_X1_init : GoodIn wsX3_init (wsX1_init) := ggX3_init_X1_init
set_option maxRecDepth 20000 in
theorem ggX3_init_X2_init : GoodIn wsX3_init wsX2_init := goodIn_r _ [40, 41, 2, 3, 20, 42, 43, 44, 45, 46, 47, 48, 76, 77, 78, 79, 80, 81] (by decide +kernel) (by decide +kernel)
set_option maxRecDepth 20000 in
theorem gX3_init_X2_init : GoodIn wsX3_init (wsX2_init) := ggX3_init_X2_init
set_option maxRecDepth 20000 in
theorem ggX3_init_X0_init : GoodIn wsX3_init wsX0_init := goodIn_r _ [51, 52, 2, 3, 20, 53, 54, 55, 56, 57, 58, 59, 60, 35, 36, 37, 82, 83, 84, 85, 86, 87, 88] (by decide +kernel) (by decide +kernel)
set_option maxRecDepth 20000 in
theorem gX3_init_X0_init : GoodIn wsX3_init (wsX0_init) := ggX3_init_X0_init
theorem dX3_init_0 : decode cX3_init 0 = .ok (.aload_n 0, 1) := by decide +kernel
theorem dX3_init_1 : decode cX3_init 1 = .ok (.invokespecial 1, 3) := by decide +kernel
theorem dX3_init_4 : decode cX3_init 4 = .ok (.aload_n 0, 1) := by decide +kernel
theorem dX3_init_5 : decode cX3_init 5 = .ok (.iload_n 1, 1) := by decide +kernel
theorem dX3_init_6 : decode cX3_init 6 = .ok (.iconst 1, 1) := by decide +kernel
theorem dX3_init_7 : decode cX3_init 7 = .ok (.if_icmp .lt 12, 3) := by decide +kernel
theorem dX3_init_10 : decode cX3_init 10 = .ok (.iload_n 1, 1) := by decide +kernel
theorem dX3_init_11 : decode cX3_init 11 = .ok (.iconst 4, 1) := by decide +kernel
theorem dX3_init_12 : decode cX3_init 12 = .ok (.if_icmp .gt 7, 3) := by decide +kernel
theorem dX3_init_15 : decode cX3_init 15 = .ok (.iload_n 1, 1) := by decide +kernel
theorem dX3_init_16 : decode cX3_init 16 = .ok (.goto 4, 3) := by decide +kernel
theorem dX3_init_19 : decode cX3_init 19 = .ok (.iconst 1, 1) := by decide +kernel
theorem dX3_init_20 : decode cX3_init 20 = .ok (.putfield 9, 3) := by decide +kernel
theorem dX3_init_23 : decode cX3_init 23 = .ok (.aload_n 0, 1) := by decide +kernel
theorem dX3_init_24 : decode cX3_init 24 = .ok (.new 13, 3) := by decide +kernel
theorem dX3_init_27 : decode cX3_init 27 = .ok (.dup, 1) := by decide +kernel
theorem dX3_init_28 : decode cX3_init 28 = .ok (.invokespecial 15, 3) := by decide +kernel
theorem dX3_init_31 : decode cX3_init 31 = .ok (.putfield 16, 3) := by decide +kernel
theorem dX3_init_34 : decode cX3_init 34 = .ok (.aload_n 0, 1) := by decide +kernel
theorem dX3_init_35 : decode cX3_init 35 = .ok (.new 20, 3) := by decide +kernel
theorem dX3_init_38 : decode cX3_init 38 = .ok (.dup, 1) := by decide +kernel
theorem dX3_init_39 : decode cX3_init 39 = .ok (.aload_n 0, 1) := by decide +kernel
theorem dX3_init_40 : decode cX3_init 40 = .ok (.getfield 9, 3) := by decide +kernel
theorem dX3_init_43 : decode cX3_init 43 = .ok (.invokespecial 22, 3) := by decide +kernel
theorem dX3_init_46 : decode cX3_init 46 = .ok (.putfield 25, 3) := by decide +kernel
theorem dX3_init_49 : decode cX3_init 49 = .ok (.aload_n 0, 1) := by decide +kernel
theorem dX3_init_50 : decode cX3_init 50 = .ok (.new 29, 3) := by decide +kernel
theorem dX3_init_53 : decode cX3_init 53 = .ok (.dup, 1) := by decide +kernel
theorem dX3_init_54 : decode cX3_init 54 = .ok (.invokespecial 31, 3) := by decide +kernel
theorem dX3_init_57 : decode cX3_init 57 = .ok (.putfield 32, 3) := by decide +kernel
theorem dX3_init_60 : decode cX3_init 60 = .ok (.aload_n 0, 1) := by decide +kernel
theorem dX3_init_61 : decode cX3_init 61 = .ok (.aload_n 0, 1) := by decide +kernel
theorem dX3_init_62 : decode cX3_init 62 = .ok (.getfield 9, 3) := by decide +kernel
end
section
theorem dX3_init_65 : decode cX3_init 65 = .ok (.newarray .long, 2) := by decide +kernel
theorem dX3_init_67 : decode cX3_init 67 = .ok (.putfield 36, 3) := by decide +kernel
theorem dX3_init_70 : decode cX3_init 70 = .ok (.aload_n 0, 1) := by decide +kernel
theorem dX3_init_71 : decode cX3_init 71 = .ok (.lconst 1, 1) := by decide +kernel
theorem dX3_init_72 : decode cX3_init 72 = .ok (.putfield 40, 3) := by decide +kernel
theorem dX3_init_75 : decode cX3_init 75 = .ok (.aload_n 0, 1) := by decide +kernel
theorem dX3_init_76 : decode cX3_init 76 = .ok (.sipush 400, 3) := by decide +kernel
theorem dX3_init_79 : decode cX3_init 79 = .ok (.newarray .int, 2) := by decide +kernel
theorem dX3_init_81 : decode cX3_init 81 = .ok (.putfield 44, 3) := by decide +kernel
theorem dX3_init_84 : decode cX3_init 84 = .ok (.aload_n 0, 1) := by decide +kernel
theorem dX3_init_85 : decode cX3_init 85 = .ok (.iconst 0, 1) := by decide +kernel
theorem dX3_init_86 : decode cX3_init 86 = .ok (.putfield 48, 3) := by decide +kernel
theorem dX3_init_89 : decode cX3_init 89 = .ok (.aload_n 0, 1) := by decide +kernel
theorem dX3_init_90 : decode cX3_init 90 = .ok (.bipush 8, 2) := by decide +kernel
theorem dX3_init_92 : decode cX3_init 92 = .ok (.newarray .int, 2) := by decide +kernel
theorem dX3_init_94 : decode cX3_init 94 = .ok (.putfield 51, 3) := by decide +kernel
theorem dX3_init_97 : decode cX3_init 97 = .ok (.aload_n 0, 1) := by decide +kernel
theorem dX3_init_98 : decode cX3_init 98 = .ok (.bipush 7, 2) := by decide +kernel
theorem dX3_init_100 : decode cX3_init 100 = .ok (.newarray .int, 2) := by decide +kernel
theorem dX3_init_102 : decode cX3_init 102 = .ok (.putfield 54, 3) := by decide +kernel
theorem dX3_init_105 : decode cX3_init 105 = .ok (.aload_n 0, 1) := by decide +kernel
theorem dX3_init_106 : decode cX3_init 106 = .ok (.aload_n 0, 1) := by decide +kernel
theorem dX3_init_107 : decode cX3_init 107 = .ok (.getfield 9, 3) := by decide +kernel
theorem dX3_init_110 : decode cX3_init 110 = .ok (.newarray .long, 2) := by decide +kernel
theorem dX3_init_112 : decode cX3_init 112 = .ok (.putfield 57, 3) := by decide +kernel
theorem dX3_init_115 : decode cX3_init 115 = .ok (.return_, 1) := by decide +kernel
set_option maxRecDepth 20000 in
theorem ggX3_white_X3_isChannel : GoodIn wsX3_white wsX3_isChannel := goodIn_r _ [8] (by decide +kernel) (by decide +kernel)
set_option maxRecDepth 20000 in
theorem gX3_white_X3_isChannel : GoodIn wsX3_white (va_wsS RX3 60 yX3_isChannel wsX3_isChannel) := goodIn_app (goodIn_of _ (by decide +kernel)) ggX3_white_X3_isChannel
set_option maxRecDepth 20000 in
theorem ggX3_white_X3_isByte : GoodIn wsX3_white wsX3_isByte := goodIn_r _ [11] (by decide +kernel) (by decide +kernel)
set_option maxRecDepth 20000 in
theorem gX3_white_X3_isByte : GoodIn wsX3_white (va_wsS RX3 71 yX3_isByte wsX3_isByte) := goodIn_app (goodIn_of _ (by decide +kernel)) ggX3_white_X3_isByte
set_option maxRecDepth 20000 in
theorem ggX3_white_X1_setWhite : GoodIn wsX3_white wsX1_setWhite := goodIn_r _ [16, 17, 35, 36, 37, 38] (by decide +kernel) (by decide +kernel)
set_option maxRecDepth 20000 in
theorem gX3_white_X1_setWhite : GoodIn wsX3_white (wsV RX3 74 RX1 yX1_setWhite wsX1_setWhite) := goodIn_app (goodIn_of _ (by decide +kernel)) ggX3_white_X1_setWhite
theorem dX3_white_0 : decode cX3_white 0 = .ok (.iload_n 1, 1) := by decide +kernel
theorem dX3_white_1 : decode cX3_white 1 = .ok (.invokestatic 60, 3) := by decide +kernel
theorem dX3_white_4 : decode cX3_white 4 = .ok (.ifCond .ne 13, 3) := by decide +kernel
theorem dX3_white_7 : decode cX3_white 7 = .ok (.new 64, 3) := by decide +kernel
theorem dX3_white_10 : decode cX3_white 10 = .ok (.dup, 1) := by decide +kernel
theorem dX3_white_11 : decode cX3_white 11 = .ok (.ldc 66, 2) := by decide +kernel
theorem dX3_white_13 : decode cX3_white 13 = .ok (.invokespecial 68, 3) := by decide +kernel
theorem dX3_white_16 : decode cX3_white 16 = .ok (.athrow, 1) := by decide +kernel
theorem dX3_white_17 : decode cX3_white 17 = .ok (.iload_n 2, 1) := by decide +kernel
theorem dX3_white_18 : decode cX3_white 18 = .ok (.invokestatic 71, 3) := by decide +kernel
theorem dX3_white_21 : decode cX3_white 21 = .ok (.ifCond .eq 19, 3) := by decide +kernel
theorem dX3_white_24 : decode cX3_white 24 = .ok (.aload_n 0, 1) := by decide +kernel
theorem dX3_white_25 : decode cX3_white 25 = .ok (.getfield 16, 3) := by decide +kernel
theorem dX3_white_28 : decode cX3_white 28 = .ok (.iload_n 1, 1) := by decide +kernel
theorem dX3_white_29 : decode cX3_white 29 = .ok (.iload_n 2, 1) := by decide +kernel
theorem dX3_white_30 : decode cX3_white 30 = .ok (.invokevirtual 74, 3) := by decide +kernel
theorem dX3_white_33 : decode cX3_white 33 = .ok (.ifCond .eq 7, 3) := by decide +kernel
theorem dX3_white_36 : decode cX3_white 36 = .ok (.iconst 1, 1) := by decide +kernel
theorem dX3_white_37 : decode cX3_white 37 = .ok (.goto 4, 3) := by decide +kernel
theorem dX3_white_40 : decode cX3_white 40 = .ok (.iconst 0, 1) := by decide +kernel
theorem dX3_white_41 : decode cX3_white 41 = .ok (.ireturn, 1) := by decide +kernel
set_option maxRecDepth 20000 in
theorem ggX3_dark_X3_isChannel : GoodIn wsX3_dark wsX3_isChannel := goodIn_r _ [5] (by decide +kernel) (by decide +kernel)
set_option maxRecDepth 20000 in
theorem gX3_dark_X3_isChannel : GoodIn wsX3_dark (va_wsS RX3 60 yX3_isChannel wsX3_isChannel) := goodIn_app (goodIn_of _ (by decide +kernel)) ggX3_dark_X3_isChannel
set_option maxRecDepth 20000 in
theorem ggX3_dark_X3_isByte : GoodIn wsX3_dark wsX3_isByte := goodIn_r _ [8] (by decide +kernel) (by decide +kernel)
set_option maxRecDepth 20000 in
theorem gX3_dark_X3_isByte : GoodIn wsX3_dark (va_wsS RX3 71 yX3_isByte wsX3_isByte) := goodIn_app (goodIn_of _ (by decide +kernel)) ggX3_dark_X3_isByte
set_option maxRecDepth 20000 in
theorem ggX3_dark_X1_setDark : GoodIn wsX3_dark wsX1_setDark := goodIn_r _ [13, 14, 26, 27, 28, 29] (by decide +kernel) (by decide +kernel)
set_option maxRecDepth 20000 in
theorem gX3_dark_X1_setDark : GoodIn wsX3_dark (wsV RX3 78 RX1 yX1_setDark wsX1_setDark) := goodIn_app (goodIn_of _ (by decide +kernel)) ggX3_dark_X1_setDark
theorem dX3_dark_0 : decode cX3_dark 0 = .ok (.iload_n 1, 1) := by decide +kernel
theorem dX3_dark_1 : decode cX3_dark 1 = .ok (.invokestatic 60, 3) := by decide +kernel
theorem dX3_dark_4 : decode cX3_dark 4 = .ok (.ifCond .eq 26, 3) := by decide +kernel
theorem dX3_dark_7 : decode cX3_dark 7 = .ok (.iload_n 2, 1) := by decide +kernel
theorem dX3_dark_8 : decode cX3_dark 8 = .ok (.invokestatic 71, 3) := by decide +kernel
theorem dX3_dark_11 : decode cX3_dark 11 = .ok (.ifCond .eq 19, 3) := by decide +kernel
theorem dX3_dark_14 : decode cX3_dark 14 = .ok (.aload_n 0, 1) := by decide +kernel
theorem dX3_dark_15 : decode cX3_dark 15 = .ok (.getfield 16, 3) := by decide +kernel
theorem dX3_dark_18 : decode cX3_dark 18 = .ok (.iload_n 1, 1) := by decide +kernel
theorem dX3_dark_19 : decode cX3_dark 19 = .ok (.iload_n 2, 1) := by decide +kernel
theorem dX3_dark_20 : decode cX3_dark 20 = .ok (.invokevirtual 78, 3) := by decide +kernel
theorem dX3_dark_23 : decode cX3_dark 23 = .ok (.ifCond .eq 7, 3) := by decide +kernel
theorem dX3_dark_26 : decode cX3_dark 26 = .ok (.iconst 1, 1) := by decide +kernel
theorem dX3_dark_27 : decode cX3_dark 27 = .ok (.goto 4, 3) := by decide +kernel
theorem dX3_dark_30 : decode cX3_dark 30 = .ok (.iconst 0, 1) := by decide +kernel
theorem dX3_dark_31 : decode cX3_dark 31 = .ok (.ireturn, 1) := by decide +kernel
set_option maxRecDepth 20000 in
theorem ggX3_value_X3_isChannel : GoodIn wsX3_value wsX3_isChannel := goodIn_r _ [5] (by decide +kernel) (by decide +kernel)
set_option maxRecDepth 20000 in
theorem gX3_value_X3_isChannel : GoodIn wsX3_value (va_wsS RX3 60 yX3_isChannel wsX3_isChannel) := goodIn_app (goodIn_of _ (by decide +kernel)) ggX3_value_X3_isChannel
set_option maxRecDepth 20000 in
theorem ggX3_value_X3_isByte : GoodIn wsX3_value wsX3_isByte := goodIn_r _ [8] (by decide +kernel) (by decide +kernel)
set_option maxRecDepth 20000 in
theorem gX3_value_X3_isByte : GoodIn wsX3_value (va_wsS RX3 71 yX3_isByte wsX3_isByte) := goodIn_app (goodIn_of _ (by decide +kernel)) ggX3_value_X3_isByte
set_option maxRecDepth 20000 in
theorem ggX3_value_X1_setValue : GoodIn wsX3_value wsX1_setValue := goodIn_r _ [13, 14, 26, 27, 28, 29] (by decide +kernel) (by decide +kernel)
set_option maxRecDepth 20000 in
theorem gX3_value_X1_setValue : GoodIn wsX3_value (wsV RX3 81 RX1 yX1_setValue wsX1_setValue) := goodIn_app (goodIn_of _ (by decide +kernel)) ggX3_value_X1_setValue
theorem dX3_value_0 : decode cX3_value 0 = .ok (.iload_n 1, 1) := by decide +kernel
theorem dX3_value_1 : decode cX3_value 1 = .ok (.invokestatic 60, 3) := by decide +kernel
theorem dX3_value_4 : decode cX3_value 4 = .ok (.ifCond .eq 26, 3) := by decide +kernel
theorem dX3_value_7 : decode cX3_value 7 = .ok (.iload_n 2, 1) := by decide +kernel
theorem dX3_value_8 : decode cX3_value 8 = .ok (.invokestatic 71, 3) := by decide +kernel
theorem dX3_value_11 : decode cX3_value 11 = .ok (.ifCond .eq 19, 3) := by decide +kernel
theorem dX3_value_14 : decode cX3_value 14 = .ok (.aload_n 0, 1) := by decide +kernel
theorem dX3_value_15 : decode cX3_value 15 = .ok (.getfield 16, 3) := by decide +kernel
theorem dX3_value_18 : decode cX3_value 18 = .ok (.iload_n 1, 1) := by decide +kernel
theorem dX3_value_19 : decode cX3_value 19 = .ok (.iload_n 2, 1) := by decide +kernel
theorem dX3_value_20 : decode cX3_value 20 = .ok (.invokevirtual 81, 3) := by decide +kernel
theorem dX3_value_23 : decode cX3_value 23 = .ok (.ifCond .eq 7, 3) := by decide +kernel
theorem dX3_value_26 : decode cX3_value 26 = .ok (.iconst 1, 1) := by decide +kernel
theorem dX3_value_27 : decode cX3_value 27 = .ok (.goto 4, 3) := by decide +kernel
theorem dX3_value_30 : decode cX3_value 30 = .ok (.iconst 0, 1) := by decide +kernel
theorem dX3_value_31 : decode cX3_value 31 = .ok (.ireturn, 1) := by decide +kernel
set_option maxRecDepth 20000 in
theorem ggX3_reference_X3_isChannel : GoodIn wsX3_reference wsX3_isChannel := goodIn_r _ [5] (by decide +kernel) (by decide +kernel)
set_option maxRecDepth 20000 in
theorem gX3_reference_X3_isChannel : GoodIn wsX3_reference (va_wsS RX3 60 yX3_isChannel wsX3_isChannel) := goodIn_app (goodIn_of _ (by decide +kernel)) ggX3_reference_X3_isChannel
set_option maxRecDepth 20000 in
theorem ggX3_reference_X3_isByte : GoodIn wsX3_reference wsX3_isByte := goodIn_r _ [8] (by decide +kernel) (by decide +kernel)
set_option maxRecDepth 20000 in
theorem gX3_reference_X3_isByte : GoodIn wsX3_reference (va_wsS RX3 71 yX3_isByte wsX3_isByte) := goodIn_app (goodIn_of _ (by decide +kernel)) ggX3_reference_X3_isByte
set_option maxRecDepth 20000 in
theorem ggX3_reference_X1_setWhiteAt : GoodIn wsX3_reference wsX1_setWhiteAt := goodIn_r _ [13, 14, 15, 16, 17, 12, 18, 19, 31, 32, 33, 34] (by decide +kernel) (by decide +kernel)
set_option maxRecDepth 20000 in
theorem gX3_reference_X1_setWhiteAt : GoodIn wsX3_reference (wsV RX3 84 RX1 yX1_setWhiteAt wsX1_setWhiteAt) := goodIn_app (goodIn_of _ (by decide +kernel)) ggX3_reference_X1_setWhiteAt
theorem dX3_reference_0 : decode cX3_reference 0 = .ok (.iload_n 1, 1) := by decide +kernel
theorem dX3_reference_1 : decode cX3_reference 1 = .ok (.invokestatic 60, 3) := by decide +kernel
theorem dX3_reference_4 : decode cX3_reference 4 = .ok (.ifCond .eq 27, 3) := by decide +kernel
theorem dX3_reference_7 : decode cX3_reference 7 = .ok (.iload_n 2, 1) := by decide +kernel
theorem dX3_reference_8 : decode cX3_reference 8 = .ok (.invokestatic 71, 3) := by decide +kernel
theorem dX3_reference_11 : decode cX3_reference 11 = .ok (.ifCond .eq 20, 3) := by decide +kernel
theorem dX3_reference_14 : decode cX3_reference 14 = .ok (.aload_n 0, 1) := by decide +kernel
theorem dX3_reference_15 : decode cX3_reference 15 = .ok (.getfield 16, 3) := by decide +kernel
theorem dX3_reference_18 : decode cX3_reference 18 = .ok (.iload_n 1, 1) := by decide +kernel
theorem dX3_reference_19 : decode cX3_reference 19 = .ok (.iload_n 2, 1) := by decide +kernel
theorem dX3_reference_20 : decode cX3_reference 20 = .ok (.lload_n 3, 1) := by decide +kernel
theorem dX3_reference_21 : decode cX3_reference 21 = .ok (.invokevirtual 84, 3) := by decide +kernel
theorem dX3_reference_24 : decode cX3_reference 24 = .ok (.ifCond .eq 7, 3) := by decide +kernel
theorem dX3_reference_27 : decode cX3_reference 27 = .ok (.iconst 1, 1) := by decide +kernel
theorem dX3_reference_28 : decode cX3_reference 28 = .ok (.goto 4, 3) := by decide +kernel
theorem dX3_reference_31 : decode cX3_reference 31 = .ok (.iconst 0, 1) := by decide +kernel
theorem dX3_reference_32 : decode cX3_reference 32 = .ok (.ireturn, 1) := by decide +kernel
set_option maxRecDepth 20000 in
theorem ggX3_teach_X3_isKind : GoodIn wsX3_teach wsX3_isKind := goodIn_r _ [7, 8, 52, 53, 54, 55, 56, 57, 58, 59, 60, 61, 62] (by decide +kernel) (by decide +kernel)
set_option maxRecDepth 20000 in
theorem gX3_teach_X3_isKind : GoodIn wsX3_teach (wsV RX3 88 RX3 yX3_isKind wsX3_isKind) := goodIn_app (goodIn_of _ (by decide +kernel)) ggX3_teach_X3_isKind
set_option maxRecDepth 20000 in
theorem ggX3_teach_X3_lookAtNow : GoodIn wsX3_teach wsX3_lookAtNow := goodIn_r _ [12, 13, 2, 14, 15, 16, 17, 18, 19, 20, 21, 22, 23, 24, 25, 26, 27, 28, 29, 30, 31, 32, 33, 34, 52, 53, 54, 55, 56, 57, 58, 59, 60, 61, 62, 63, 64, 65, 66] (by decide +kernel) (by decide +kernel)
set_option maxRecDepth 20000 in
theorem gX3_teach_X3_lookAtNow : GoodIn wsX3_teach (wsV RX3 91 RX3 yX3_lookAtNow wsX3_lookAtNow) := goodIn_app (goodIn_of _ (by decide +kernel)) ggX3_teach_X3_lookAtNow
set_option maxRecDepth 20000 in
theorem ggX3_teach_X2_add : GoodIn wsX3_teach wsX2_add := goodIn_r _ [38, 39, 40, 41, 42, 33, 43, 44, 45, 46, 47, 48, 49, 50, 51, 32, 34, 67, 68, 69, 70, 71, 72] (by decide +kernel) (by decide +kernel)
set_option maxRecDepth 20000 in
theorem gX3_teach_X2_add : GoodIn wsX3_teach (wsV RX3 94 RX2 yX2_add wsX2_add) := goodIn_app (goodIn_of _ (by decide +kernel)) ggX3_teach_X2_add
theorem dX3_teach_0 : decode cX3_teach 0 = .ok (.aload_n 0, 1) := by decide +kernel
theorem dX3_teach_1 : decode cX3_teach 1 = .ok (.iload_n 1, 1) := by decide +kernel
theorem dX3_teach_2 : decode cX3_teach 2 = .ok (.invokevirtual 88, 3) := by decide +kernel
theorem dX3_teach_5 : decode cX3_teach 5 = .ok (.ifCond .ne 5, 3) := by decide +kernel
theorem dX3_teach_8 : decode cX3_teach 8 = .ok (.iconst (-1), 1) := by decide +kernel
theorem dX3_teach_9 : decode cX3_teach 9 = .ok (.ireturn, 1) := by decide +kernel
theorem dX3_teach_10 : decode cX3_teach 10 = .ok (.aload_n 0, 1) := by decide +kernel
theorem dX3_teach_11 : decode cX3_teach 11 = .ok (.invokevirtual 91, 3) := by decide +kernel
theorem dX3_teach_14 : decode cX3_teach 14 = .ok (.aload_n 0, 1) := by decide +kernel
theorem dX3_teach_15 : decode cX3_teach 15 = .ok (.getfield 25, 3) := by decide +kernel
theorem dX3_teach_18 : decode cX3_teach 18 = .ok (.iload_n 1, 1) := by decide +kernel
theorem dX3_teach_19 : decode cX3_teach 19 = .ok (.aload_n 0, 1) := by decide +kernel
theorem dX3_teach_20 : decode cX3_teach 20 = .ok (.getfield 51, 3) := by decide +kernel
theorem dX3_teach_23 : decode cX3_teach 23 = .ok (.invokevirtual 94, 3) := by decide +kernel
theorem dX3_teach_26 : decode cX3_teach 26 = .ok (.ireturn, 1) := by decide +kernel
set_option maxRecDepth 20000 in
theorem ggX3_read_X3_lookAtNow : GoodIn wsX3_read wsX3_lookAtNow := goodIn_r _ [6, 7, 8, 1, 9, 10, 11, 12, 13, 14, 15, 16, 17, 18, 19, 20, 21, 22, 23, 24, 25, 26, 27, 28, 58, 59, 60, 61, 62, 63, 64, 65, 66, 67, 68, 69, 70, 71, 72] (by decide +kernel) (by decide +kernel)
set_option maxRecDepth 20000 in
theorem gX3_read_X3_lookAtNow : GoodIn wsX3_read (wsV RX3 91 RX3 yX3_lookAtNow wsX3_lookAtNow) := goodIn_app (goodIn_of _ (by decide +kernel)) ggX3_read_X3_lookAtNow
set_option maxRecDepth 20000 in
theorem ggX3_read_X3_readCells : GoodIn wsX3_read wsX3_readCells := goodIn_r _ [32, 33, 34, 35, 36, 37, 38, 39, 27, 40, 41, 42, 43, 44, 45, 46, 47, 48, 49, 50, 51, 52, 53, 54, 55, 5, 56, 57, 58, 59, 60, 61, 62, 63, 64, 65, 66, 67, 68, 73, 74, 75, 76, 77, 78] (by decide +kernel) (by decide +kernel)
set_option maxRecDepth 20000 in
theorem gX3_read_X3_readCells : GoodIn wsX3_read (wsV RX3 98 RX3 yX3_readCells wsX3_readCells) := goodIn_app (goodIn_of _ (by decide +kernel)) ggX3_read_X3_readCells
theorem dX3_read_0 : decode cX3_read 0 = .ok (.aload_n 0, 1) := by decide +kernel
theorem dX3_read_1 : decode cX3_read 1 = .ok (.invokevirtual 91, 3) := by decide +kernel
theorem dX3_read_4 : decode cX3_read 4 = .ok (.aload_n 0, 1) := by decide +kernel
theorem dX3_read_5 : decode cX3_read 5 = .ok (.aload_n 0, 1) := by decide +kernel
theorem dX3_read_6 : decode cX3_read 6 = .ok (.getfield 54, 3) := by decide +kernel
theorem dX3_read_9 : decode cX3_read 9 = .ok (.iconst (-1), 1) := by decide +kernel
theorem dX3_read_10 : decode cX3_read 10 = .ok (.invokevirtual 98, 3) := by decide +kernel
theorem dX3_read_13 : decode cX3_read 13 = .ok (.ireturn, 1) := by decide +kernel
set_option maxRecDepth 20000 in
theorem ggX3_sum_X3_isKind : GoodIn wsX3_sum wsX3_isKind := goodIn_r _ [8, 9, 52, 53, 54, 55, 56, 57, 58, 59, 60, 61, 62] (by decide +kernel) (by decide +kernel)
set_option maxRecDepth 20000 in
theorem gX3_sum_X3_isKind : GoodIn wsX3_sum (wsV RX3 88 RX3 yX3_isKind wsX3_isKind) := goodIn_app (goodIn_of _ (by decide +kernel)) ggX3_sum_X3_isKind
set_option maxRecDepth 20000 in
theorem ggX3_sum_X3_lookAtNow : GoodIn wsX3_sum wsX3_lookAtNow := goodIn_r _ [13, 14, 15, 3, 16, 17, 18, 19, 20, 21, 22, 23, 24, 25, 26, 27, 28, 29, 30, 31, 32, 33, 34, 35, 52, 53, 54, 55, 56, 57, 58, 59, 60, 61, 62, 63, 64, 65, 66] (by decide +kernel) (by decide +kernel)
set_option maxRecDepth 20000 in
theorem gX3_sum_X3_lookAtNow : GoodIn wsX3_sum (wsV RX3 91 RX3 yX3_lookAtNow wsX3_lookAtNow) := goodIn_app (goodIn_of _ (by decide +kernel)) ggX3_sum_X3_lookAtNow
set_option maxRecDepth 20000 in
theorem ggX3_sum_X2_sumOf : GoodIn wsX3_sum wsX2_sumOf := goodIn_r _ [39, 40, 41, 42, 43, 44, 45, 46, 47, 48, 49, 50, 34, 51, 67, 68, 69, 70, 71, 72] (by decide +kernel) (by decide +kernel)
set_option maxRecDepth 20000 in
theorem gX3_sum_X2_sumOf : GoodIn wsX3_sum (wsV RX3 104 RX2 yX2_sumOf wsX2_sumOf) := goodIn_app (goodIn_of _ (by decide +kernel)) ggX3_sum_X2_sumOf
theorem dX3_sum_0 : decode cX3_sum 0 = .ok (.aload_n 0, 1) := by decide +kernel
theorem dX3_sum_1 : decode cX3_sum 1 = .ok (.iload_n 1, 1) := by decide +kernel
theorem dX3_sum_2 : decode cX3_sum 2 = .ok (.invokevirtual 88, 3) := by decide +kernel
theorem dX3_sum_5 : decode cX3_sum 5 = .ok (.ifCond .ne 7, 3) := by decide +kernel
theorem dX3_sum_8 : decode cX3_sum 8 = .ok (.ldc2_w 102, 3) := by decide +kernel
theorem dX3_sum_11 : decode cX3_sum 11 = .ok (.lreturn, 1) := by decide +kernel
theorem dX3_sum_12 : decode cX3_sum 12 = .ok (.aload_n 0, 1) := by decide +kernel
theorem dX3_sum_13 : decode cX3_sum 13 = .ok (.invokevirtual 91, 3) := by decide +kernel
theorem dX3_sum_16 : decode cX3_sum 16 = .ok (.aload_n 0, 1) := by decide +kernel
theorem dX3_sum_17 : decode cX3_sum 17 = .ok (.getfield 25, 3) := by decide +kernel
theorem dX3_sum_20 : decode cX3_sum 20 = .ok (.iload_n 1, 1) := by decide +kernel
theorem dX3_sum_21 : decode cX3_sum 21 = .ok (.aload_n 0, 1) := by decide +kernel
theorem dX3_sum_22 : decode cX3_sum 22 = .ok (.getfield 54, 3) := by decide +kernel
theorem dX3_sum_25 : decode cX3_sum 25 = .ok (.iconst (-1), 1) := by decide +kernel
theorem dX3_sum_26 : decode cX3_sum 26 = .ok (.invokevirtual 104, 3) := by decide +kernel
theorem dX3_sum_29 : decode cX3_sum 29 = .ok (.lreturn, 1) := by decide +kernel
theorem dX3_bound_0 : decode cX3_bound 0 = .ok (.lload_n 1, 1) := by decide +kernel
theorem dX3_bound_1 : decode cX3_bound 1 = .ok (.lconst 0, 1) := by decide +kernel
theorem dX3_bound_2 : decode cX3_bound 2 = .ok (.lcmp, 1) := by decide +kernel
theorem dX3_bound_3 : decode cX3_bound 3 = .ok (.ifCond .lt 11, 3) := by decide +kernel
theorem dX3_bound_6 : decode cX3_bound 6 = .ok (.lload_n 1, 1) := by decide +kernel
theorem dX3_bound_7 : decode cX3_bound 7 = .ok (.ldc2_w 108, 3) := by decide +kernel
theorem dX3_bound_10 : decode cX3_bound 10 = .ok (.lcmp, 1) := by decide +kernel
theorem dX3_bound_11 : decode cX3_bound 11 = .ok (.ifCond .le 5, 3) := by decide +kernel
theorem dX3_bound_14 : decode cX3_bound 14 = .ok (.iconst 0, 1) := by decide +kernel
theorem dX3_bound_15 : decode cX3_bound 15 = .ok (.ireturn, 1) := by decide +kernel
theorem dX3_bound_16 : decode cX3_bound 16 = .ok (.aload_n 0, 1) := by decide +kernel
theorem dX3_bound_17 : decode cX3_bound 17 = .ok (.lload_n 1, 1) := by decide +kernel
theorem dX3_bound_18 : decode cX3_bound 18 = .ok (.putfield 40, 3) := by decide +kernel
theorem dX3_bound_21 : decode cX3_bound 21 = .ok (.iconst 1, 1) := by decide +kernel
theorem dX3_bound_22 : decode cX3_bound 22 = .ok (.ireturn, 1) := by decide +kernel
set_option maxRecDepth 20000 in
theorem ggX3_worth_X3_isKind : GoodIn wsX3_worth wsX3_isKind := goodIn_r _ [7, 8, 9, 10, 11, 12, 13, 14, 15, 16, 17, 18, 19] (by decide +kernel) (by decide +kernel)
set_option maxRecDepth 20000 in
theorem gX3_worth_X3_isKind : GoodIn wsX3_worth (wsV RX3 88 RX3 yX3_isKind wsX3_isKind) := goodIn_app (goodIn_of _ (by decide +kernel)) ggX3_worth_X3_isKind
theorem dX3_worth_0 : decode cX3_worth 0 = .ok (.aload_n 0, 1) := by decide +kernel
theorem dX3_worth_1 : decode cX3_worth 1 = .ok (.iload_n 1, 1) := by decide +kernel
theorem dX3_worth_2 : decode cX3_worth 2 = .ok (.invokevirtual 88, 3) := by decide +kernel
theorem dX3_worth_5 : decode cX3_worth 5 = .ok (.ifCond .eq 17, 3) := by decide +kernel
theorem dX3_worth_8 : decode cX3_worth 8 = .ok (.lload_n 2, 1) := by decide +kernel
theorem dX3_worth_9 : decode cX3_worth 9 = .ok (.lconst 0, 1) := by decide +kernel
theorem dX3_worth_10 : decode cX3_worth 10 = .ok (.lcmp, 1) := by decide +kernel
theorem dX3_worth_11 : decode cX3_worth 11 = .ok (.ifCond .lt 11, 3) := by decide +kernel
theorem dX3_worth_14 : decode cX3_worth 14 = .ok (.lload_n 2, 1) := by decide +kernel
theorem dX3_worth_15 : decode cX3_worth 15 = .ok (.ldc2_w 110, 3) := by decide +kernel
theorem dX3_worth_18 : decode cX3_worth 18 = .ok (.lcmp, 1) := by decide +kernel
theorem dX3_worth_19 : decode cX3_worth 19 = .ok (.ifCond .le 5, 3) := by decide +kernel
theorem dX3_worth_22 : decode cX3_worth 22 = .ok (.iconst 0, 1) := by decide +kernel
theorem dX3_worth_23 : decode cX3_worth 23 = .ok (.ireturn, 1) := by decide +kernel
theorem dX3_worth_24 : decode cX3_worth 24 = .ok (.aload_n 0, 1) := by decide +kernel
theorem dX3_worth_25 : decode cX3_worth 25 = .ok (.getfield 36, 3) := by decide +kernel
theorem dX3_worth_28 : decode cX3_worth 28 = .ok (.iload_n 1, 1) := by decide +kernel
theorem dX3_worth_29 : decode cX3_worth 29 = .ok (.lload_n 2, 1) := by decide +kernel
theorem dX3_worth_30 : decode cX3_worth 30 = .ok (.lastore, 1) := by decide +kernel
theorem dX3_worth_31 : decode cX3_worth 31 = .ok (.iconst 1, 1) := by decide +kernel
theorem dX3_worth_32 : decode cX3_worth 32 = .ok (.ireturn, 1) := by decide +kernel
set_option maxRecDepth 20000 in
theorem ggX3_leftOut_X2_has : GoodIn wsX3_leftOut wsX2_has := goodIn_r _ [6, 7, 55, 56, 57, 58, 59, 60] (by decide +kernel) (by decide +kernel)
set_option maxRecDepth 20000 in
theorem gX3_leftOut_X2_has : GoodIn wsX3_leftOut (wsV RX3 112 RX2 yX2_has wsX2_has) := goodIn_app (goodIn_of _ (by decide +kernel)) ggX3_leftOut_X2_has
set_option maxRecDepth 20000 in
theorem ggX3_leftOut_X3_readWithout : GoodIn wsX3_leftOut wsX3_readWithout := goodIn_r _ [12, 1, 13, 14, 15, 5, 16, 17, 18, 19, 20, 11, 21, 22, 23, 24, 25, 26, 27, 28, 29, 7, 30, 31, 32, 33, 34, 35, 36, 37, 38, 39, 40, 41, 42, 43, 44, 45, 46, 47, 48, 49, 50, 51, 52, 53, 54, 55, 56, 57, 58, 59, 60] (by decide +kernel) (by decide +kernel)
set_option maxRecDepth 20000 in
theorem gX3_leftOut_X3_readWithout : GoodIn wsX3_leftOut (wsV RX3 115 RX3 yX3_readWithout wsX3_readWithout) := goodIn_app (goodIn_of _ (by decide +kernel)) ggX3_leftOut_X3_readWithout
theorem dX3_leftOut_0 : decode cX3_leftOut 0 = .ok (.aload_n 0, 1) := by decide +kernel
theorem dX3_leftOut_1 : decode cX3_leftOut 1 = .ok (.getfield 25, 3) := by decide +kernel
theorem dX3_leftOut_4 : decode cX3_leftOut 4 = .ok (.iload_n 1, 1) := by decide +kernel
theorem dX3_leftOut_5 : decode cX3_leftOut 5 = .ok (.invokevirtual 112, 3) := by decide +kernel
theorem dX3_leftOut_8 : decode cX3_leftOut 8 = .ok (.ifCond .eq 11, 3) := by decide +kernel
theorem dX3_leftOut_11 : decode cX3_leftOut 11 = .ok (.aload_n 0, 1) := by decide +kernel
theorem dX3_leftOut_12 : decode cX3_leftOut 12 = .ok (.iload_n 1, 1) := by decide +kernel
theorem dX3_leftOut_13 : decode cX3_leftOut 13 = .ok (.invokevirtual 115, 3) := by decide +kernel
theorem dX3_leftOut_16 : decode cX3_leftOut 16 = .ok (.goto 5, 3) := by decide +kernel
theorem dX3_leftOut_19 : decode cX3_leftOut 19 = .ok (.bipush (-2), 2) := by decide +kernel
theorem dX3_leftOut_21 : decode cX3_leftOut 21 = .ok (.ireturn, 1) := by decide +kernel
set_option maxRecDepth 20000 in
theorem ggX3_wrong_X3_isKind : GoodIn wsX3_wrong wsX3_isKind := goodIn_r _ [7, 8, 53, 54, 55, 56, 57, 58, 59, 60, 61, 62, 63] (by decide +kernel) (by decide +kernel)
set_option maxRecDepth 20000 in
theorem gX3_wrong_X3_isKind : GoodIn wsX3_wrong (wsV RX3 88 RX3 yX3_isKind wsX3_isKind) := goodIn_app (goodIn_of _ (by decide +kernel)) ggX3_wrong_X3_isKind
set_option maxRecDepth 20000 in
theorem ggX3_wrong_X2_size : GoodIn wsX3_wrong wsX2_size := goodIn_r _ [13, 14, 64, 65, 66, 67, 68, 69] (by decide +kernel) (by decide +kernel)
set_option maxRecDepth 20000 in
theorem gX3_wrong_X2_size : GoodIn wsX3_wrong (wsV RX3 119 RX2 yX2_size wsX2_size) := goodIn_app (goodIn_of _ (by decide +kernel)) ggX3_wrong_X2_size
set_option maxRecDepth 20000 in
theorem ggX3_wrong_X2_kindOf : GoodIn wsX3_wrong wsX2_kindOf := goodIn_r _ [18, 19, 64, 65, 66, 67, 68, 69] (by decide +kernel) (by decide +kernel)
set_option maxRecDepth 20000 in
theorem gX3_wrong_X2_kindOf : GoodIn wsX3_wrong (wsV RX3 123 RX2 yX2_kindOf wsX2_kindOf) := goodIn_app (goodIn_of _ (by decide +kernel)) ggX3_wrong_X2_kindOf
set_option maxRecDepth 20000 in
theorem ggX3_wrong_X3_readWithout : GoodIn wsX3_wrong wsX3_readWithout := goodIn_r _ [23, 2, 24, 25, 26, 12, 27, 28, 29, 30, 31, 6, 32, 8, 33, 34, 35, 36, 37, 38, 39, 14, 19, 40, 41, 42, 43, 44, 45, 46, 47, 48, 49, 50, 51, 52, 53, 54, 55, 56, 57, 58, 59, 60, 61, 62, 63, 64, 65, 66, 67, 68, 69] (by decide +kernel) (by decide +kernel)
set_option maxRecDepth 20000 in
theorem gX3_wrong_X3_readWithout : GoodIn wsX3_wrong (wsV RX3 115 RX3 yX3_readWithout wsX3_readWithout) := goodIn_app (goodIn_of _ (by decide +kernel)) ggX3_wrong_X3_readWithout
theorem dX3_wrong_0 : decode cX3_wrong 0 = .ok (.aload_n 0, 1) := by decide +kernel
theorem dX3_wrong_1 : decode cX3_wrong 1 = .ok (.iload_n 1, 1) := by decide +kernel
theorem dX3_wrong_2 : decode cX3_wrong 2 = .ok (.invokevirtual 88, 3) := by decide +kernel
theorem dX3_wrong_5 : decode cX3_wrong 5 = .ok (.ifCond .eq 16, 3) := by decide +kernel
theorem dX3_wrong_8 : decode cX3_wrong 8 = .ok (.aload_n 0, 1) := by decide +kernel
theorem dX3_wrong_9 : decode cX3_wrong 9 = .ok (.iload_n 2, 1) := by decide +kernel
theorem dX3_wrong_10 : decode cX3_wrong 10 = .ok (.invokevirtual 88, 3) := by decide +kernel
theorem dX3_wrong_13 : decode cX3_wrong 13 = .ok (.ifCond .ne 12, 3) := by decide +kernel
theorem dX3_wrong_16 : decode cX3_wrong 16 = .ok (.iload_n 2, 1) := by decide +kernel
theorem dX3_wrong_17 : decode cX3_wrong 17 = .ok (.iconst (-1), 1) := by decide +kernel
theorem dX3_wrong_18 : decode cX3_wrong 18 = .ok (.if_icmp .eq 7, 3) := by decide +kernel
theorem dX3_wrong_21 : decode cX3_wrong 21 = .ok (.ldc2_w 102, 3) := by decide +kernel
theorem dX3_wrong_24 : decode cX3_wrong 24 = .ok (.lreturn, 1) := by decide +kernel
theorem dX3_wrong_25 : decode cX3_wrong 25 = .ok (.lconst 0, 1) := by decide +kernel
theorem dX3_wrong_26 : decode cX3_wrong 26 = .ok (.lstore_n 3, 1) := by decide +kernel
theorem dX3_wrong_27 : decode cX3_wrong 27 = .ok (.aload_n 0, 1) := by decide +kernel
theorem dX3_wrong_28 : decode cX3_wrong 28 = .ok (.getfield 25, 3) := by decide +kernel
theorem dX3_wrong_31 : decode cX3_wrong 31 = .ok (.invokevirtual 119, 3) := by decide +kernel
theorem dX3_wrong_34 : decode cX3_wrong 34 = .ok (.istore 5, 2) := by decide +kernel
theorem dX3_wrong_36 : decode cX3_wrong 36 = .ok (.iconst 0, 1) := by decide +kernel
theorem dX3_wrong_37 : decode cX3_wrong 37 = .ok (.istore 6, 2) := by decide +kernel
theorem dX3_wrong_39 : decode cX3_wrong 39 = .ok (.iload 6, 2) := by decide +kernel
theorem dX3_wrong_41 : decode cX3_wrong 41 = .ok (.iload 5, 2) := by decide +kernel
theorem dX3_wrong_43 : decode cX3_wrong 43 = .ok (.if_icmp .ge 36, 3) := by decide +kernel
theorem dX3_wrong_46 : decode cX3_wrong 46 = .ok (.aload_n 0, 1) := by decide +kernel
theorem dX3_wrong_47 : decode cX3_wrong 47 = .ok (.getfield 25, 3) := by decide +kernel
theorem dX3_wrong_50 : decode cX3_wrong 50 = .ok (.iload 6, 2) := by decide +kernel
theorem dX3_wrong_52 : decode cX3_wrong 52 = .ok (.invokevirtual 123, 3) := by decide +kernel
theorem dX3_wrong_55 : decode cX3_wrong 55 = .ok (.iload_n 1, 1) := by decide +kernel
theorem dX3_wrong_56 : decode cX3_wrong 56 = .ok (.if_icmp .ne 17, 3) := by decide +kernel
theorem dX3_wrong_59 : decode cX3_wrong 59 = .ok (.aload_n 0, 1) := by decide +kernel
theorem dX3_wrong_60 : decode cX3_wrong 60 = .ok (.iload 6, 2) := by decide +kernel
theorem dX3_wrong_62 : decode cX3_wrong 62 = .ok (.invokevirtual 115, 3) := by decide +kernel
theorem dX3_wrong_65 : decode cX3_wrong 65 = .ok (.iload_n 2, 1) := by decide +kernel
theorem dX3_wrong_66 : decode cX3_wrong 66 = .ok (.if_icmp .ne 7, 3) := by decide +kernel
theorem dX3_wrong_69 : decode cX3_wrong 69 = .ok (.lload_n 3, 1) := by decide +kernel
theorem dX3_wrong_70 : decode cX3_wrong 70 = .ok (.lconst 1, 1) := by decide +kernel
theorem dX3_wrong_71 : decode cX3_wrong 71 = .ok (.ladd, 1) := by decide +kernel
theorem dX3_wrong_72 : decode cX3_wrong 72 = .ok (.lstore_n 3, 1) := by decide +kernel
theorem dX3_wrong_73 : decode cX3_wrong 73 = .ok (.iinc 6 1, 3) := by decide +kernel
theorem dX3_wrong_76 : decode cX3_wrong 76 = .ok (.goto (-37), 3) := by decide +kernel
theorem dX3_wrong_79 : decode cX3_wrong 79 = .ok (.lload_n 3, 1) := by decide +kernel
theorem dX3_wrong_80 : decode cX3_wrong 80 = .ok (.lreturn, 1) := by decide +kernel
set_option maxRecDepth 20000 in
theorem ggX3_correct_X2_has : GoodIn wsX3_correct wsX2_has := goodIn_r _ [6, 7, 34, 35, 36, 37, 38, 39] (by decide +kernel) (by decide +kernel)
set_option maxRecDepth 20000 in
theorem gX3_correct_X2_has : GoodIn wsX3_correct (wsV RX3 112 RX2 yX2_has wsX2_has) := goodIn_app (goodIn_of _ (by decide +kernel)) ggX3_correct_X2_has
set_option maxRecDepth 20000 in
theorem ggX3_correct_X3_isKind : GoodIn wsX3_correct wsX3_isKind := goodIn_r _ [12, 13, 23, 24, 25, 26, 27, 28, 29, 30, 31, 32, 33] (by decide +kernel) (by decide +kernel)
set_option maxRecDepth 20000 in
theorem gX3_correct_X3_isKind : GoodIn wsX3_correct (wsV RX3 88 RX3 yX3_isKind wsX3_isKind) := goodIn_app (goodIn_of _ (by decide +kernel)) ggX3_correct_X3_isKind
set_option maxRecDepth 20000 in
theorem ggX3_correct_X2_kindOf : GoodIn wsX3_correct wsX2_kindOf := goodIn_r _ [17, 18, 34, 35, 36, 37, 38, 39] (by decide +kernel) (by decide +kernel)
set_option maxRecDepth 20000 in
theorem gX3_correct_X2_kindOf : GoodIn wsX3_correct (wsV RX3 123 RX2 yX2_kindOf wsX2_kindOf) := goodIn_app (goodIn_of _ (by decide +kernel)) ggX3_correct_X2_kindOf
set_option maxRecDepth 20000 in
theorem ggX3_correct_X2_setKind : GoodIn wsX3_correct wsX2_setKind := goodIn_r _ [22, 18, 34, 35, 36, 37, 38, 39] (by decide +kernel) (by decide +kernel)
set_option maxRecDepth 20000 in
theorem gX3_correct_X2_setKind : GoodIn wsX3_correct (wsV RX3 126 RX2 yX2_setKind wsX2_setKind) := goodIn_app (goodIn_of _ (by decide +kernel)) ggX3_correct_X2_setKind
theorem dX3_correct_0 : decode cX3_correct 0 = .ok (.aload_n 0, 1) := by decide +kernel
theorem dX3_correct_1 : decode cX3_correct 1 = .ok (.getfield 25, 3) := by decide +kernel
theorem dX3_correct_4 : decode cX3_correct 4 = .ok (.iload_n 1, 1) := by decide +kernel
theorem dX3_correct_5 : decode cX3_correct 5 = .ok (.invokevirtual 112, 3) := by decide +kernel
theorem dX3_correct_8 : decode cX3_correct 8 = .ok (.ifCond .eq 11, 3) := by decide +kernel
theorem dX3_correct_11 : decode cX3_correct 11 = .ok (.aload_n 0, 1) := by decide +kernel
theorem dX3_correct_12 : decode cX3_correct 12 = .ok (.iload_n 2, 1) := by decide +kernel
theorem dX3_correct_13 : decode cX3_correct 13 = .ok (.invokevirtual 88, 3) := by decide +kernel
theorem dX3_correct_16 : decode cX3_correct 16 = .ok (.ifCond .ne 5, 3) := by decide +kernel
theorem dX3_correct_19 : decode cX3_correct 19 = .ok (.iconst (-1), 1) := by decide +kernel
theorem dX3_correct_20 : decode cX3_correct 20 = .ok (.ireturn, 1) := by decide +kernel
theorem dX3_correct_21 : decode cX3_correct 21 = .ok (.aload_n 0, 1) := by decide +kernel
theorem dX3_correct_22 : decode cX3_correct 22 = .ok (.getfield 25, 3) := by decide +kernel
theorem dX3_correct_25 : decode cX3_correct 25 = .ok (.iload_n 1, 1) := by decide +kernel
theorem dX3_correct_26 : decode cX3_correct 26 = .ok (.invokevirtual 123, 3) := by decide +kernel
theorem dX3_correct_29 : decode cX3_correct 29 = .ok (.istore_n 3, 1) := by decide +kernel
theorem dX3_correct_30 : decode cX3_correct 30 = .ok (.aload_n 0, 1) := by decide +kernel
theorem dX3_correct_31 : decode cX3_correct 31 = .ok (.getfield 25, 3) := by decide +kernel
theorem dX3_correct_34 : decode cX3_correct 34 = .ok (.iload_n 1, 1) := by decide +kernel
theorem dX3_correct_35 : decode cX3_correct 35 = .ok (.iload_n 2, 1) := by decide +kernel
theorem dX3_correct_36 : decode cX3_correct 36 = .ok (.invokevirtual 126, 3) := by decide +kernel
theorem dX3_correct_39 : decode cX3_correct 39 = .ok (.iload_n 3, 1) := by decide +kernel
theorem dX3_correct_40 : decode cX3_correct 40 = .ok (.ireturn, 1) := by decide +kernel
set_option maxRecDepth 20000 in
theorem ggX3_pixel_X0_isFree : GoodIn wsX3_pixel wsX0_isFree := goodIn_r _ [7, 8, 9, 10, 11, 6, 12, 101, 102, 103, 104, 105, 106, 107] (by decide +kernel) (by decide +kernel)
set_option maxRecDepth 20000 in
theorem gX3_pixel_X0_isFree : GoodIn wsX3_pixel (wsV RX3 130 RX0 yX0_isFree wsX0_isFree) := goodIn_app (goodIn_of _ (by decide +kernel)) ggX3_pixel_X0_isFree
set_option maxRecDepth 20000 in
theorem ggX3_pixel_X3_lookAtNow : GoodIn wsX3_pixel wsX3_lookAtNow := goodIn_r _ [17, 18, 19, 2, 20, 21, 22, 23, 24, 25, 26, 27, 28, 29, 30, 31, 32, 33, 34, 35, 36, 37, 38, 39, 90, 91, 92, 93, 94, 95, 96, 97, 98, 99, 100, 108, 109, 110, 111] (by decide +kernel) (by decide +kernel)
set_option maxRecDepth 20000 in
theorem gX3_pixel_X3_lookAtNow : GoodIn wsX3_pixel (wsV RX3 91 RX3 yX3_lookAtNow wsX3_lookAtNow) := goodIn_app (goodIn_of _ (by decide +kernel)) ggX3_pixel_X3_lookAtNow
set_option maxRecDepth 20000 in
theorem ggX3_pixel_X3_readCells : GoodIn wsX3_pixel wsX3_readCells := goodIn_r _ [43, 44, 45, 46, 47, 48, 49, 50, 38, 51, 52, 53, 54, 55, 56, 57, 58, 59, 60, 61, 62, 63, 64, 65, 66, 16, 67, 68, 90, 91, 92, 93, 94, 95, 96, 97, 98, 99, 100, 112, 113, 114, 115, 116, 117] (by decide +kernel) (by decide +kernel)
set_option maxRecDepth 20000 in
theorem gX3_pixel_X3_readCells : GoodIn wsX3_pixel (wsV RX3 98 RX3 yX3_readCells wsX3_readCells) := goodIn_app (goodIn_of _ (by decide +kernel)) ggX3_pixel_X3_readCells
set_option maxRecDepth 20000 in
theorem ggX3_pixel_X0_tell : GoodIn wsX3_pixel wsX0_tell := goodIn_r _ [72, 9, 8, 73, 74, 75, 6, 76, 77, 78, 79, 57, 58, 59, 80, 81, 82, 83, 84, 85, 86, 87, 88, 89, 10, 11, 12, 101, 102, 103, 104, 105, 106, 107] (by decide +kernel) (by decide +kernel)
set_option maxRecDepth 20000 in
theorem gX3_pixel_X0_tell : GoodIn wsX3_pixel (wsV RX3 133 RX0 yX0_tell wsX0_tell) := goodIn_app (goodIn_of _ (by decide +kernel)) ggX3_pixel_X0_tell
theorem dX3_pixel_0 : decode cX3_pixel 0 = .ok (.aload_n 0, 1) := by decide +kernel
theorem dX3_pixel_1 : decode cX3_pixel 1 = .ok (.getfield 32, 3) := by decide +kernel
theorem dX3_pixel_4 : decode cX3_pixel 4 = .ok (.iload_n 1, 1) := by decide +kernel
theorem dX3_pixel_5 : decode cX3_pixel 5 = .ok (.iload_n 2, 1) := by decide +kernel
theorem dX3_pixel_6 : decode cX3_pixel 6 = .ok (.invokevirtual 130, 3) := by decide +kernel
theorem dX3_pixel_9 : decode cX3_pixel 9 = .ok (.ifCond .ne 5, 3) := by decide +kernel
theorem dX3_pixel_12 : decode cX3_pixel 12 = .ok (.iconst 0, 1) := by decide +kernel
theorem dX3_pixel_13 : decode cX3_pixel 13 = .ok (.ireturn, 1) := by decide +kernel
theorem dX3_pixel_14 : decode cX3_pixel 14 = .ok (.aload_n 0, 1) := by decide +kernel
theorem dX3_pixel_15 : decode cX3_pixel 15 = .ok (.invokevirtual 91, 3) := by decide +kernel
theorem dX3_pixel_18 : decode cX3_pixel 18 = .ok (.aload_n 0, 1) := by decide +kernel
theorem dX3_pixel_19 : decode cX3_pixel 19 = .ok (.getfield 32, 3) := by decide +kernel
theorem dX3_pixel_22 : decode cX3_pixel 22 = .ok (.iload_n 1, 1) := by decide +kernel
theorem dX3_pixel_23 : decode cX3_pixel 23 = .ok (.iload_n 2, 1) := by decide +kernel
theorem dX3_pixel_24 : decode cX3_pixel 24 = .ok (.aload_n 0, 1) := by decide +kernel
theorem dX3_pixel_25 : decode cX3_pixel 25 = .ok (.aload_n 0, 1) := by decide +kernel
theorem dX3_pixel_26 : decode cX3_pixel 26 = .ok (.getfield 54, 3) := by decide +kernel
theorem dX3_pixel_29 : decode cX3_pixel 29 = .ok (.iconst (-1), 1) := by decide +kernel
theorem dX3_pixel_30 : decode cX3_pixel 30 = .ok (.invokevirtual 98, 3) := by decide +kernel
theorem dX3_pixel_33 : decode cX3_pixel 33 = .ok (.invokevirtual 133, 3) := by decide +kernel
theorem dX3_pixel_36 : decode cX3_pixel 36 = .ok (.iconst 1, 1) := by decide +kernel
theorem dX3_pixel_37 : decode cX3_pixel 37 = .ok (.ireturn, 1) := by decide +kernel
set_option maxRecDepth 20000 in
theorem ggX3_piece_X0_pieceAt : GoodIn wsX3_piece wsX0_pieceAt := goodIn_r _ [6, 7, 8, 9, 5, 10, 22, 23, 24, 25, 26, 27, 28] (by decide +kernel) (by decide +kernel)
set_option maxRecDepth 20000 in
theorem gX3_piece_X0_pieceAt : GoodIn wsX3_piece (wsV RX3 137 RX0 yX0_pieceAt wsX0_pieceAt) := goodIn_app (goodIn_of _ (by decide +kernel)) ggX3_piece_X0_pieceAt
theorem dX3_piece_0 : decode cX3_piece 0 = .ok (.aload_n 0, 1) := by decide +kernel
theorem dX3_piece_1 : decode cX3_piece 1 = .ok (.getfield 32, 3) := by decide +kernel
theorem dX3_piece_4 : decode cX3_piece 4 = .ok (.iload_n 1, 1) := by decide +kernel
theorem dX3_piece_5 : decode cX3_piece 5 = .ok (.iload_n 2, 1) := by decide +kernel
theorem dX3_piece_6 : decode cX3_piece 6 = .ok (.invokevirtual 137, 3) := by decide +kernel
theorem dX3_piece_9 : decode cX3_piece 9 = .ok (.ireturn, 1) := by decide +kernel
set_option maxRecDepth 20000 in
theorem ggX3_pieceKind_X0_hasPiece : GoodIn wsX3_pieceKind wsX0_hasPiece := goodIn_r _ [8, 9, 33, 34, 35, 36, 37, 38, 39] (by decide +kernel) (by decide +kernel)
set_option maxRecDepth 20000 in
theorem gX3_pieceKind_X0_hasPiece : GoodIn wsX3_pieceKind (wsV RX3 141 RX0 yX0_hasPiece wsX0_hasPiece) := goodIn_app (goodIn_of _ (by decide +kernel)) ggX3_pieceKind_X0_hasPiece
set_option maxRecDepth 20000 in
theorem ggX3_pieceKind_X0_countIn : GoodIn wsX3_pieceKind wsX0_countIn := goodIn_r _ [13, 14, 15, 33, 34, 35, 36, 37, 38, 39] (by decide +kernel) (by decide +kernel)
set_option maxRecDepth 20000 in
theorem gX3_pieceKind_X0_countIn : GoodIn wsX3_pieceKind (wsV RX3 144 RX0 yX0_countIn wsX0_countIn) := goodIn_app (goodIn_of _ (by decide +kernel)) ggX3_pieceKind_X0_countIn
set_option maxRecDepth 20000 in
theorem ggX3_pieceKind_X3_greatest : GoodIn wsX3_pieceKind wsX3_greatest := goodIn_r _ [20, 2, 3, 21, 22, 23, 24, 25, 26, 27, 28, 29, 30, 31, 32] (by decide +kernel) (by decide +kernel)
set_option maxRecDepth 20000 in
theorem gX3_pieceKind_X3_greatest : GoodIn wsX3_pieceKind (wsV RX3 147 RX3 yX3_greatest wsX3_greatest) := goodIn_app (goodIn_of _ (by decide +kernel)) ggX3_pieceKind_X3_greatest
theorem dX3_pieceKind_0 : decode cX3_pieceKind 0 = .ok (.aload_n 0, 1) := by decide +kernel
theorem dX3_pieceKind_1 : decode cX3_pieceKind 1 = .ok (.getfield 32, 3) := by decide +kernel
theorem dX3_pieceKind_4 : decode cX3_pieceKind 4 = .ok (.iload_n 1, 1) := by decide +kernel
theorem dX3_pieceKind_5 : decode cX3_pieceKind 5 = .ok (.invokevirtual 141, 3) := by decide +kernel
theorem dX3_pieceKind_8 : decode cX3_pieceKind 8 = .ok (.ifCond .ne 5, 3) := by decide +kernel
theorem dX3_pieceKind_11 : decode cX3_pieceKind 11 = .ok (.iconst (-1), 1) := by decide +kernel
theorem dX3_pieceKind_12 : decode cX3_pieceKind 12 = .ok (.ireturn, 1) := by decide +kernel
theorem dX3_pieceKind_13 : decode cX3_pieceKind 13 = .ok (.iconst 0, 1) := by decide +kernel
theorem dX3_pieceKind_14 : decode cX3_pieceKind 14 = .ok (.istore_n 2, 1) := by decide +kernel
theorem dX3_pieceKind_15 : decode cX3_pieceKind 15 = .ok (.iload_n 2, 1) := by decide +kernel
theorem dX3_pieceKind_16 : decode cX3_pieceKind 16 = .ok (.aload_n 0, 1) := by decide +kernel
theorem dX3_pieceKind_17 : decode cX3_pieceKind 17 = .ok (.getfield 9, 3) := by decide +kernel
theorem dX3_pieceKind_20 : decode cX3_pieceKind 20 = .ok (.if_icmp .ge 25, 3) := by decide +kernel
theorem dX3_pieceKind_23 : decode cX3_pieceKind 23 = .ok (.aload_n 0, 1) := by decide +kernel
theorem dX3_pieceKind_24 : decode cX3_pieceKind 24 = .ok (.getfield 57, 3) := by decide +kernel
theorem dX3_pieceKind_27 : decode cX3_pieceKind 27 = .ok (.iload_n 2, 1) := by decide +kernel
theorem dX3_pieceKind_28 : decode cX3_pieceKind 28 = .ok (.aload_n 0, 1) := by decide +kernel
theorem dX3_pieceKind_29 : decode cX3_pieceKind 29 = .ok (.getfield 32, 3) := by decide +kernel
theorem dX3_pieceKind_32 : decode cX3_pieceKind 32 = .ok (.iload_n 1, 1) := by decide +kernel
theorem dX3_pieceKind_33 : decode cX3_pieceKind 33 = .ok (.iload_n 2, 1) := by decide +kernel
theorem dX3_pieceKind_34 : decode cX3_pieceKind 34 = .ok (.invokevirtual 144, 3) := by decide +kernel
theorem dX3_pieceKind_37 : decode cX3_pieceKind 37 = .ok (.i2l, 1) := by decide +kernel
theorem dX3_pieceKind_38 : decode cX3_pieceKind 38 = .ok (.lastore, 1) := by decide +kernel
theorem dX3_pieceKind_39 : decode cX3_pieceKind 39 = .ok (.iinc 2 1, 3) := by decide +kernel
theorem dX3_pieceKind_42 : decode cX3_pieceKind 42 = .ok (.goto (-27), 3) := by decide +kernel
theorem dX3_pieceKind_45 : decode cX3_pieceKind 45 = .ok (.aload_n 0, 1) := by decide +kernel
theorem dX3_pieceKind_46 : decode cX3_pieceKind 46 = .ok (.invokevirtual 147, 3) := by decide +kernel
theorem dX3_pieceKind_49 : decode cX3_pieceKind 49 = .ok (.ireturn, 1) := by decide +kernel
set_option maxRecDepth 20000 in
theorem ggX3_neighbours_X0_hasPiece : GoodIn wsX3_neighbours wsX0_hasPiece := goodIn_r _ [6, 7, 40, 41, 42, 43, 44, 45, 46] (by decide +kernel) (by decide +kernel)
set_option maxRecDepth 20000 in
theorem gX3_neighbours_X0_hasPiece : GoodIn wsX3_neighbours (wsV RX3 141 RX0 yX0_hasPiece wsX0_hasPiece) := goodIn_app (goodIn_of _ (by decide +kernel)) ggX3_neighbours_X0_hasPiece
set_option maxRecDepth 20000 in
theorem ggX3_neighbours_X0_countNeighbours : GoodIn wsX3_neighbours wsX0_countNeighbours := goodIn_r _ [11, 12, 13, 14, 15, 16, 17, 18, 19, 20, 5, 21, 22, 23, 24, 25, 26, 27, 28, 40, 41, 42, 43, 44, 45, 46] (by decide +kernel) (by decide +kernel)
set_option maxRecDepth 20000 in
theorem gX3_neighbours_X0_countNeighbours : GoodIn wsX3_neighbours (wsV RX3 150 RX0 yX0_countNeighbours wsX0_countNeighbours) := goodIn_app (goodIn_of _ (by decide +kernel)) ggX3_neighbours_X0_countNeighbours
theorem dX3_neighbours_0 : decode cX3_neighbours 0 = .ok (.aload_n 0, 1) := by decide +kernel
theorem dX3_neighbours_1 : decode cX3_neighbours 1 = .ok (.getfield 32, 3) := by decide +kernel
theorem dX3_neighbours_4 : decode cX3_neighbours 4 = .ok (.iload_n 1, 1) := by decide +kernel
theorem dX3_neighbours_5 : decode cX3_neighbours 5 = .ok (.invokevirtual 141, 3) := by decide +kernel
theorem dX3_neighbours_8 : decode cX3_neighbours 8 = .ok (.ifCond .eq 14, 3) := by decide +kernel
theorem dX3_neighbours_11 : decode cX3_neighbours 11 = .ok (.aload_n 0, 1) := by decide +kernel
theorem dX3_neighbours_12 : decode cX3_neighbours 12 = .ok (.getfield 32, 3) := by decide +kernel
theorem dX3_neighbours_15 : decode cX3_neighbours 15 = .ok (.iload_n 1, 1) := by decide +kernel
theorem dX3_neighbours_16 : decode cX3_neighbours 16 = .ok (.invokevirtual 150, 3) := by decide +kernel
theorem dX3_neighbours_19 : decode cX3_neighbours 19 = .ok (.goto 4, 3) := by decide +kernel
theorem dX3_neighbours_22 : decode cX3_neighbours 22 = .ok (.iconst (-1), 1) := by decide +kernel
theorem dX3_neighbours_23 : decode cX3_neighbours 23 = .ok (.ireturn, 1) := by decide +kernel
set_option maxRecDepth 20000 in
theorem ggX3_pack_X2_packedByte : GoodIn wsX3_pack wsX2_packedByte := goodIn_r _ [6, 7, 8, 9, 10, 5, 11, 12, 13, 14, 15, 16, 17, 18, 30, 31, 32, 33, 34, 35] (by decide +kernel) (by decide +kernel)
set_option maxRecDepth 20000 in
theorem gX3_pack_X2_packedByte : GoodIn wsX3_pack (wsV RX3 153 RX2 yX2_packedByte wsX2_packedByte) := goodIn_app (goodIn_of _ (by decide +kernel)) ggX3_pack_X2_packedByte
theorem dX3_pack_0 : decode cX3_pack 0 = .ok (.aload_n 0, 1) := by decide +kernel
theorem dX3_pack_1 : decode cX3_pack 1 = .ok (.getfield 25, 3) := by decide +kernel
theorem dX3_pack_4 : decode cX3_pack 4 = .ok (.iload_n 1, 1) := by decide +kernel
theorem dX3_pack_5 : decode cX3_pack 5 = .ok (.invokevirtual 153, 3) := by decide +kernel
theorem dX3_pack_8 : decode cX3_pack 8 = .ok (.ireturn, 1) := by decide +kernel
set_option maxRecDepth 20000 in
theorem ggX3_feed_X3_isByte : GoodIn wsX3_feed wsX3_isByte := goodIn_r _ [6] (by decide +kernel) (by decide +kernel)
set_option maxRecDepth 20000 in
theorem gX3_feed_X3_isByte : GoodIn wsX3_feed (va_wsS RX3 71 yX3_isByte wsX3_isByte) := goodIn_app (goodIn_of _ (by decide +kernel)) ggX3_feed_X3_isByte
theorem dX3_feed_0 : decode cX3_feed 0 = .ok (.iload_n 1, 1) := by decide +kernel
theorem dX3_feed_1 : decode cX3_feed 1 = .ok (.invokestatic 71, 3) := by decide +kernel
theorem dX3_feed_4 : decode cX3_feed 4 = .ok (.ifCond .eq 13, 3) := by decide +kernel
theorem dX3_feed_7 : decode cX3_feed 7 = .ok (.aload_n 0, 1) := by decide +kernel
theorem dX3_feed_8 : decode cX3_feed 8 = .ok (.getfield 48, 3) := by decide +kernel
theorem dX3_feed_11 : decode cX3_feed 11 = .ok (.sipush 400, 3) := by decide +kernel
theorem dX3_feed_14 : decode cX3_feed 14 = .ok (.if_icmp .lt 5, 3) := by decide +kernel
theorem dX3_feed_17 : decode cX3_feed 17 = .ok (.iconst 0, 1) := by decide +kernel
theorem dX3_feed_18 : decode cX3_feed 18 = .ok (.ireturn, 1) := by decide +kernel
theorem dX3_feed_19 : decode cX3_feed 19 = .ok (.aload_n 0, 1) := by decide +kernel
theorem dX3_feed_20 : decode cX3_feed 20 = .ok (.getfield 44, 3) := by decide +kernel
theorem dX3_feed_23 : decode cX3_feed 23 = .ok (.aload_n 0, 1) := by decide +kernel
theorem dX3_feed_24 : decode cX3_feed 24 = .ok (.getfield 48, 3) := by decide +kernel
theorem dX3_feed_27 : decode cX3_feed 27 = .ok (.iload_n 1, 1) := by decide +kernel
theorem dX3_feed_28 : decode cX3_feed 28 = .ok (.iastore, 1) := by decide +kernel
theorem dX3_feed_29 : decode cX3_feed 29 = .ok (.aload_n 0, 1) := by decide +kernel
theorem dX3_feed_30 : decode cX3_feed 30 = .ok (.dup, 1) := by decide +kernel
theorem dX3_feed_31 : decode cX3_feed 31 = .ok (.getfield 48, 3) := by decide +kernel
theorem dX3_feed_34 : decode cX3_feed 34 = .ok (.iconst 1, 1) := by decide +kernel
theorem dX3_feed_35 : decode cX3_feed 35 = .ok (.iadd, 1) := by decide +kernel
theorem dX3_feed_36 : decode cX3_feed 36 = .ok (.putfield 48, 3) := by decide +kernel
theorem dX3_feed_39 : decode cX3_feed 39 = .ok (.iconst 1, 1) := by decide +kernel
theorem dX3_feed_40 : decode cX3_feed 40 = .ok (.ireturn, 1) := by decide +kernel
set_option maxRecDepth 20000 in
theorem ggX3_open_X2_fits : GoodIn wsX3_open wsX2_fits := goodIn_r _ [8, 9, 48, 49, 50, 51, 52, 53] (by decide +kernel) (by decide +kernel)
set_option maxRecDepth 20000 in
theorem gX3_open_X2_fits : GoodIn wsX3_open (wsV RX3 156 RX2 yX2_fits wsX2_fits) := goodIn_app (goodIn_of _ (by decide +kernel)) ggX3_open_X2_fits
set_option maxRecDepth 20000 in
theorem ggX3_open_X2_load : GoodIn wsX3_open wsX2_load := goodIn_r _ [13, 14, 15, 16, 17, 18, 19, 20, 21, 7, 22, 23, 24, 25, 26, 27, 28, 29, 30, 31, 32, 48, 49, 50, 51, 52, 53] (by decide +kernel) (by decide +kernel)
set_option maxRecDepth 20000 in
theorem gX3_open_X2_load : GoodIn wsX3_open (wsV RX3 160 RX2 yX2_load wsX2_load) := goodIn_app (goodIn_of _ (by decide +kernel)) ggX3_open_X2_load
set_option maxRecDepth 20000 in
theorem ggX3_open_X2_size : GoodIn wsX3_open wsX2_size := goodIn_r _ [36, 18, 48, 49, 50, 51, 52, 53] (by decide +kernel) (by decide +kernel)
set_option maxRecDepth 20000 in
theorem gX3_open_X2_size : GoodIn wsX3_open (wsV RX3 119 RX2 yX2_size wsX2_size) := goodIn_app (goodIn_of _ (by decide +kernel)) ggX3_open_X2_size
theorem dX3_open_0 : decode cX3_open 0 = .ok (.aload_n 0, 1) := by decide +kernel
theorem dX3_open_1 : decode cX3_open 1 = .ok (.getfield 48, 3) := by decide +kernel
theorem dX3_open_4 : decode cX3_open 4 = .ok (.istore_n 1, 1) := by decide +kernel
theorem dX3_open_5 : decode cX3_open 5 = .ok (.aload_n 0, 1) := by decide +kernel
theorem dX3_open_6 : decode cX3_open 6 = .ok (.iconst 0, 1) := by decide +kernel
theorem dX3_open_7 : decode cX3_open 7 = .ok (.putfield 48, 3) := by decide +kernel
theorem dX3_open_10 : decode cX3_open 10 = .ok (.aload_n 0, 1) := by decide +kernel
theorem dX3_open_11 : decode cX3_open 11 = .ok (.getfield 25, 3) := by decide +kernel
theorem dX3_open_14 : decode cX3_open 14 = .ok (.aload_n 0, 1) := by decide +kernel
theorem dX3_open_15 : decode cX3_open 15 = .ok (.getfield 44, 3) := by decide +kernel
theorem dX3_open_18 : decode cX3_open 18 = .ok (.iload_n 1, 1) := by decide +kernel
theorem dX3_open_19 : decode cX3_open 19 = .ok (.invokevirtual 156, 3) := by decide +kernel
theorem dX3_open_22 : decode cX3_open 22 = .ok (.ifCond .ne 5, 3) := by decide +kernel
theorem dX3_open_25 : decode cX3_open 25 = .ok (.iconst (-1), 1) := by decide +kernel
theorem dX3_open_26 : decode cX3_open 26 = .ok (.ireturn, 1) := by decide +kernel
theorem dX3_open_27 : decode cX3_open 27 = .ok (.aload_n 0, 1) := by decide +kernel
theorem dX3_open_28 : decode cX3_open 28 = .ok (.getfield 25, 3) := by decide +kernel
theorem dX3_open_31 : decode cX3_open 31 = .ok (.aload_n 0, 1) := by decide +kernel
theorem dX3_open_32 : decode cX3_open 32 = .ok (.getfield 44, 3) := by decide +kernel
theorem dX3_open_35 : decode cX3_open 35 = .ok (.invokevirtual 160, 3) := by decide +kernel
theorem dX3_open_38 : decode cX3_open 38 = .ok (.aload_n 0, 1) := by decide +kernel
theorem dX3_open_39 : decode cX3_open 39 = .ok (.getfield 25, 3) := by decide +kernel
theorem dX3_open_42 : decode cX3_open 42 = .ok (.invokevirtual 119, 3) := by decide +kernel
theorem dX3_open_45 : decode cX3_open 45 = .ok (.ireturn, 1) := by decide +kernel
theorem dX3_isChannel_0 : decode cX3_isChannel 0 = .ok (.iload_n 0, 1) := by decide +kernel
theorem dX3_isChannel_1 : decode cX3_isChannel 1 = .ok (.ifCond .lt 13, 3) := by decide +kernel
theorem dX3_isChannel_4 : decode cX3_isChannel 4 = .ok (.iload_n 0, 1) := by decide +kernel
theorem dX3_isChannel_5 : decode cX3_isChannel 5 = .ok (.bipush 8, 2) := by decide +kernel
theorem dX3_isChannel_7 : decode cX3_isChannel 7 = .ok (.if_icmp .ge 7, 3) := by decide +kernel
theorem dX3_isChannel_10 : decode cX3_isChannel 10 = .ok (.iconst 1, 1) := by decide +kernel
theorem dX3_isChannel_11 : decode cX3_isChannel 11 = .ok (.goto 4, 3) := by decide +kernel
theorem dX3_isChannel_14 : decode cX3_isChannel 14 = .ok (.iconst 0, 1) := by decide +kernel
theorem dX3_isChannel_15 : decode cX3_isChannel 15 = .ok (.ireturn, 1) := by decide +kernel
theorem dX3_isByte_0 : decode cX3_isByte 0 = .ok (.iload_n 0, 1) := by decide +kernel
theorem dX3_isByte_1 : decode cX3_isByte 1 = .ok (.ifCond .lt 14, 3) := by decide +kernel
theorem dX3_isByte_4 : decode cX3_isByte 4 = .ok (.iload_n 0, 1) := by decide +kernel
theorem dX3_isByte_5 : decode cX3_isByte 5 = .ok (.sipush 255, 3) := by decide +kernel
theorem dX3_isByte_8 : decode cX3_isByte 8 = .ok (.if_icmp .gt 7, 3) := by decide +kernel
theorem dX3_isByte_11 : decode cX3_isByte 11 = .ok (.iconst 1, 1) := by decide +kernel
theorem dX3_isByte_12 : decode cX3_isByte 12 = .ok (.goto 4, 3) := by decide +kernel
theorem dX3_isByte_15 : decode cX3_isByte 15 = .ok (.iconst 0, 1) := by decide +kernel
theorem dX3_isByte_16 : decode cX3_isByte 16 = .ok (.ireturn, 1) := by decide +kernel
theorem dX3_isKind_0 : decode cX3_isKind 0 = .ok (.iload_n 1, 1) := by decide +kernel
theorem dX3_isKind_1 : decode cX3_isKind 1 = .ok (.ifCond .lt 15, 3) := by decide +kernel
theorem dX3_isKind_4 : decode cX3_isKind 4 = .ok (.iload_n 1, 1) := by decide +kernel
theorem dX3_isKind_5 : decode cX3_isKind 5 = .ok (.aload_n 0, 1) := by decide +kernel
theorem dX3_isKind_6 : decode cX3_isKind 6 = .ok (.getfield 9, 3) := by decide +kernel
theorem dX3_isKind_9 : decode cX3_isKind 9 = .ok (.if_icmp .ge 7, 3) := by decide +kernel
theorem dX3_isKind_12 : decode cX3_isKind 12 = .ok (.iconst 1, 1) := by decide +kernel
theorem dX3_isKind_13 : decode cX3_isKind 13 = .ok (.goto 4, 3) := by decide +kernel
theorem dX3_isKind_16 : decode cX3_isKind 16 = .ok (.iconst 0, 1) := by decide +kernel
theorem dX3_isKind_17 : decode cX3_isKind 17 = .ok (.ireturn, 1) := by decide +kernel
set_option maxRecDepth 20000 in
theorem ggX3_lookAtNow_X1_fillRow : GoodIn wsX3_lookAtNow wsX1_fillRow := goodIn_r _ [8, 9, 10, 11, 7, 12, 13, 14, 15, 16, 17, 18, 19, 35, 36, 37, 38] (by decide +kernel) (by decide +kernel)
set_option maxRecDepth 20000 in
theorem gX3_lookAtNow_X1_fillRow : GoodIn wsX3_lookAtNow (wsV RX3 164 RX1 yX1_fillRow wsX1_fillRow) := goodIn_app (goodIn_of _ (by decide +kernel)) ggX3_lookAtNow_X1_fillRow
set_option maxRecDepth 20000 in
theorem ggX3_lookAtNow_X2_fillCells : GoodIn wsX3_lookAtNow wsX2_fillCells := goodIn_r _ [23] (by decide +kernel) (by decide +kernel)
set_option maxRecDepth 20000 in
theorem gX3_lookAtNow_X2_fillCells : GoodIn wsX3_lookAtNow (va_wsS RX3 167 yX2_fillCells wsX2_fillCells) := goodIn_app (goodIn_of _ (by decide +kernel)) ggX3_lookAtNow_X2_fillCells
theorem dX3_lookAtNow_0 : decode cX3_lookAtNow 0 = .ok (.aload_n 0, 1) := by decide +kernel
theorem dX3_lookAtNow_1 : decode cX3_lookAtNow 1 = .ok (.getfield 16, 3) := by decide +kernel
theorem dX3_lookAtNow_4 : decode cX3_lookAtNow 4 = .ok (.aload_n 0, 1) := by decide +kernel
theorem dX3_lookAtNow_5 : decode cX3_lookAtNow 5 = .ok (.getfield 51, 3) := by decide +kernel
theorem dX3_lookAtNow_8 : decode cX3_lookAtNow 8 = .ok (.invokevirtual 164, 3) := by decide +kernel
theorem dX3_lookAtNow_11 : decode cX3_lookAtNow 11 = .ok (.aload_n 0, 1) := by decide +kernel
theorem dX3_lookAtNow_12 : decode cX3_lookAtNow 12 = .ok (.getfield 51, 3) := by decide +kernel
theorem dX3_lookAtNow_15 : decode cX3_lookAtNow 15 = .ok (.aload_n 0, 1) := by decide +kernel
theorem dX3_lookAtNow_16 : decode cX3_lookAtNow 16 = .ok (.getfield 54, 3) := by decide +kernel
theorem dX3_lookAtNow_19 : decode cX3_lookAtNow 19 = .ok (.invokestatic 167, 3) := by decide +kernel
theorem dX3_lookAtNow_22 : decode cX3_lookAtNow 22 = .ok (.return_, 1) := by decide +kernel
set_option maxRecDepth 20000 in
theorem ggX3_readWithout_X2_cellsOf : GoodIn wsX3_readWithout wsX2_cellsOf := goodIn_r _ [6, 7, 47, 48, 49, 50, 51, 52] (by decide +kernel) (by decide +kernel)
set_option maxRecDepth 20000 in
theorem gX3_readWithout_X2_cellsOf : GoodIn wsX3_readWithout (wsV RX3 171 RX2 yX2_cellsOf wsX2_cellsOf) := goodIn_app (goodIn_of _ (by decide +kernel)) ggX3_readWithout_X2_cellsOf
set_option maxRecDepth 20000 in
theorem ggX3_readWithout_X3_readCells : GoodIn wsX3_readWithout wsX3_readCells := goodIn_r _ [12, 13, 14, 1, 15, 16, 17, 18, 5, 19, 20, 21, 22, 7, 23, 24, 25, 26, 27, 28, 29, 30, 31, 32, 33, 11, 34, 35, 36, 37, 38, 39, 40, 41, 42, 43, 44, 45, 46, 47, 48, 49, 50, 51, 52] (by decide +kernel) (by decide +kernel)
set_option maxRecDepth 20000 in
theorem gX3_readWithout_X3_readCells : GoodIn wsX3_readWithout (wsV RX3 98 RX3 yX3_readCells wsX3_readCells) := goodIn_app (goodIn_of _ (by decide +kernel)) ggX3_readWithout_X3_readCells
theorem dX3_readWithout_0 : decode cX3_readWithout 0 = .ok (.aload_n 0, 1) := by decide +kernel
theorem dX3_readWithout_1 : decode cX3_readWithout 1 = .ok (.aload_n 0, 1) := by decide +kernel
theorem dX3_readWithout_2 : decode cX3_readWithout 2 = .ok (.getfield 25, 3) := by decide +kernel
theorem dX3_readWithout_5 : decode cX3_readWithout 5 = .ok (.iload_n 1, 1) := by decide +kernel
theorem dX3_readWithout_6 : decode cX3_readWithout 6 = .ok (.invokevirtual 171, 3) := by decide +kernel
theorem dX3_readWithout_9 : decode cX3_readWithout 9 = .ok (.iload_n 1, 1) := by decide +kernel
theorem dX3_readWithout_10 : decode cX3_readWithout 10 = .ok (.invokevirtual 98, 3) := by decide +kernel
theorem dX3_readWithout_13 : decode cX3_readWithout 13 = .ok (.ireturn, 1) := by decide +kernel
set_option maxRecDepth 20000 in
theorem ggX3_readCells_X2_sumOf : GoodIn wsX3_readCells wsX2_sumOf := goodIn_r _ [9, 10, 11, 12, 13, 14, 15, 16, 17, 18, 19, 20, 8, 21, 39, 40, 41, 42, 43, 44] (by decide +kernel) (by decide +kernel)
set_option maxRecDepth 20000 in
theorem gX3_readCells_X2_sumOf : GoodIn wsX3_readCells (wsV RX3 104 RX2 yX2_sumOf wsX2_sumOf) := goodIn_app (goodIn_of _ (by decide +kernel)) ggX3_readCells_X2_sumOf
set_option maxRecDepth 20000 in
theorem ggX3_readCells_X3_greatest : GoodIn wsX3_readCells wsX3_greatest := goodIn_r _ [26, 1, 2, 27, 28, 29, 30, 31, 32, 33, 34, 35, 36, 37, 38] (by decide +kernel) (by decide +kernel)
set_option maxRecDepth 20000 in
theorem gX3_readCells_X3_greatest : GoodIn wsX3_readCells (wsV RX3 147 RX3 yX3_greatest wsX3_greatest) := goodIn_app (goodIn_of _ (by decide +kernel)) ggX3_readCells_X3_greatest
theorem dX3_readCells_0 : decode cX3_readCells 0 = .ok (.iconst 0, 1) := by decide +kernel
theorem dX3_readCells_1 : decode cX3_readCells 1 = .ok (.istore_n 3, 1) := by decide +kernel
theorem dX3_readCells_2 : decode cX3_readCells 2 = .ok (.iload_n 3, 1) := by decide +kernel
theorem dX3_readCells_3 : decode cX3_readCells 3 = .ok (.aload_n 0, 1) := by decide +kernel
theorem dX3_readCells_4 : decode cX3_readCells 4 = .ok (.getfield 9, 3) := by decide +kernel
theorem dX3_readCells_7 : decode cX3_readCells 7 = .ok (.if_icmp .ge 25, 3) := by decide +kernel
theorem dX3_readCells_10 : decode cX3_readCells 10 = .ok (.aload_n 0, 1) := by decide +kernel
theorem dX3_readCells_11 : decode cX3_readCells 11 = .ok (.getfield 57, 3) := by decide +kernel
theorem dX3_readCells_14 : decode cX3_readCells 14 = .ok (.iload_n 3, 1) := by decide +kernel
theorem dX3_readCells_15 : decode cX3_readCells 15 = .ok (.aload_n 0, 1) := by decide +kernel
theorem dX3_readCells_16 : decode cX3_readCells 16 = .ok (.getfield 25, 3) := by decide +kernel
theorem dX3_readCells_19 : decode cX3_readCells 19 = .ok (.iload_n 3, 1) := by decide +kernel
theorem dX3_readCells_20 : decode cX3_readCells 20 = .ok (.aload_n 1, 1) := by decide +kernel
theorem dX3_readCells_21 : decode cX3_readCells 21 = .ok (.iload_n 2, 1) := by decide +kernel
theorem dX3_readCells_22 : decode cX3_readCells 22 = .ok (.invokevirtual 104, 3) := by decide +kernel
theorem dX3_readCells_25 : decode cX3_readCells 25 = .ok (.lastore, 1) := by decide +kernel
theorem dX3_readCells_26 : decode cX3_readCells 26 = .ok (.iinc 3 1, 3) := by decide +kernel
theorem dX3_readCells_29 : decode cX3_readCells 29 = .ok (.goto (-27), 3) := by decide +kernel
theorem dX3_readCells_32 : decode cX3_readCells 32 = .ok (.aload_n 0, 1) := by decide +kernel
theorem dX3_readCells_33 : decode cX3_readCells 33 = .ok (.invokevirtual 147, 3) := by decide +kernel
theorem dX3_readCells_36 : decode cX3_readCells 36 = .ok (.istore_n 3, 1) := by decide +kernel
theorem dX3_readCells_37 : decode cX3_readCells 37 = .ok (.aload_n 0, 1) := by decide +kernel
theorem dX3_readCells_38 : decode cX3_readCells 38 = .ok (.getfield 57, 3) := by decide +kernel
theorem dX3_readCells_41 : decode cX3_readCells 41 = .ok (.iload_n 3, 1) := by decide +kernel
theorem dX3_readCells_42 : decode cX3_readCells 42 = .ok (.laload, 1) := by decide +kernel
theorem dX3_readCells_43 : decode cX3_readCells 43 = .ok (.aload_n 0, 1) := by decide +kernel
theorem dX3_readCells_44 : decode cX3_readCells 44 = .ok (.getfield 40, 3) := by decide +kernel
theorem dX3_readCells_47 : decode cX3_readCells 47 = .ok (.lcmp, 1) := by decide +kernel
theorem dX3_readCells_48 : decode cX3_readCells 48 = .ok (.ifCond .ge 7, 3) := by decide +kernel
theorem dX3_readCells_51 : decode cX3_readCells 51 = .ok (.iconst (-1), 1) := by decide +kernel
theorem dX3_readCells_52 : decode cX3_readCells 52 = .ok (.goto 4, 3) := by decide +kernel
theorem dX3_readCells_55 : decode cX3_readCells 55 = .ok (.iload_n 3, 1) := by decide +kernel
theorem dX3_readCells_56 : decode cX3_readCells 56 = .ok (.ireturn, 1) := by decide +kernel
theorem dX3_greatest_0 : decode cX3_greatest 0 = .ok (.iconst 0, 1) := by decide +kernel
theorem dX3_greatest_1 : decode cX3_greatest 1 = .ok (.istore_n 1, 1) := by decide +kernel
theorem dX3_greatest_2 : decode cX3_greatest 2 = .ok (.iconst 1, 1) := by decide +kernel
theorem dX3_greatest_3 : decode cX3_greatest 3 = .ok (.istore_n 2, 1) := by decide +kernel
theorem dX3_greatest_4 : decode cX3_greatest 4 = .ok (.iload_n 2, 1) := by decide +kernel
theorem dX3_greatest_5 : decode cX3_greatest 5 = .ok (.aload_n 0, 1) := by decide +kernel
theorem dX3_greatest_6 : decode cX3_greatest 6 = .ok (.getfield 9, 3) := by decide +kernel
theorem dX3_greatest_9 : decode cX3_greatest 9 = .ok (.if_icmp .ge 69, 3) := by decide +kernel
theorem dX3_greatest_12 : decode cX3_greatest 12 = .ok (.aload_n 0, 1) := by decide +kernel
theorem dX3_greatest_13 : decode cX3_greatest 13 = .ok (.getfield 57, 3) := by decide +kernel
theorem dX3_greatest_16 : decode cX3_greatest 16 = .ok (.iload_n 2, 1) := by decide +kernel
theorem dX3_greatest_17 : decode cX3_greatest 17 = .ok (.laload, 1) := by decide +kernel
theorem dX3_greatest_18 : decode cX3_greatest 18 = .ok (.aload_n 0, 1) := by decide +kernel
theorem dX3_greatest_19 : decode cX3_greatest 19 = .ok (.getfield 57, 3) := by decide +kernel
theorem dX3_greatest_22 : decode cX3_greatest 22 = .ok (.iload_n 1, 1) := by decide +kernel
theorem dX3_greatest_23 : decode cX3_greatest 23 = .ok (.laload, 1) := by decide +kernel
theorem dX3_greatest_24 : decode cX3_greatest 24 = .ok (.lcmp, 1) := by decide +kernel
theorem dX3_greatest_25 : decode cX3_greatest 25 = .ok (.ifCond .ne 7, 3) := by decide +kernel
theorem dX3_greatest_28 : decode cX3_greatest 28 = .ok (.iconst 1, 1) := by decide +kernel
theorem dX3_greatest_29 : decode cX3_greatest 29 = .ok (.goto 4, 3) := by decide +kernel
theorem dX3_greatest_32 : decode cX3_greatest 32 = .ok (.iconst 0, 1) := by decide +kernel
theorem dX3_greatest_33 : decode cX3_greatest 33 = .ok (.istore_n 3, 1) := by decide +kernel
theorem dX3_greatest_34 : decode cX3_greatest 34 = .ok (.aload_n 0, 1) := by decide +kernel
theorem dX3_greatest_35 : decode cX3_greatest 35 = .ok (.getfield 57, 3) := by decide +kernel
theorem dX3_greatest_38 : decode cX3_greatest 38 = .ok (.iload_n 2, 1) := by decide +kernel
theorem dX3_greatest_39 : decode cX3_greatest 39 = .ok (.laload, 1) := by decide +kernel
theorem dX3_greatest_40 : decode cX3_greatest 40 = .ok (.aload_n 0, 1) := by decide +kernel
theorem dX3_greatest_41 : decode cX3_greatest 41 = .ok (.getfield 57, 3) := by decide +kernel
theorem dX3_greatest_44 : decode cX3_greatest 44 = .ok (.iload_n 1, 1) := by decide +kernel
theorem dX3_greatest_45 : decode cX3_greatest 45 = .ok (.laload, 1) := by decide +kernel
theorem dX3_greatest_46 : decode cX3_greatest 46 = .ok (.lcmp, 1) := by decide +kernel
theorem dX3_greatest_47 : decode cX3_greatest 47 = .ok (.ifCond .gt 23, 3) := by decide +kernel
theorem dX3_greatest_50 : decode cX3_greatest 50 = .ok (.iload_n 3, 1) := by decide +kernel
theorem dX3_greatest_51 : decode cX3_greatest 51 = .ok (.ifCond .eq 21, 3) := by decide +kernel
theorem dX3_greatest_54 : decode cX3_greatest 54 = .ok (.aload_n 0, 1) := by decide +kernel
theorem dX3_greatest_55 : decode cX3_greatest 55 = .ok (.getfield 36, 3) := by decide +kernel
theorem dX3_greatest_58 : decode cX3_greatest 58 = .ok (.iload_n 2, 1) := by decide +kernel
theorem dX3_greatest_59 : decode cX3_greatest 59 = .ok (.laload, 1) := by decide +kernel
theorem dX3_greatest_60 : decode cX3_greatest 60 = .ok (.aload_n 0, 1) := by decide +kernel
theorem dX3_greatest_61 : decode cX3_greatest 61 = .ok (.getfield 36, 3) := by decide +kernel
theorem dX3_greatest_64 : decode cX3_greatest 64 = .ok (.iload_n 1, 1) := by decide +kernel
theorem dX3_greatest_65 : decode cX3_greatest 65 = .ok (.laload, 1) := by decide +kernel
theorem dX3_greatest_66 : decode cX3_greatest 66 = .ok (.lcmp, 1) := by decide +kernel
theorem dX3_greatest_67 : decode cX3_greatest 67 = .ok (.ifCond .le 5, 3) := by decide +kernel
theorem dX3_greatest_70 : decode cX3_greatest 70 = .ok (.iload_n 2, 1) := by decide +kernel
theorem dX3_greatest_71 : decode cX3_greatest 71 = .ok (.istore_n 1, 1) := by decide +kernel
theorem dX3_greatest_72 : decode cX3_greatest 72 = .ok (.iinc 2 1, 3) := by decide +kernel
theorem dX3_greatest_75 : decode cX3_greatest 75 = .ok (.goto (-71), 3) := by decide +kernel
theorem dX3_greatest_78 : decode cX3_greatest 78 = .ok (.iload_n 1, 1) := by decide +kernel
theorem dX3_greatest_79 : decode cX3_greatest 79 = .ok (.ireturn, 1) := by decide +kernel
theorem dX4_init_0 : decode cX4_init 0 = .ok (.aload_n 0, 1) := by decide +kernel
theorem dX4_init_1 : decode cX4_init 1 = .ok (.invokespecial 1, 3) := by decide +kernel
theorem dX4_init_4 : decode cX4_init 4 = .ok (.aload_n 0, 1) := by decide +kernel
theorem dX4_init_5 : decode cX4_init 5 = .ok (.bipush 8, 2) := by decide +kernel
theorem dX4_init_7 : decode cX4_init 7 = .ok (.newarray .int, 2) := by decide +kernel
theorem dX4_init_9 : decode cX4_init 9 = .ok (.putfield 7, 3) := by decide +kernel
theorem dX4_init_12 : decode cX4_init 12 = .ok (.aload_n 0, 1) := by decide +kernel
theorem dX4_init_13 : decode cX4_init 13 = .ok (.bipush 8, 2) := by decide +kernel
theorem dX4_init_15 : decode cX4_init 15 = .ok (.newarray .int, 2) := by decide +kernel
theorem dX4_init_17 : decode cX4_init 17 = .ok (.putfield 13, 3) := by decide +kernel
theorem dX4_init_20 : decode cX4_init 20 = .ok (.aload_n 0, 1) := by decide +kernel
theorem dX4_init_21 : decode cX4_init 21 = .ok (.bipush 8, 2) := by decide +kernel
theorem dX4_init_23 : decode cX4_init 23 = .ok (.newarray .int, 2) := by decide +kernel
theorem dX4_init_25 : decode cX4_init 25 = .ok (.putfield 16, 3) := by decide +kernel
theorem dX4_init_28 : decode cX4_init 28 = .ok (.aload_n 0, 1) := by decide +kernel
theorem dX4_init_29 : decode cX4_init 29 = .ok (.bipush 40, 2) := by decide +kernel
theorem dX4_init_31 : decode cX4_init 31 = .ok (.newarray .int, 2) := by decide +kernel
theorem dX4_init_33 : decode cX4_init 33 = .ok (.putfield 19, 3) := by decide +kernel
theorem dX4_init_36 : decode cX4_init 36 = .ok (.aload_n 0, 1) := by decide +kernel
theorem dX4_init_37 : decode cX4_init 37 = .ok (.sipush 320, 3) := by decide +kernel
theorem dX4_init_40 : decode cX4_init 40 = .ok (.newarray .int, 2) := by decide +kernel
theorem dX4_init_42 : decode cX4_init 42 = .ok (.putfield 22, 3) := by decide +kernel
theorem dX4_init_45 : decode cX4_init 45 = .ok (.aload_n 0, 1) := by decide +kernel
theorem dX4_init_46 : decode cX4_init 46 = .ok (.lconst 1, 1) := by decide +kernel
theorem dX4_init_47 : decode cX4_init 47 = .ok (.putfield 25, 3) := by decide +kernel
theorem dX4_init_50 : decode cX4_init 50 = .ok (.aload_n 0, 1) := by decide +kernel
theorem dX4_init_51 : decode cX4_init 51 = .ok (.iconst 4, 1) := by decide +kernel
theorem dX4_init_52 : decode cX4_init 52 = .ok (.newarray .long, 2) := by decide +kernel
theorem dX4_init_54 : decode cX4_init 54 = .ok (.putfield 29, 3) := by decide +kernel
theorem dX4_init_57 : decode cX4_init 57 = .ok (.aload_n 0, 1) := by decide +kernel
theorem dX4_init_58 : decode cX4_init 58 = .ok (.sipush 256, 3) := by decide +kernel
theorem dX4_init_61 : decode cX4_init 61 = .ok (.newarray .int, 2) := by decide +kernel
theorem dX4_init_63 : decode cX4_init 63 = .ok (.putfield 33, 3) := by decide +kernel
theorem dX4_init_66 : decode cX4_init 66 = .ok (.aload_n 0, 1) := by decide +kernel
theorem dX4_init_67 : decode cX4_init 67 = .ok (.sipush 400, 3) := by decide +kernel
theorem dX4_init_70 : decode cX4_init 70 = .ok (.newarray .int, 2) := by decide +kernel
theorem dX4_init_72 : decode cX4_init 72 = .ok (.putfield 36, 3) := by decide +kernel
theorem dX4_init_75 : decode cX4_init 75 = .ok (.aload_n 0, 1) := by decide +kernel
theorem dX4_init_76 : decode cX4_init 76 = .ok (.bipush 8, 2) := by decide +kernel
theorem dX4_init_78 : decode cX4_init 78 = .ok (.newarray .int, 2) := by decide +kernel
theorem dX4_init_80 : decode cX4_init 80 = .ok (.putfield 39, 3) := by decide +kernel
theorem dX4_init_83 : decode cX4_init 83 = .ok (.aload_n 0, 1) := by decide +kernel
theorem dX4_init_84 : decode cX4_init 84 = .ok (.sipush 256, 3) := by decide +kernel
theorem dX4_init_87 : decode cX4_init 87 = .ok (.newarray .int, 2) := by decide +kernel
theorem dX4_init_89 : decode cX4_init 89 = .ok (.putfield 42, 3) := by decide +kernel
theorem dX4_init_92 : decode cX4_init 92 = .ok (.aload_n 0, 1) := by decide +kernel
theorem dX4_init_93 : decode cX4_init 93 = .ok (.iload_n 1, 1) := by decide +kernel
theorem dX4_init_94 : decode cX4_init 94 = .ok (.iconst 1, 1) := by decide +kernel
theorem dX4_init_95 : decode cX4_init 95 = .ok (.if_icmp .lt 12, 3) := by decide +kernel
theorem dX4_init_98 : decode cX4_init 98 = .ok (.iload_n 1, 1) := by decide +kernel
theorem dX4_init_99 : decode cX4_init 99 = .ok (.iconst 4, 1) := by decide +kernel
theorem dX4_init_100 : decode cX4_init 100 = .ok (.if_icmp .gt 7, 3) := by decide +kernel
theorem dX4_init_103 : decode cX4_init 103 = .ok (.iload_n 1, 1) := by decide +kernel
theorem dX4_init_104 : decode cX4_init 104 = .ok (.goto 4, 3) := by decide +kernel
theorem dX4_init_107 : decode cX4_init 107 = .ok (.iconst 1, 1) := by decide +kernel
theorem dX4_init_108 : decode cX4_init 108 = .ok (.putfield 45, 3) := by decide +kernel
theorem dX4_init_111 : decode cX4_init 111 = .ok (.iconst 0, 1) := by decide +kernel
theorem dX4_init_112 : decode cX4_init 112 = .ok (.istore_n 2, 1) := by decide +kernel
theorem dX4_init_113 : decode cX4_init 113 = .ok (.iload_n 2, 1) := by decide +kernel
theorem dX4_init_114 : decode cX4_init 114 = .ok (.bipush 8, 2) := by decide +kernel
theorem dX4_init_116 : decode cX4_init 116 = .ok (.if_icmp .ge 18, 3) := by decide +kernel
theorem dX4_init_119 : decode cX4_init 119 = .ok (.aload_n 0, 1) := by decide +kernel
theorem dX4_init_120 : decode cX4_init 120 = .ok (.getfield 13, 3) := by decide +kernel
theorem dX4_init_123 : decode cX4_init 123 = .ok (.iload_n 2, 1) := by decide +kernel
theorem dX4_init_124 : decode cX4_init 124 = .ok (.sipush 255, 3) := by decide +kernel
theorem dX4_init_127 : decode cX4_init 127 = .ok (.iastore, 1) := by decide +kernel
theorem dX4_init_128 : decode cX4_init 128 = .ok (.iinc 2 1, 3) := by decide +kernel
theorem dX4_init_131 : decode cX4_init 131 = .ok (.goto (-18), 3) := by decide +kernel
theorem dX4_init_134 : decode cX4_init 134 = .ok (.return_, 1) := by decide +kernel
theorem dX4_thrown_0 : decode cX4_thrown 0 = .ok (.aload_n 0, 1) := by decide +kernel
theorem dX4_thrown_1 : decode cX4_thrown 1 = .ok (.getfield 49, 3) := by decide +kernel
theorem dX4_thrown_4 : decode cX4_thrown 4 = .ok (.ireturn, 1) := by decide +kernel
theorem dX4_isByte_0 : decode cX4_isByte 0 = .ok (.iload_n 0, 1) := by decide +kernel
theorem dX4_isByte_1 : decode cX4_isByte 1 = .ok (.ifCond .lt 14, 3) := by decide +kernel
theorem dX4_isByte_4 : decode cX4_isByte 4 = .ok (.iload_n 0, 1) := by decide +kernel
theorem dX4_isByte_5 : decode cX4_isByte 5 = .ok (.sipush 255, 3) := by decide +kernel
theorem dX4_isByte_8 : decode cX4_isByte 8 = .ok (.if_icmp .gt 7, 3) := by decide +kernel
theorem dX4_isByte_11 : decode cX4_isByte 11 = .ok (.iconst 1, 1) := by decide +kernel
theorem dX4_isByte_12 : decode cX4_isByte 12 = .ok (.goto 4, 3) := by decide +kernel
theorem dX4_isByte_15 : decode cX4_isByte 15 = .ok (.iconst 0, 1) := by decide +kernel
theorem dX4_isByte_16 : decode cX4_isByte 16 = .ok (.ireturn, 1) := by decide +kernel
theorem dX4_isChannel_0 : decode cX4_isChannel 0 = .ok (.iload_n 0, 1) := by decide +kernel
theorem dX4_isChannel_1 : decode cX4_isChannel 1 = .ok (.ifCond .lt 13, 3) := by decide +kernel
theorem dX4_isChannel_4 : decode cX4_isChannel 4 = .ok (.iload_n 0, 1) := by decide +kernel
theorem dX4_isChannel_5 : decode cX4_isChannel 5 = .ok (.bipush 8, 2) := by decide +kernel
theorem dX4_isChannel_7 : decode cX4_isChannel 7 = .ok (.if_icmp .ge 7, 3) := by decide +kernel
theorem dX4_isChannel_10 : decode cX4_isChannel 10 = .ok (.iconst 1, 1) := by decide +kernel
theorem dX4_isChannel_11 : decode cX4_isChannel 11 = .ok (.goto 4, 3) := by decide +kernel
theorem dX4_isChannel_14 : decode cX4_isChannel 14 = .ok (.iconst 0, 1) := by decide +kernel
theorem dX4_isChannel_15 : decode cX4_isChannel 15 = .ok (.ireturn, 1) := by decide +kernel
theorem dX4_isKind_0 : decode cX4_isKind 0 = .ok (.iload_n 1, 1) := by decide +kernel
theorem dX4_isKind_1 : decode cX4_isKind 1 = .ok (.ifCond .lt 15, 3) := by decide +kernel
theorem dX4_isKind_4 : decode cX4_isKind 4 = .ok (.iload_n 1, 1) := by decide +kernel
theorem dX4_isKind_5 : decode cX4_isKind 5 = .ok (.aload_n 0, 1) := by decide +kernel
theorem dX4_isKind_6 : decode cX4_isKind 6 = .ok (.getfield 45, 3) := by decide +kernel
theorem dX4_isKind_9 : decode cX4_isKind 9 = .ok (.if_icmp .ge 7, 3) := by decide +kernel
theorem dX4_isKind_12 : decode cX4_isKind 12 = .ok (.iconst 1, 1) := by decide +kernel
theorem dX4_isKind_13 : decode cX4_isKind 13 = .ok (.goto 4, 3) := by decide +kernel
theorem dX4_isKind_16 : decode cX4_isKind 16 = .ok (.iconst 0, 1) := by decide +kernel
theorem dX4_isKind_17 : decode cX4_isKind 17 = .ok (.ireturn, 1) := by decide +kernel
set_option maxRecDepth 20000 in
theorem ggX4_white_X4_isChannel : GoodIn wsX4_white wsX4_isChannel := goodIn_r _ [6] (by decide +kernel) (by decide +kernel)
set_option maxRecDepth 20000 in
theorem gX4_white_X4_isChannel : GoodIn wsX4_white (va_wsS RX4 52 yX4_isChannel wsX4_isChannel) := goodIn_app (goodIn_of _ (by decide +kernel)) ggX4_white_X4_isChannel
set_option maxRecDepth 20000 in
theorem ggX4_white_X4_isByte : GoodIn wsX4_white wsX4_isByte := goodIn_r _ [9] (by decide +kernel) (by decide +kernel)
set_option maxRecDepth 20000 in
theorem gX4_white_X4_isByte : GoodIn wsX4_white (va_wsS RX4 56 yX4_isByte wsX4_isByte) := goodIn_app (goodIn_of _ (by decide +kernel)) ggX4_white_X4_isByte
theorem dX4_white_0 : decode cX4_white 0 = .ok (.aload_n 0, 1) := by decide +kernel
theorem dX4_white_1 : decode cX4_white 1 = .ok (.iload_n 1, 1) := by decide +kernel
theorem dX4_white_2 : decode cX4_white 2 = .ok (.invokestatic 52, 3) := by decide +kernel
theorem dX4_white_5 : decode cX4_white 5 = .ok (.ifCond .eq 7, 3) := by decide +kernel
theorem dX4_white_8 : decode cX4_white 8 = .ok (.iconst 0, 1) := by decide +kernel
theorem dX4_white_9 : decode cX4_white 9 = .ok (.goto 4, 3) := by decide +kernel
theorem dX4_white_12 : decode cX4_white 12 = .ok (.iconst 1, 1) := by decide +kernel
theorem dX4_white_13 : decode cX4_white 13 = .ok (.putfield 49, 3) := by decide +kernel
theorem dX4_white_16 : decode cX4_white 16 = .ok (.aload_n 0, 1) := by decide +kernel
theorem dX4_white_17 : decode cX4_white 17 = .ok (.getfield 49, 3) := by decide +kernel
theorem dX4_white_20 : decode cX4_white 20 = .ok (.ifCond .gt 10, 3) := by decide +kernel
theorem dX4_white_23 : decode cX4_white 23 = .ok (.iload_n 2, 1) := by decide +kernel
theorem dX4_white_24 : decode cX4_white 24 = .ok (.invokestatic 56, 3) := by decide +kernel
theorem dX4_white_27 : decode cX4_white 27 = .ok (.ifCond .ne 5, 3) := by decide +kernel
theorem dX4_white_30 : decode cX4_white 30 = .ok (.iconst 0, 1) := by decide +kernel
theorem dX4_white_31 : decode cX4_white 31 = .ok (.ireturn, 1) := by decide +kernel
theorem dX4_white_32 : decode cX4_white 32 = .ok (.aload_n 0, 1) := by decide +kernel
theorem dX4_white_33 : decode cX4_white 33 = .ok (.getfield 13, 3) := by decide +kernel
theorem dX4_white_36 : decode cX4_white 36 = .ok (.iload_n 1, 1) := by decide +kernel
theorem dX4_white_37 : decode cX4_white 37 = .ok (.iload_n 2, 1) := by decide +kernel
theorem dX4_white_38 : decode cX4_white 38 = .ok (.iastore, 1) := by decide +kernel
theorem dX4_white_39 : decode cX4_white 39 = .ok (.iconst 1, 1) := by decide +kernel
theorem dX4_white_40 : decode cX4_white 40 = .ok (.ireturn, 1) := by decide +kernel
set_option maxRecDepth 20000 in
theorem ggX4_dark_X4_isChannel : GoodIn wsX4_dark wsX4_isChannel := goodIn_r _ [6] (by decide +kernel) (by decide +kernel)
set_option maxRecDepth 20000 in
theorem gX4_dark_X4_isChannel : GoodIn wsX4_dark (va_wsS RX4 52 yX4_isChannel wsX4_isChannel) := goodIn_app (goodIn_of _ (by decide +kernel)) ggX4_dark_X4_isChannel
set_option maxRecDepth 20000 in
theorem ggX4_dark_X4_isByte : GoodIn wsX4_dark wsX4_isByte := goodIn_r _ [9] (by decide +kernel) (by decide +kernel)
set_option maxRecDepth 20000 in
theorem gX4_dark_X4_isByte : GoodIn wsX4_dark (va_wsS RX4 56 yX4_isByte wsX4_isByte) := goodIn_app (goodIn_of _ (by decide +kernel)) ggX4_dark_X4_isByte
theorem dX4_dark_0 : decode cX4_dark 0 = .ok (.aload_n 0, 1) := by decide +kernel
theorem dX4_dark_1 : decode cX4_dark 1 = .ok (.iconst 0, 1) := by decide +kernel
theorem dX4_dark_2 : decode cX4_dark 2 = .ok (.putfield 49, 3) := by decide +kernel
theorem dX4_dark_5 : decode cX4_dark 5 = .ok (.iload_n 1, 1) := by decide +kernel
theorem dX4_dark_6 : decode cX4_dark 6 = .ok (.invokestatic 52, 3) := by decide +kernel
theorem dX4_dark_9 : decode cX4_dark 9 = .ok (.ifCond .eq 10, 3) := by decide +kernel
theorem dX4_dark_12 : decode cX4_dark 12 = .ok (.iload_n 2, 1) := by decide +kernel
theorem dX4_dark_13 : decode cX4_dark 13 = .ok (.invokestatic 56, 3) := by decide +kernel
theorem dX4_dark_16 : decode cX4_dark 16 = .ok (.ifCond .ne 5, 3) := by decide +kernel
theorem dX4_dark_19 : decode cX4_dark 19 = .ok (.iconst 0, 1) := by decide +kernel
theorem dX4_dark_20 : decode cX4_dark 20 = .ok (.ireturn, 1) := by decide +kernel
theorem dX4_dark_21 : decode cX4_dark 21 = .ok (.aload_n 0, 1) := by decide +kernel
theorem dX4_dark_22 : decode cX4_dark 22 = .ok (.getfield 7, 3) := by decide +kernel
theorem dX4_dark_25 : decode cX4_dark 25 = .ok (.iload_n 1, 1) := by decide +kernel
theorem dX4_dark_26 : decode cX4_dark 26 = .ok (.iload_n 2, 1) := by decide +kernel
theorem dX4_dark_27 : decode cX4_dark 27 = .ok (.iastore, 1) := by decide +kernel
theorem dX4_dark_28 : decode cX4_dark 28 = .ok (.iconst 1, 1) := by decide +kernel
theorem dX4_dark_29 : decode cX4_dark 29 = .ok (.ireturn, 1) := by decide +kernel
set_option maxRecDepth 20000 in
theorem ggX4_value_X4_isChannel : GoodIn wsX4_value wsX4_isChannel := goodIn_r _ [6] (by decide +kernel) (by decide +kernel)
set_option maxRecDepth 20000 in
theorem gX4_value_X4_isChannel : GoodIn wsX4_value (va_wsS RX4 52 yX4_isChannel wsX4_isChannel) := goodIn_app (goodIn_of _ (by decide +kernel)) ggX4_value_X4_isChannel
set_option maxRecDepth 20000 in
theorem ggX4_value_X4_isByte : GoodIn wsX4_value wsX4_isByte := goodIn_r _ [9] (by decide +kernel) (by decide +kernel)
set_option maxRecDepth 20000 in
theorem gX4_value_X4_isByte : GoodIn wsX4_value (va_wsS RX4 56 yX4_isByte wsX4_isByte) := goodIn_app (goodIn_of _ (by decide +kernel)) ggX4_value_X4_isByte
theorem dX4_value_0 : decode cX4_value 0 = .ok (.aload_n 0, 1) := by decide +kernel
theorem dX4_value_1 : decode cX4_value 1 = .ok (.iconst 0, 1) := by decide +kernel
theorem dX4_value_2 : decode cX4_value 2 = .ok (.putfield 49, 3) := by decide +kernel
theorem dX4_value_5 : decode cX4_value 5 = .ok (.iload_n 1, 1) := by decide +kernel
theorem dX4_value_6 : decode cX4_value 6 = .ok (.invokestatic 52, 3) := by decide +kernel
theorem dX4_value_9 : decode cX4_value 9 = .ok (.ifCond .eq 10, 3) := by decide +kernel
theorem dX4_value_12 : decode cX4_value 12 = .ok (.iload_n 2, 1) := by decide +kernel
theorem dX4_value_13 : decode cX4_value 13 = .ok (.invokestatic 56, 3) := by decide +kernel
theorem dX4_value_16 : decode cX4_value 16 = .ok (.ifCond .ne 5, 3) := by decide +kernel
theorem dX4_value_19 : decode cX4_value 19 = .ok (.iconst 0, 1) := by decide +kernel
theorem dX4_value_20 : decode cX4_value 20 = .ok (.ireturn, 1) := by decide +kernel
theorem dX4_value_21 : decode cX4_value 21 = .ok (.aload_n 0, 1) := by decide +kernel
theorem dX4_value_22 : decode cX4_value 22 = .ok (.getfield 16, 3) := by decide +kernel
theorem dX4_value_25 : decode cX4_value 25 = .ok (.iload_n 1, 1) := by decide +kernel
theorem dX4_value_26 : decode cX4_value 26 = .ok (.iload_n 2, 1) := by decide +kernel
theorem dX4_value_27 : decode cX4_value 27 = .ok (.iastore, 1) := by decide +kernel
theorem dX4_value_28 : decode cX4_value 28 = .ok (.iconst 1, 1) := by decide +kernel
theorem dX4_value_29 : decode cX4_value 29 = .ok (.ireturn, 1) := by decide +kernel
set_option maxRecDepth 20000 in
theorem ggX4_reference_X4_isChannel : GoodIn wsX4_reference wsX4_isChannel := goodIn_r _ [7] (by decide +kernel) (by decide +kernel)
set_option maxRecDepth 20000 in
theorem gX4_reference_X4_isChannel : GoodIn wsX4_reference (va_wsS RX4 52 yX4_isChannel wsX4_isChannel) := goodIn_app (goodIn_of _ (by decide +kernel)) ggX4_reference_X4_isChannel
set_option maxRecDepth 20000 in
theorem ggX4_reference_X4_isByte : GoodIn wsX4_reference wsX4_isByte := goodIn_r _ [10] (by decide +kernel) (by decide +kernel)
set_option maxRecDepth 20000 in
theorem gX4_reference_X4_isByte : GoodIn wsX4_reference (va_wsS RX4 56 yX4_isByte wsX4_isByte) := goodIn_app (goodIn_of _ (by decide +kernel)) ggX4_reference_X4_isByte
theorem dX4_reference_0 : decode cX4_reference 0 = .ok (.aload_n 0, 1) := by decide +kernel
theorem dX4_reference_1 : decode cX4_reference 1 = .ok (.iconst 0, 1) := by decide +kernel
theorem dX4_reference_2 : decode cX4_reference 2 = .ok (.putfield 49, 3) := by decide +kernel
theorem dX4_reference_5 : decode cX4_reference 5 = .ok (.iload_n 1, 1) := by decide +kernel
theorem dX4_reference_6 : decode cX4_reference 6 = .ok (.invokestatic 52, 3) := by decide +kernel
theorem dX4_reference_9 : decode cX4_reference 9 = .ok (.ifCond .eq 19, 3) := by decide +kernel
theorem dX4_reference_12 : decode cX4_reference 12 = .ok (.iload_n 2, 1) := by decide +kernel
theorem dX4_reference_13 : decode cX4_reference 13 = .ok (.invokestatic 56, 3) := by decide +kernel
theorem dX4_reference_16 : decode cX4_reference 16 = .ok (.ifCond .eq 12, 3) := by decide +kernel
theorem dX4_reference_19 : decode cX4_reference 19 = .ok (.lload_n 3, 1) := by decide +kernel
theorem dX4_reference_20 : decode cX4_reference 20 = .ok (.aload_n 0, 1) := by decide +kernel
theorem dX4_reference_21 : decode cX4_reference 21 = .ok (.getfield 59, 3) := by decide +kernel
theorem dX4_reference_24 : decode cX4_reference 24 = .ok (.lcmp, 1) := by decide +kernel
theorem dX4_reference_25 : decode cX4_reference 25 = .ok (.ifCond .gt 5, 3) := by decide +kernel
theorem dX4_reference_28 : decode cX4_reference 28 = .ok (.iconst 0, 1) := by decide +kernel
theorem dX4_reference_29 : decode cX4_reference 29 = .ok (.ireturn, 1) := by decide +kernel
theorem dX4_reference_30 : decode cX4_reference 30 = .ok (.aload_n 0, 1) := by decide +kernel
theorem dX4_reference_31 : decode cX4_reference 31 = .ok (.lload_n 3, 1) := by decide +kernel
theorem dX4_reference_32 : decode cX4_reference 32 = .ok (.putfield 59, 3) := by decide +kernel
theorem dX4_reference_35 : decode cX4_reference 35 = .ok (.aload_n 0, 1) := by decide +kernel
theorem dX4_reference_36 : decode cX4_reference 36 = .ok (.getfield 13, 3) := by decide +kernel
theorem dX4_reference_39 : decode cX4_reference 39 = .ok (.iload_n 1, 1) := by decide +kernel
theorem dX4_reference_40 : decode cX4_reference 40 = .ok (.iload_n 2, 1) := by decide +kernel
theorem dX4_reference_41 : decode cX4_reference 41 = .ok (.iastore, 1) := by decide +kernel
theorem dX4_reference_42 : decode cX4_reference 42 = .ok (.iconst 1, 1) := by decide +kernel
theorem dX4_reference_43 : decode cX4_reference 43 = .ok (.ireturn, 1) := by decide +kernel
theorem dX4_evened_0 : decode cX4_evened 0 = .ok (.aload_n 0, 1) := by decide +kernel
theorem dX4_evened_1 : decode cX4_evened 1 = .ok (.getfield 13, 3) := by decide +kernel
theorem dX4_evened_4 : decode cX4_evened 4 = .ok (.iload_n 1, 1) := by decide +kernel
theorem dX4_evened_5 : decode cX4_evened 5 = .ok (.iaload, 1) := by decide +kernel
theorem dX4_evened_6 : decode cX4_evened 6 = .ok (.aload_n 0, 1) := by decide +kernel
theorem dX4_evened_7 : decode cX4_evened 7 = .ok (.getfield 7, 3) := by decide +kernel
theorem dX4_evened_10 : decode cX4_evened 10 = .ok (.iload_n 1, 1) := by decide +kernel
theorem dX4_evened_11 : decode cX4_evened 11 = .ok (.iaload, 1) := by decide +kernel
theorem dX4_evened_12 : decode cX4_evened 12 = .ok (.if_icmp .le 18, 3) := by decide +kernel
theorem dX4_evened_15 : decode cX4_evened 15 = .ok (.aload_n 0, 1) := by decide +kernel
theorem dX4_evened_16 : decode cX4_evened 16 = .ok (.getfield 16, 3) := by decide +kernel
theorem dX4_evened_19 : decode cX4_evened 19 = .ok (.iload_n 1, 1) := by decide +kernel
theorem dX4_evened_20 : decode cX4_evened 20 = .ok (.iaload, 1) := by decide +kernel
theorem dX4_evened_21 : decode cX4_evened 21 = .ok (.aload_n 0, 1) := by decide +kernel
theorem dX4_evened_22 : decode cX4_evened 22 = .ok (.getfield 7, 3) := by decide +kernel
theorem dX4_evened_25 : decode cX4_evened 25 = .ok (.iload_n 1, 1) := by decide +kernel
theorem dX4_evened_26 : decode cX4_evened 26 = .ok (.iaload, 1) := by decide +kernel
theorem dX4_evened_27 : decode cX4_evened 27 = .ok (.if_icmp .gt 5, 3) := by decide +kernel
theorem dX4_evened_30 : decode cX4_evened 30 = .ok (.iconst 0, 1) := by decide +kernel
theorem dX4_evened_31 : decode cX4_evened 31 = .ok (.ireturn, 1) := by decide +kernel
theorem dX4_evened_32 : decode cX4_evened 32 = .ok (.sipush 256, 3) := by decide +kernel
theorem dX4_evened_35 : decode cX4_evened 35 = .ok (.aload_n 0, 1) := by decide +kernel
theorem dX4_evened_36 : decode cX4_evened 36 = .ok (.getfield 16, 3) := by decide +kernel
theorem dX4_evened_39 : decode cX4_evened 39 = .ok (.iload_n 1, 1) := by decide +kernel
theorem dX4_evened_40 : decode cX4_evened 40 = .ok (.iaload, 1) := by decide +kernel
theorem dX4_evened_41 : decode cX4_evened 41 = .ok (.aload_n 0, 1) := by decide +kernel
theorem dX4_evened_42 : decode cX4_evened 42 = .ok (.getfield 7, 3) := by decide +kernel
theorem dX4_evened_45 : decode cX4_evened 45 = .ok (.iload_n 1, 1) := by decide +kernel
theorem dX4_evened_46 : decode cX4_evened 46 = .ok (.iaload, 1) := by decide +kernel
theorem dX4_evened_47 : decode cX4_evened 47 = .ok (.isub, 1) := by decide +kernel
theorem dX4_evened_48 : decode cX4_evened 48 = .ok (.imul, 1) := by decide +kernel
theorem dX4_evened_49 : decode cX4_evened 49 = .ok (.aload_n 0, 1) := by decide +kernel
theorem dX4_evened_50 : decode cX4_evened 50 = .ok (.getfield 13, 3) := by decide +kernel
theorem dX4_evened_53 : decode cX4_evened 53 = .ok (.iload_n 1, 1) := by decide +kernel
theorem dX4_evened_54 : decode cX4_evened 54 = .ok (.iaload, 1) := by decide +kernel
theorem dX4_evened_55 : decode cX4_evened 55 = .ok (.aload_n 0, 1) := by decide +kernel
theorem dX4_evened_56 : decode cX4_evened 56 = .ok (.getfield 7, 3) := by decide +kernel
theorem dX4_evened_59 : decode cX4_evened 59 = .ok (.iload_n 1, 1) := by decide +kernel
theorem dX4_evened_60 : decode cX4_evened 60 = .ok (.iaload, 1) := by decide +kernel
theorem dX4_evened_61 : decode cX4_evened 61 = .ok (.isub, 1) := by decide +kernel
theorem dX4_evened_62 : decode cX4_evened 62 = .ok (.idiv, 1) := by decide +kernel
theorem dX4_evened_63 : decode cX4_evened 63 = .ok (.istore_n 2, 1) := by decide +kernel
theorem dX4_evened_64 : decode cX4_evened 64 = .ok (.iload_n 2, 1) := by decide +kernel
theorem dX4_evened_65 : decode cX4_evened 65 = .ok (.sipush 255, 3) := by decide +kernel
theorem dX4_evened_68 : decode cX4_evened 68 = .ok (.if_icmp .le 9, 3) := by decide +kernel
theorem dX4_evened_71 : decode cX4_evened 71 = .ok (.sipush 255, 3) := by decide +kernel
theorem dX4_evened_74 : decode cX4_evened 74 = .ok (.goto 4, 3) := by decide +kernel
theorem dX4_evened_77 : decode cX4_evened 77 = .ok (.iload_n 2, 1) := by decide +kernel
theorem dX4_evened_78 : decode cX4_evened 78 = .ok (.ireturn, 1) := by decide +kernel
set_option maxRecDepth 20000 in
theorem ggX4_takeNow_X4_evened : GoodIn wsX4_takeNow wsX4_evened := goodIn_r _ [6, 7, 8, 9, 10, 11, 12, 13, 14, 15, 16, 17, 18, 19, 20, 21, 22, 23, 24, 25, 26] (by decide +kernel) (by decide +kernel)
set_option maxRecDepth 20000 in
theorem gX4_takeNow_X4_evened : GoodIn wsX4_takeNow (wsV RX4 62 RX4 yX4_evened wsX4_evened) := goodIn_app (goodIn_of _ (by decide +kernel)) ggX4_takeNow_X4_evened
theorem dX4_takeNow_0 : decode cX4_takeNow 0 = .ok (.iconst 0, 1) := by decide +kernel
theorem dX4_takeNow_1 : decode cX4_takeNow 1 = .ok (.istore_n 1, 1) := by decide +kernel
theorem dX4_takeNow_2 : decode cX4_takeNow 2 = .ok (.iload_n 1, 1) := by decide +kernel
theorem dX4_takeNow_3 : decode cX4_takeNow 3 = .ok (.bipush 8, 2) := by decide +kernel
theorem dX4_takeNow_5 : decode cX4_takeNow 5 = .ok (.if_icmp .ge 20, 3) := by decide +kernel
theorem dX4_takeNow_8 : decode cX4_takeNow 8 = .ok (.aload_n 0, 1) := by decide +kernel
theorem dX4_takeNow_9 : decode cX4_takeNow 9 = .ok (.getfield 39, 3) := by decide +kernel
theorem dX4_takeNow_12 : decode cX4_takeNow 12 = .ok (.iload_n 1, 1) := by decide +kernel
theorem dX4_takeNow_13 : decode cX4_takeNow 13 = .ok (.aload_n 0, 1) := by decide +kernel
theorem dX4_takeNow_14 : decode cX4_takeNow 14 = .ok (.iload_n 1, 1) := by decide +kernel
theorem dX4_takeNow_15 : decode cX4_takeNow 15 = .ok (.invokevirtual 62, 3) := by decide +kernel
theorem dX4_takeNow_18 : decode cX4_takeNow 18 = .ok (.iastore, 1) := by decide +kernel
theorem dX4_takeNow_19 : decode cX4_takeNow 19 = .ok (.iinc 1 1, 3) := by decide +kernel
theorem dX4_takeNow_22 : decode cX4_takeNow 22 = .ok (.goto (-20), 3) := by decide +kernel
theorem dX4_takeNow_25 : decode cX4_takeNow 25 = .ok (.return_, 1) := by decide +kernel
theorem dX4_takeTaught_0 : decode cX4_takeTaught 0 = .ok (.iconst 0, 1) := by decide +kernel
theorem dX4_takeTaught_1 : decode cX4_takeTaught 1 = .ok (.istore_n 2, 1) := by decide +kernel
theorem dX4_takeTaught_2 : decode cX4_takeTaught 2 = .ok (.iload_n 2, 1) := by decide +kernel
theorem dX4_takeTaught_3 : decode cX4_takeTaught 3 = .ok (.bipush 8, 2) := by decide +kernel
theorem dX4_takeTaught_5 : decode cX4_takeTaught 5 = .ok (.if_icmp .ge 26, 3) := by decide +kernel
theorem dX4_takeTaught_8 : decode cX4_takeTaught 8 = .ok (.aload_n 0, 1) := by decide +kernel
theorem dX4_takeTaught_9 : decode cX4_takeTaught 9 = .ok (.getfield 39, 3) := by decide +kernel
theorem dX4_takeTaught_12 : decode cX4_takeTaught 12 = .ok (.iload_n 2, 1) := by decide +kernel
theorem dX4_takeTaught_13 : decode cX4_takeTaught 13 = .ok (.aload_n 0, 1) := by decide +kernel
theorem dX4_takeTaught_14 : decode cX4_takeTaught 14 = .ok (.getfield 22, 3) := by decide +kernel
end
section
theorem dX4_takeTaught_17 : decode cX4_takeTaught 17 = .ok (.bipush 8, 2) := by decide +kernel
theorem dX4_takeTaught_19 : decode cX4_takeTaught 19 = .ok (.iload_n 1, 1) := by decide +kernel
theorem dX4_takeTaught_20 : decode cX4_takeTaught 20 = .ok (.imul, 1) := by decide +kernel
theorem dX4_takeTaught_21 : decode cX4_takeTaught 21 = .ok (.iload_n 2, 1) := by decide +kernel
theorem dX4_takeTaught_22 : decode cX4_takeTaught 22 = .ok (.iadd, 1) := by decide +kernel
theorem dX4_takeTaught_23 : decode cX4_takeTaught 23 = .ok (.iaload, 1) := by decide +kernel
theorem dX4_takeTaught_24 : decode cX4_takeTaught 24 = .ok (.iastore, 1) := by decide +kernel
theorem dX4_takeTaught_25 : decode cX4_takeTaught 25 = .ok (.iinc 2 1, 3) := by decide +kernel
theorem dX4_takeTaught_28 : decode cX4_takeTaught 28 = .ok (.goto (-26), 3) := by decide +kernel
theorem dX4_takeTaught_31 : decode cX4_takeTaught 31 = .ok (.return_, 1) := by decide +kernel
theorem dX4_sumOf_0 : decode cX4_sumOf 0 = .ok (.lconst 0, 1) := by decide +kernel
theorem dX4_sumOf_1 : decode cX4_sumOf 1 = .ok (.lstore_n 3, 1) := by decide +kernel
theorem dX4_sumOf_2 : decode cX4_sumOf 2 = .ok (.iconst 0, 1) := by decide +kernel
theorem dX4_sumOf_3 : decode cX4_sumOf 3 = .ok (.istore 5, 2) := by decide +kernel
theorem dX4_sumOf_5 : decode cX4_sumOf 5 = .ok (.iload 5, 2) := by decide +kernel
theorem dX4_sumOf_7 : decode cX4_sumOf 7 = .ok (.bipush 7, 2) := by decide +kernel
theorem dX4_sumOf_9 : decode cX4_sumOf 9 = .ok (.if_icmp .ge 156, 3) := by decide +kernel
theorem dX4_sumOf_12 : decode cX4_sumOf 12 = .ok (.aload_n 0, 1) := by decide +kernel
theorem dX4_sumOf_13 : decode cX4_sumOf 13 = .ok (.getfield 39, 3) := by decide +kernel
theorem dX4_sumOf_16 : decode cX4_sumOf 16 = .ok (.iload 5, 2) := by decide +kernel
theorem dX4_sumOf_18 : decode cX4_sumOf 18 = .ok (.iconst 1, 1) := by decide +kernel
theorem dX4_sumOf_19 : decode cX4_sumOf 19 = .ok (.iadd, 1) := by decide +kernel
theorem dX4_sumOf_20 : decode cX4_sumOf 20 = .ok (.iaload, 1) := by decide +kernel
theorem dX4_sumOf_21 : decode cX4_sumOf 21 = .ok (.aload_n 0, 1) := by decide +kernel
theorem dX4_sumOf_22 : decode cX4_sumOf 22 = .ok (.getfield 39, 3) := by decide +kernel
theorem dX4_sumOf_25 : decode cX4_sumOf 25 = .ok (.iload 5, 2) := by decide +kernel
theorem dX4_sumOf_27 : decode cX4_sumOf 27 = .ok (.iaload, 1) := by decide +kernel
theorem dX4_sumOf_28 : decode cX4_sumOf 28 = .ok (.isub, 1) := by decide +kernel
theorem dX4_sumOf_29 : decode cX4_sumOf 29 = .ok (.sipush 256, 3) := by decide +kernel
theorem dX4_sumOf_32 : decode cX4_sumOf 32 = .ok (.iadd, 1) := by decide +kernel
theorem dX4_sumOf_33 : decode cX4_sumOf 33 = .ok (.bipush 64, 2) := by decide +kernel
theorem dX4_sumOf_35 : decode cX4_sumOf 35 = .ok (.idiv, 1) := by decide +kernel
theorem dX4_sumOf_36 : decode cX4_sumOf 36 = .ok (.istore 6, 2) := by decide +kernel
theorem dX4_sumOf_38 : decode cX4_sumOf 38 = .ok (.iconst 0, 1) := by decide +kernel
theorem dX4_sumOf_39 : decode cX4_sumOf 39 = .ok (.istore 7, 2) := by decide +kernel
theorem dX4_sumOf_41 : decode cX4_sumOf 41 = .ok (.iconst 0, 1) := by decide +kernel
theorem dX4_sumOf_42 : decode cX4_sumOf 42 = .ok (.istore 8, 2) := by decide +kernel
theorem dX4_sumOf_44 : decode cX4_sumOf 44 = .ok (.iconst 0, 1) := by decide +kernel
theorem dX4_sumOf_45 : decode cX4_sumOf 45 = .ok (.istore 9, 2) := by decide +kernel
theorem dX4_sumOf_47 : decode cX4_sumOf 47 = .ok (.iload 9, 2) := by decide +kernel
theorem dX4_sumOf_49 : decode cX4_sumOf 49 = .ok (.aload_n 0, 1) := by decide +kernel
theorem dX4_sumOf_50 : decode cX4_sumOf 50 = .ok (.getfield 66, 3) := by decide +kernel
theorem dX4_sumOf_53 : decode cX4_sumOf 53 = .ok (.if_icmp .ge 84, 3) := by decide +kernel
theorem dX4_sumOf_56 : decode cX4_sumOf 56 = .ok (.iload 9, 2) := by decide +kernel
theorem dX4_sumOf_58 : decode cX4_sumOf 58 = .ok (.iload_n 2, 1) := by decide +kernel
theorem dX4_sumOf_59 : decode cX4_sumOf 59 = .ok (.if_icmp .eq 72, 3) := by decide +kernel
theorem dX4_sumOf_62 : decode cX4_sumOf 62 = .ok (.aload_n 0, 1) := by decide +kernel
theorem dX4_sumOf_63 : decode cX4_sumOf 63 = .ok (.getfield 19, 3) := by decide +kernel
theorem dX4_sumOf_66 : decode cX4_sumOf 66 = .ok (.iload 9, 2) := by decide +kernel
theorem dX4_sumOf_68 : decode cX4_sumOf 68 = .ok (.iaload, 1) := by decide +kernel
theorem dX4_sumOf_69 : decode cX4_sumOf 69 = .ok (.iload_n 1, 1) := by decide +kernel
theorem dX4_sumOf_70 : decode cX4_sumOf 70 = .ok (.if_icmp .ne 61, 3) := by decide +kernel
theorem dX4_sumOf_73 : decode cX4_sumOf 73 = .ok (.aload_n 0, 1) := by decide +kernel
theorem dX4_sumOf_74 : decode cX4_sumOf 74 = .ok (.getfield 22, 3) := by decide +kernel
theorem dX4_sumOf_77 : decode cX4_sumOf 77 = .ok (.bipush 8, 2) := by decide +kernel
theorem dX4_sumOf_79 : decode cX4_sumOf 79 = .ok (.iload 9, 2) := by decide +kernel
theorem dX4_sumOf_81 : decode cX4_sumOf 81 = .ok (.imul, 1) := by decide +kernel
theorem dX4_sumOf_82 : decode cX4_sumOf 82 = .ok (.iload 5, 2) := by decide +kernel
theorem dX4_sumOf_84 : decode cX4_sumOf 84 = .ok (.iadd, 1) := by decide +kernel
theorem dX4_sumOf_85 : decode cX4_sumOf 85 = .ok (.iconst 1, 1) := by decide +kernel
theorem dX4_sumOf_86 : decode cX4_sumOf 86 = .ok (.iadd, 1) := by decide +kernel
theorem dX4_sumOf_87 : decode cX4_sumOf 87 = .ok (.iaload, 1) := by decide +kernel
theorem dX4_sumOf_88 : decode cX4_sumOf 88 = .ok (.aload_n 0, 1) := by decide +kernel
theorem dX4_sumOf_89 : decode cX4_sumOf 89 = .ok (.getfield 22, 3) := by decide +kernel
theorem dX4_sumOf_92 : decode cX4_sumOf 92 = .ok (.bipush 8, 2) := by decide +kernel
theorem dX4_sumOf_94 : decode cX4_sumOf 94 = .ok (.iload 9, 2) := by decide +kernel
theorem dX4_sumOf_96 : decode cX4_sumOf 96 = .ok (.imul, 1) := by decide +kernel
theorem dX4_sumOf_97 : decode cX4_sumOf 97 = .ok (.iload 5, 2) := by decide +kernel
theorem dX4_sumOf_99 : decode cX4_sumOf 99 = .ok (.iadd, 1) := by decide +kernel
theorem dX4_sumOf_100 : decode cX4_sumOf 100 = .ok (.iaload, 1) := by decide +kernel
theorem dX4_sumOf_101 : decode cX4_sumOf 101 = .ok (.isub, 1) := by decide +kernel
theorem dX4_sumOf_102 : decode cX4_sumOf 102 = .ok (.sipush 256, 3) := by decide +kernel
theorem dX4_sumOf_105 : decode cX4_sumOf 105 = .ok (.iadd, 1) := by decide +kernel
theorem dX4_sumOf_106 : decode cX4_sumOf 106 = .ok (.bipush 64, 2) := by decide +kernel
theorem dX4_sumOf_108 : decode cX4_sumOf 108 = .ok (.idiv, 1) := by decide +kernel
theorem dX4_sumOf_109 : decode cX4_sumOf 109 = .ok (.istore 10, 2) := by decide +kernel
theorem dX4_sumOf_111 : decode cX4_sumOf 111 = .ok (.iload 7, 2) := by decide +kernel
theorem dX4_sumOf_113 : decode cX4_sumOf 113 = .ok (.iload 10, 2) := by decide +kernel
theorem dX4_sumOf_115 : decode cX4_sumOf 115 = .ok (.iload 6, 2) := by decide +kernel
theorem dX4_sumOf_117 : decode cX4_sumOf 117 = .ok (.if_icmp .ne 7, 3) := by decide +kernel
theorem dX4_sumOf_120 : decode cX4_sumOf 120 = .ok (.iconst 1, 1) := by decide +kernel
theorem dX4_sumOf_121 : decode cX4_sumOf 121 = .ok (.goto 4, 3) := by decide +kernel
theorem dX4_sumOf_124 : decode cX4_sumOf 124 = .ok (.iconst 0, 1) := by decide +kernel
theorem dX4_sumOf_125 : decode cX4_sumOf 125 = .ok (.iadd, 1) := by decide +kernel
theorem dX4_sumOf_126 : decode cX4_sumOf 126 = .ok (.istore 7, 2) := by decide +kernel
theorem dX4_sumOf_128 : decode cX4_sumOf 128 = .ok (.iinc 8 1, 3) := by decide +kernel
theorem dX4_sumOf_131 : decode cX4_sumOf 131 = .ok (.iinc 9 1, 3) := by decide +kernel
theorem dX4_sumOf_134 : decode cX4_sumOf 134 = .ok (.goto (-87), 3) := by decide +kernel
theorem dX4_sumOf_137 : decode cX4_sumOf 137 = .ok (.lload_n 3, 1) := by decide +kernel
theorem dX4_sumOf_138 : decode cX4_sumOf 138 = .ok (.iload 8, 2) := by decide +kernel
theorem dX4_sumOf_140 : decode cX4_sumOf 140 = .ok (.ifCond .le 16, 3) := by decide +kernel
theorem dX4_sumOf_143 : decode cX4_sumOf 143 = .ok (.sipush 1000, 3) := by decide +kernel
theorem dX4_sumOf_146 : decode cX4_sumOf 146 = .ok (.iload 7, 2) := by decide +kernel
theorem dX4_sumOf_148 : decode cX4_sumOf 148 = .ok (.imul, 1) := by decide +kernel
theorem dX4_sumOf_149 : decode cX4_sumOf 149 = .ok (.iload 8, 2) := by decide +kernel
theorem dX4_sumOf_151 : decode cX4_sumOf 151 = .ok (.idiv, 1) := by decide +kernel
theorem dX4_sumOf_152 : decode cX4_sumOf 152 = .ok (.i2l, 1) := by decide +kernel
theorem dX4_sumOf_153 : decode cX4_sumOf 153 = .ok (.goto 4, 3) := by decide +kernel
theorem dX4_sumOf_156 : decode cX4_sumOf 156 = .ok (.lconst 0, 1) := by decide +kernel
theorem dX4_sumOf_157 : decode cX4_sumOf 157 = .ok (.ladd, 1) := by decide +kernel
theorem dX4_sumOf_158 : decode cX4_sumOf 158 = .ok (.lstore_n 3, 1) := by decide +kernel
theorem dX4_sumOf_159 : decode cX4_sumOf 159 = .ok (.iinc 5 1, 3) := by decide +kernel
theorem dX4_sumOf_162 : decode cX4_sumOf 162 = .ok (.goto (-157), 3) := by decide +kernel
theorem dX4_sumOf_165 : decode cX4_sumOf 165 = .ok (.lload_n 3, 1) := by decide +kernel
theorem dX4_sumOf_166 : decode cX4_sumOf 166 = .ok (.lreturn, 1) := by decide +kernel
set_option maxRecDepth 20000 in
theorem ggX4_readRow_X4_sumOf : GoodIn wsX4_readRow wsX4_sumOf := goodIn_r _ [8, 9, 10, 11, 12, 13, 14, 15, 16, 17, 18, 19, 20, 21, 22, 23, 24, 25, 26, 27, 28, 29] (by decide +kernel) (by decide +kernel)
set_option maxRecDepth 20000 in
theorem gX4_readRow_X4_sumOf : GoodIn wsX4_readRow (wsV RX4 69 RX4 yX4_sumOf wsX4_sumOf) := goodIn_app (goodIn_of _ (by decide +kernel)) ggX4_readRow_X4_sumOf
theorem dX4_readRow_0 : decode cX4_readRow 0 = .ok (.iconst 0, 1) := by decide +kernel
theorem dX4_readRow_1 : decode cX4_readRow 1 = .ok (.istore_n 2, 1) := by decide +kernel
theorem dX4_readRow_2 : decode cX4_readRow 2 = .ok (.iconst 1, 1) := by decide +kernel
theorem dX4_readRow_3 : decode cX4_readRow 3 = .ok (.istore_n 3, 1) := by decide +kernel
theorem dX4_readRow_4 : decode cX4_readRow 4 = .ok (.iload_n 3, 1) := by decide +kernel
theorem dX4_readRow_5 : decode cX4_readRow 5 = .ok (.aload_n 0, 1) := by decide +kernel
theorem dX4_readRow_6 : decode cX4_readRow 6 = .ok (.getfield 45, 3) := by decide +kernel
theorem dX4_readRow_9 : decode cX4_readRow 9 = .ok (.if_icmp .ge 63, 3) := by decide +kernel
theorem dX4_readRow_12 : decode cX4_readRow 12 = .ok (.aload_n 0, 1) := by decide +kernel
theorem dX4_readRow_13 : decode cX4_readRow 13 = .ok (.iload_n 3, 1) := by decide +kernel
theorem dX4_readRow_14 : decode cX4_readRow 14 = .ok (.iload_n 1, 1) := by decide +kernel
theorem dX4_readRow_15 : decode cX4_readRow 15 = .ok (.invokevirtual 69, 3) := by decide +kernel
theorem dX4_readRow_18 : decode cX4_readRow 18 = .ok (.lstore 4, 2) := by decide +kernel
theorem dX4_readRow_20 : decode cX4_readRow 20 = .ok (.aload_n 0, 1) := by decide +kernel
theorem dX4_readRow_21 : decode cX4_readRow 21 = .ok (.iload_n 2, 1) := by decide +kernel
theorem dX4_readRow_22 : decode cX4_readRow 22 = .ok (.iload_n 1, 1) := by decide +kernel
theorem dX4_readRow_23 : decode cX4_readRow 23 = .ok (.invokevirtual 69, 3) := by decide +kernel
theorem dX4_readRow_26 : decode cX4_readRow 26 = .ok (.lstore 6, 2) := by decide +kernel
theorem dX4_readRow_28 : decode cX4_readRow 28 = .ok (.lload 4, 2) := by decide +kernel
theorem dX4_readRow_30 : decode cX4_readRow 30 = .ok (.lload 6, 2) := by decide +kernel
theorem dX4_readRow_32 : decode cX4_readRow 32 = .ok (.lcmp, 1) := by decide +kernel
theorem dX4_readRow_33 : decode cX4_readRow 33 = .ok (.ifCond .gt 27, 3) := by decide +kernel
theorem dX4_readRow_36 : decode cX4_readRow 36 = .ok (.lload 4, 2) := by decide +kernel
theorem dX4_readRow_38 : decode cX4_readRow 38 = .ok (.lload 6, 2) := by decide +kernel
theorem dX4_readRow_40 : decode cX4_readRow 40 = .ok (.lcmp, 1) := by decide +kernel
theorem dX4_readRow_41 : decode cX4_readRow 41 = .ok (.ifCond .ne 23, 3) := by decide +kernel
theorem dX4_readRow_44 : decode cX4_readRow 44 = .ok (.aload_n 0, 1) := by decide +kernel
theorem dX4_readRow_45 : decode cX4_readRow 45 = .ok (.getfield 29, 3) := by decide +kernel
theorem dX4_readRow_48 : decode cX4_readRow 48 = .ok (.iload_n 3, 1) := by decide +kernel
theorem dX4_readRow_49 : decode cX4_readRow 49 = .ok (.laload, 1) := by decide +kernel
theorem dX4_readRow_50 : decode cX4_readRow 50 = .ok (.aload_n 0, 1) := by decide +kernel
theorem dX4_readRow_51 : decode cX4_readRow 51 = .ok (.getfield 29, 3) := by decide +kernel
theorem dX4_readRow_54 : decode cX4_readRow 54 = .ok (.iload_n 2, 1) := by decide +kernel
theorem dX4_readRow_55 : decode cX4_readRow 55 = .ok (.laload, 1) := by decide +kernel
theorem dX4_readRow_56 : decode cX4_readRow 56 = .ok (.lcmp, 1) := by decide +kernel
theorem dX4_readRow_57 : decode cX4_readRow 57 = .ok (.ifCond .le 7, 3) := by decide +kernel
theorem dX4_readRow_60 : decode cX4_readRow 60 = .ok (.iload_n 3, 1) := by decide +kernel
theorem dX4_readRow_61 : decode cX4_readRow 61 = .ok (.goto 4, 3) := by decide +kernel
theorem dX4_readRow_64 : decode cX4_readRow 64 = .ok (.iload_n 2, 1) := by decide +kernel
theorem dX4_readRow_65 : decode cX4_readRow 65 = .ok (.istore_n 2, 1) := by decide +kernel
theorem dX4_readRow_66 : decode cX4_readRow 66 = .ok (.iinc 3 1, 3) := by decide +kernel
theorem dX4_readRow_69 : decode cX4_readRow 69 = .ok (.goto (-65), 3) := by decide +kernel
theorem dX4_readRow_72 : decode cX4_readRow 72 = .ok (.aload_n 0, 1) := by decide +kernel
theorem dX4_readRow_73 : decode cX4_readRow 73 = .ok (.iload_n 2, 1) := by decide +kernel
theorem dX4_readRow_74 : decode cX4_readRow 74 = .ok (.iload_n 1, 1) := by decide +kernel
theorem dX4_readRow_75 : decode cX4_readRow 75 = .ok (.invokevirtual 69, 3) := by decide +kernel
theorem dX4_readRow_78 : decode cX4_readRow 78 = .ok (.aload_n 0, 1) := by decide +kernel
theorem dX4_readRow_79 : decode cX4_readRow 79 = .ok (.getfield 25, 3) := by decide +kernel
theorem dX4_readRow_82 : decode cX4_readRow 82 = .ok (.lcmp, 1) := by decide +kernel
theorem dX4_readRow_83 : decode cX4_readRow 83 = .ok (.ifCond .ge 7, 3) := by decide +kernel
theorem dX4_readRow_86 : decode cX4_readRow 86 = .ok (.iconst (-1), 1) := by decide +kernel
theorem dX4_readRow_87 : decode cX4_readRow 87 = .ok (.goto 4, 3) := by decide +kernel
theorem dX4_readRow_90 : decode cX4_readRow 90 = .ok (.iload_n 2, 1) := by decide +kernel
theorem dX4_readRow_91 : decode cX4_readRow 91 = .ok (.ireturn, 1) := by decide +kernel
set_option maxRecDepth 20000 in
theorem ggX4_teach_X4_isKind : GoodIn wsX4_teach wsX4_isKind := goodIn_r _ [10, 11, 23, 24, 25, 26, 27, 28, 29, 30, 31, 32, 33, 34, 35, 36, 37, 38, 39] (by decide +kernel) (by decide +kernel)
set_option maxRecDepth 20000 in
theorem gX4_teach_X4_isKind : GoodIn wsX4_teach (wsV RX4 73 RX4 yX4_isKind wsX4_isKind) := goodIn_app (goodIn_of _ (by decide +kernel)) ggX4_teach_X4_isKind
set_option maxRecDepth 20000 in
theorem ggX4_teach_X4_takeNow : GoodIn wsX4_teach wsX4_takeNow := goodIn_r _ [15, 4, 16, 17, 18, 9, 19, 20, 21, 22, 23, 24, 25, 26, 27, 28, 29, 30, 31, 32, 33, 34, 35, 36, 37, 38, 39] (by decide +kernel) (by decide +kernel)
set_option maxRecDepth 20000 in
theorem gX4_teach_X4_takeNow : GoodIn wsX4_teach (wsV RX4 76 RX4 yX4_takeNow wsX4_takeNow) := goodIn_app (goodIn_of _ (by decide +kernel)) ggX4_teach_X4_takeNow
theorem dX4_teach_0 : decode cX4_teach 0 = .ok (.aload_n 0, 1) := by decide +kernel
theorem dX4_teach_1 : decode cX4_teach 1 = .ok (.iconst 0, 1) := by decide +kernel
theorem dX4_teach_2 : decode cX4_teach 2 = .ok (.putfield 49, 3) := by decide +kernel
theorem dX4_teach_5 : decode cX4_teach 5 = .ok (.aload_n 0, 1) := by decide +kernel
theorem dX4_teach_6 : decode cX4_teach 6 = .ok (.iload_n 1, 1) := by decide +kernel
theorem dX4_teach_7 : decode cX4_teach 7 = .ok (.invokevirtual 73, 3) := by decide +kernel
theorem dX4_teach_10 : decode cX4_teach 10 = .ok (.ifCond .eq 12, 3) := by decide +kernel
theorem dX4_teach_13 : decode cX4_teach 13 = .ok (.aload_n 0, 1) := by decide +kernel
theorem dX4_teach_14 : decode cX4_teach 14 = .ok (.getfield 66, 3) := by decide +kernel
theorem dX4_teach_17 : decode cX4_teach 17 = .ok (.bipush 40, 2) := by decide +kernel
theorem dX4_teach_19 : decode cX4_teach 19 = .ok (.if_icmp .ne 5, 3) := by decide +kernel
theorem dX4_teach_22 : decode cX4_teach 22 = .ok (.iconst (-1), 1) := by decide +kernel
theorem dX4_teach_23 : decode cX4_teach 23 = .ok (.ireturn, 1) := by decide +kernel
theorem dX4_teach_24 : decode cX4_teach 24 = .ok (.aload_n 0, 1) := by decide +kernel
theorem dX4_teach_25 : decode cX4_teach 25 = .ok (.invokevirtual 76, 3) := by decide +kernel
theorem dX4_teach_28 : decode cX4_teach 28 = .ok (.iconst 0, 1) := by decide +kernel
theorem dX4_teach_29 : decode cX4_teach 29 = .ok (.istore_n 2, 1) := by decide +kernel
theorem dX4_teach_30 : decode cX4_teach 30 = .ok (.iload_n 2, 1) := by decide +kernel
theorem dX4_teach_31 : decode cX4_teach 31 = .ok (.bipush 8, 2) := by decide +kernel
theorem dX4_teach_33 : decode cX4_teach 33 = .ok (.if_icmp .ge 29, 3) := by decide +kernel
theorem dX4_teach_36 : decode cX4_teach 36 = .ok (.aload_n 0, 1) := by decide +kernel
theorem dX4_teach_37 : decode cX4_teach 37 = .ok (.getfield 22, 3) := by decide +kernel
theorem dX4_teach_40 : decode cX4_teach 40 = .ok (.bipush 8, 2) := by decide +kernel
theorem dX4_teach_42 : decode cX4_teach 42 = .ok (.aload_n 0, 1) := by decide +kernel
theorem dX4_teach_43 : decode cX4_teach 43 = .ok (.getfield 66, 3) := by decide +kernel
theorem dX4_teach_46 : decode cX4_teach 46 = .ok (.imul, 1) := by decide +kernel
theorem dX4_teach_47 : decode cX4_teach 47 = .ok (.iload_n 2, 1) := by decide +kernel
theorem dX4_teach_48 : decode cX4_teach 48 = .ok (.iadd, 1) := by decide +kernel
theorem dX4_teach_49 : decode cX4_teach 49 = .ok (.aload_n 0, 1) := by decide +kernel
theorem dX4_teach_50 : decode cX4_teach 50 = .ok (.getfield 39, 3) := by decide +kernel
theorem dX4_teach_53 : decode cX4_teach 53 = .ok (.iload_n 2, 1) := by decide +kernel
theorem dX4_teach_54 : decode cX4_teach 54 = .ok (.iaload, 1) := by decide +kernel
theorem dX4_teach_55 : decode cX4_teach 55 = .ok (.iastore, 1) := by decide +kernel
theorem dX4_teach_56 : decode cX4_teach 56 = .ok (.iinc 2 1, 3) := by decide +kernel
theorem dX4_teach_59 : decode cX4_teach 59 = .ok (.goto (-29), 3) := by decide +kernel
theorem dX4_teach_62 : decode cX4_teach 62 = .ok (.aload_n 0, 1) := by decide +kernel
theorem dX4_teach_63 : decode cX4_teach 63 = .ok (.getfield 19, 3) := by decide +kernel
theorem dX4_teach_66 : decode cX4_teach 66 = .ok (.aload_n 0, 1) := by decide +kernel
theorem dX4_teach_67 : decode cX4_teach 67 = .ok (.getfield 66, 3) := by decide +kernel
theorem dX4_teach_70 : decode cX4_teach 70 = .ok (.iload_n 1, 1) := by decide +kernel
theorem dX4_teach_71 : decode cX4_teach 71 = .ok (.iastore, 1) := by decide +kernel
theorem dX4_teach_72 : decode cX4_teach 72 = .ok (.aload_n 0, 1) := by decide +kernel
theorem dX4_teach_73 : decode cX4_teach 73 = .ok (.dup, 1) := by decide +kernel
theorem dX4_teach_74 : decode cX4_teach 74 = .ok (.getfield 66, 3) := by decide +kernel
theorem dX4_teach_77 : decode cX4_teach 77 = .ok (.iconst 1, 1) := by decide +kernel
theorem dX4_teach_78 : decode cX4_teach 78 = .ok (.iadd, 1) := by decide +kernel
theorem dX4_teach_79 : decode cX4_teach 79 = .ok (.putfield 66, 3) := by decide +kernel
theorem dX4_teach_82 : decode cX4_teach 82 = .ok (.aload_n 0, 1) := by decide +kernel
theorem dX4_teach_83 : decode cX4_teach 83 = .ok (.getfield 66, 3) := by decide +kernel
theorem dX4_teach_86 : decode cX4_teach 86 = .ok (.iconst 1, 1) := by decide +kernel
theorem dX4_teach_87 : decode cX4_teach 87 = .ok (.isub, 1) := by decide +kernel
theorem dX4_teach_88 : decode cX4_teach 88 = .ok (.ireturn, 1) := by decide +kernel
set_option maxRecDepth 20000 in
theorem ggX4_read_X4_takeNow : GoodIn wsX4_read wsX4_takeNow := goodIn_r _ [6, 7, 8, 9, 10, 5, 11, 12, 13, 14, 29, 30, 31, 32, 33, 34, 35, 36, 37, 38, 39, 40, 41, 42, 43, 44, 45] (by decide +kernel) (by decide +kernel)
set_option maxRecDepth 20000 in
theorem gX4_read_X4_takeNow : GoodIn wsX4_read (wsV RX4 76 RX4 yX4_takeNow wsX4_takeNow) := goodIn_app (goodIn_of _ (by decide +kernel)) ggX4_read_X4_takeNow
set_option maxRecDepth 20000 in
theorem ggX4_read_X4_readRow : GoodIn wsX4_read wsX4_readRow := goodIn_r _ [18, 19, 20, 21, 22, 23, 24, 5, 25, 7, 26, 27, 28, 29, 30, 31, 32, 33, 34, 35, 36, 37, 38, 39, 40, 41, 42, 43, 44, 45] (by decide +kernel) (by decide +kernel)
set_option maxRecDepth 20000 in
theorem gX4_read_X4_readRow : GoodIn wsX4_read (wsV RX4 79 RX4 yX4_readRow wsX4_readRow) := goodIn_app (goodIn_of _ (by decide +kernel)) ggX4_read_X4_readRow
theorem dX4_read_0 : decode cX4_read 0 = .ok (.aload_n 0, 1) := by decide +kernel
theorem dX4_read_1 : decode cX4_read 1 = .ok (.iconst 0, 1) := by decide +kernel
theorem dX4_read_2 : decode cX4_read 2 = .ok (.putfield 49, 3) := by decide +kernel
theorem dX4_read_5 : decode cX4_read 5 = .ok (.aload_n 0, 1) := by decide +kernel
theorem dX4_read_6 : decode cX4_read 6 = .ok (.invokevirtual 76, 3) := by decide +kernel
theorem dX4_read_9 : decode cX4_read 9 = .ok (.aload_n 0, 1) := by decide +kernel
theorem dX4_read_10 : decode cX4_read 10 = .ok (.iconst (-1), 1) := by decide +kernel
theorem dX4_read_11 : decode cX4_read 11 = .ok (.invokevirtual 79, 3) := by decide +kernel
theorem dX4_read_14 : decode cX4_read 14 = .ok (.ireturn, 1) := by decide +kernel
set_option maxRecDepth 20000 in
theorem ggX4_sum_X4_takeNow : GoodIn wsX4_sum wsX4_takeNow := goodIn_r _ [7, 8, 9, 10, 11, 6, 12, 13, 14, 15, 28, 29, 30, 31, 32, 33, 34, 35, 36, 37, 38, 39, 40, 41, 42, 43, 44] (by decide +kernel) (by decide +kernel)
set_option maxRecDepth 20000 in
theorem gX4_sum_X4_takeNow : GoodIn wsX4_sum (wsV RX4 76 RX4 yX4_takeNow wsX4_takeNow) := goodIn_app (goodIn_of _ (by decide +kernel)) ggX4_sum_X4_takeNow
set_option maxRecDepth 20000 in
theorem ggX4_sum_X4_isKind : GoodIn wsX4_sum wsX4_isKind := goodIn_r _ [19, 20, 28, 29, 30, 31, 32, 33, 34, 35, 36, 37, 38, 39, 40, 41, 42, 43, 44] (by decide +kernel) (by decide +kernel)
set_option maxRecDepth 20000 in
theorem gX4_sum_X4_isKind : GoodIn wsX4_sum (wsV RX4 73 RX4 yX4_isKind wsX4_isKind) := goodIn_app (goodIn_of _ (by decide +kernel)) ggX4_sum_X4_isKind
set_option maxRecDepth 20000 in
theorem ggX4_sum_X4_sumOf : GoodIn wsX4_sum wsX4_sumOf := goodIn_r _ [24, 8, 25, 26, 27, 28, 29, 30, 31, 32, 33, 34, 35, 36, 37, 38, 39, 40, 41, 42, 43, 44] (by decide +kernel) (by decide +kernel)
set_option maxRecDepth 20000 in
theorem gX4_sum_X4_sumOf : GoodIn wsX4_sum (wsV RX4 69 RX4 yX4_sumOf wsX4_sumOf) := goodIn_app (goodIn_of _ (by decide +kernel)) ggX4_sum_X4_sumOf
theorem dX4_sum_0 : decode cX4_sum 0 = .ok (.aload_n 0, 1) := by decide +kernel
theorem dX4_sum_1 : decode cX4_sum 1 = .ok (.iconst 0, 1) := by decide +kernel
theorem dX4_sum_2 : decode cX4_sum 2 = .ok (.putfield 49, 3) := by decide +kernel
theorem dX4_sum_5 : decode cX4_sum 5 = .ok (.aload_n 0, 1) := by decide +kernel
theorem dX4_sum_6 : decode cX4_sum 6 = .ok (.invokevirtual 76, 3) := by decide +kernel
theorem dX4_sum_9 : decode cX4_sum 9 = .ok (.aload_n 0, 1) := by decide +kernel
theorem dX4_sum_10 : decode cX4_sum 10 = .ok (.iload_n 1, 1) := by decide +kernel
theorem dX4_sum_11 : decode cX4_sum 11 = .ok (.invokevirtual 73, 3) := by decide +kernel
theorem dX4_sum_14 : decode cX4_sum 14 = .ok (.ifCond .eq 12, 3) := by decide +kernel
theorem dX4_sum_17 : decode cX4_sum 17 = .ok (.aload_n 0, 1) := by decide +kernel
theorem dX4_sum_18 : decode cX4_sum 18 = .ok (.iload_n 1, 1) := by decide +kernel
theorem dX4_sum_19 : decode cX4_sum 19 = .ok (.iconst (-1), 1) := by decide +kernel
theorem dX4_sum_20 : decode cX4_sum 20 = .ok (.invokevirtual 69, 3) := by decide +kernel
theorem dX4_sum_23 : decode cX4_sum 23 = .ok (.goto 6, 3) := by decide +kernel
theorem dX4_sum_26 : decode cX4_sum 26 = .ok (.ldc2_w 82, 3) := by decide +kernel
theorem dX4_sum_29 : decode cX4_sum 29 = .ok (.lreturn, 1) := by decide +kernel
theorem dX4_bound_0 : decode cX4_bound 0 = .ok (.aload_n 0, 1) := by decide +kernel
theorem dX4_bound_1 : decode cX4_bound 1 = .ok (.iconst 0, 1) := by decide +kernel
theorem dX4_bound_2 : decode cX4_bound 2 = .ok (.putfield 49, 3) := by decide +kernel
theorem dX4_bound_5 : decode cX4_bound 5 = .ok (.lload_n 1, 1) := by decide +kernel
theorem dX4_bound_6 : decode cX4_bound 6 = .ok (.lconst 0, 1) := by decide +kernel
theorem dX4_bound_7 : decode cX4_bound 7 = .ok (.lcmp, 1) := by decide +kernel
theorem dX4_bound_8 : decode cX4_bound 8 = .ok (.ifCond .lt 11, 3) := by decide +kernel
theorem dX4_bound_11 : decode cX4_bound 11 = .ok (.lload_n 1, 1) := by decide +kernel
theorem dX4_bound_12 : decode cX4_bound 12 = .ok (.ldc2_w 84, 3) := by decide +kernel
theorem dX4_bound_15 : decode cX4_bound 15 = .ok (.lcmp, 1) := by decide +kernel
theorem dX4_bound_16 : decode cX4_bound 16 = .ok (.ifCond .le 5, 3) := by decide +kernel
theorem dX4_bound_19 : decode cX4_bound 19 = .ok (.iconst 0, 1) := by decide +kernel
theorem dX4_bound_20 : decode cX4_bound 20 = .ok (.ireturn, 1) := by decide +kernel
theorem dX4_bound_21 : decode cX4_bound 21 = .ok (.aload_n 0, 1) := by decide +kernel
theorem dX4_bound_22 : decode cX4_bound 22 = .ok (.lload_n 1, 1) := by decide +kernel
theorem dX4_bound_23 : decode cX4_bound 23 = .ok (.putfield 25, 3) := by decide +kernel
theorem dX4_bound_26 : decode cX4_bound 26 = .ok (.iconst 1, 1) := by decide +kernel
theorem dX4_bound_27 : decode cX4_bound 27 = .ok (.ireturn, 1) := by decide +kernel
set_option maxRecDepth 20000 in
theorem ggX4_worth_X4_isKind : GoodIn wsX4_worth wsX4_isKind := goodIn_r _ [8, 9, 10, 11, 12, 13, 14, 15, 16, 17, 18, 19, 20, 21, 22, 23, 24, 25, 26] (by decide +kernel) (by decide +kernel)
set_option maxRecDepth 20000 in
theorem gX4_worth_X4_isKind : GoodIn wsX4_worth (wsV RX4 73 RX4 yX4_isKind wsX4_isKind) := goodIn_app (goodIn_of _ (by decide +kernel)) ggX4_worth_X4_isKind
theorem dX4_worth_0 : decode cX4_worth 0 = .ok (.aload_n 0, 1) := by decide +kernel
theorem dX4_worth_1 : decode cX4_worth 1 = .ok (.iconst 0, 1) := by decide +kernel
theorem dX4_worth_2 : decode cX4_worth 2 = .ok (.putfield 49, 3) := by decide +kernel
theorem dX4_worth_5 : decode cX4_worth 5 = .ok (.aload_n 0, 1) := by decide +kernel
theorem dX4_worth_6 : decode cX4_worth 6 = .ok (.iload_n 1, 1) := by decide +kernel
theorem dX4_worth_7 : decode cX4_worth 7 = .ok (.invokevirtual 73, 3) := by decide +kernel
theorem dX4_worth_10 : decode cX4_worth 10 = .ok (.ifCond .eq 17, 3) := by decide +kernel
theorem dX4_worth_13 : decode cX4_worth 13 = .ok (.lload_n 2, 1) := by decide +kernel
theorem dX4_worth_14 : decode cX4_worth 14 = .ok (.lconst 0, 1) := by decide +kernel
theorem dX4_worth_15 : decode cX4_worth 15 = .ok (.lcmp, 1) := by decide +kernel
theorem dX4_worth_16 : decode cX4_worth 16 = .ok (.ifCond .lt 11, 3) := by decide +kernel
theorem dX4_worth_19 : decode cX4_worth 19 = .ok (.lload_n 2, 1) := by decide +kernel
theorem dX4_worth_20 : decode cX4_worth 20 = .ok (.ldc2_w 86, 3) := by decide +kernel
theorem dX4_worth_23 : decode cX4_worth 23 = .ok (.lcmp, 1) := by decide +kernel
theorem dX4_worth_24 : decode cX4_worth 24 = .ok (.ifCond .le 5, 3) := by decide +kernel
theorem dX4_worth_27 : decode cX4_worth 27 = .ok (.iconst 0, 1) := by decide +kernel
theorem dX4_worth_28 : decode cX4_worth 28 = .ok (.ireturn, 1) := by decide +kernel
theorem dX4_worth_29 : decode cX4_worth 29 = .ok (.aload_n 0, 1) := by decide +kernel
theorem dX4_worth_30 : decode cX4_worth 30 = .ok (.getfield 29, 3) := by decide +kernel
theorem dX4_worth_33 : decode cX4_worth 33 = .ok (.iload_n 1, 1) := by decide +kernel
theorem dX4_worth_34 : decode cX4_worth 34 = .ok (.lload_n 2, 1) := by decide +kernel
theorem dX4_worth_35 : decode cX4_worth 35 = .ok (.lastore, 1) := by decide +kernel
theorem dX4_worth_36 : decode cX4_worth 36 = .ok (.iconst 1, 1) := by decide +kernel
theorem dX4_worth_37 : decode cX4_worth 37 = .ok (.ireturn, 1) := by decide +kernel
set_option maxRecDepth 20000 in
theorem ggX4_leftOut_X4_takeTaught : GoodIn wsX4_leftOut wsX4_takeTaught := goodIn_r _ [7, 8, 9, 22, 23, 24, 25, 26, 27, 28, 29, 30, 31, 32, 33, 34, 35, 36, 37, 38] (by decide +kernel) (by decide +kernel)
set_option maxRecDepth 20000 in
theorem gX4_leftOut_X4_takeTaught : GoodIn wsX4_leftOut (wsV RX4 88 RX4 yX4_takeTaught wsX4_takeTaught) := goodIn_app (goodIn_of _ (by decide +kernel)) ggX4_leftOut_X4_takeTaught
set_option maxRecDepth 20000 in
theorem ggX4_leftOut_X4_readRow : GoodIn wsX4_leftOut wsX4_readRow := goodIn_r _ [13, 14, 15, 16, 17, 18, 19, 6, 20, 8, 2, 21, 9, 22, 23, 24, 25, 26, 27, 28, 29, 30, 31, 32, 33, 34, 35, 36, 37, 38] (by decide +kernel) (by decide +kernel)
set_option maxRecDepth 20000 in
theorem gX4_leftOut_X4_readRow : GoodIn wsX4_leftOut (wsV RX4 79 RX4 yX4_readRow wsX4_readRow) := goodIn_app (goodIn_of _ (by decide +kernel)) ggX4_leftOut_X4_readRow
theorem dX4_leftOut_0 : decode cX4_leftOut 0 = .ok (.aload_n 0, 1) := by decide +kernel
theorem dX4_leftOut_1 : decode cX4_leftOut 1 = .ok (.iconst 0, 1) := by decide +kernel
theorem dX4_leftOut_2 : decode cX4_leftOut 2 = .ok (.putfield 49, 3) := by decide +kernel
theorem dX4_leftOut_5 : decode cX4_leftOut 5 = .ok (.iload_n 1, 1) := by decide +kernel
theorem dX4_leftOut_6 : decode cX4_leftOut 6 = .ok (.ifCond .lt 11, 3) := by decide +kernel
theorem dX4_leftOut_9 : decode cX4_leftOut 9 = .ok (.iload_n 1, 1) := by decide +kernel
theorem dX4_leftOut_10 : decode cX4_leftOut 10 = .ok (.aload_n 0, 1) := by decide +kernel
theorem dX4_leftOut_11 : decode cX4_leftOut 11 = .ok (.getfield 66, 3) := by decide +kernel
theorem dX4_leftOut_14 : decode cX4_leftOut 14 = .ok (.if_icmp .lt 6, 3) := by decide +kernel
theorem dX4_leftOut_17 : decode cX4_leftOut 17 = .ok (.bipush (-2), 2) := by decide +kernel
theorem dX4_leftOut_19 : decode cX4_leftOut 19 = .ok (.ireturn, 1) := by decide +kernel
theorem dX4_leftOut_20 : decode cX4_leftOut 20 = .ok (.aload_n 0, 1) := by decide +kernel
theorem dX4_leftOut_21 : decode cX4_leftOut 21 = .ok (.iload_n 1, 1) := by decide +kernel
theorem dX4_leftOut_22 : decode cX4_leftOut 22 = .ok (.invokevirtual 88, 3) := by decide +kernel
theorem dX4_leftOut_25 : decode cX4_leftOut 25 = .ok (.aload_n 0, 1) := by decide +kernel
theorem dX4_leftOut_26 : decode cX4_leftOut 26 = .ok (.iload_n 1, 1) := by decide +kernel
theorem dX4_leftOut_27 : decode cX4_leftOut 27 = .ok (.invokevirtual 79, 3) := by decide +kernel
theorem dX4_leftOut_30 : decode cX4_leftOut 30 = .ok (.ireturn, 1) := by decide +kernel
set_option maxRecDepth 20000 in
theorem ggX4_wrong_X4_isKind : GoodIn wsX4_wrong wsX4_isKind := goodIn_r _ [9, 10, 31, 32, 33, 34, 35, 36, 37, 38, 39, 40, 41, 42, 43, 44, 45, 46, 47] (by decide +kernel) (by decide +kernel)
set_option maxRecDepth 20000 in
theorem gX4_wrong_X4_isKind : GoodIn wsX4_wrong (wsV RX4 73 RX4 yX4_isKind wsX4_isKind) := goodIn_app (goodIn_of _ (by decide +kernel)) ggX4_wrong_X4_isKind
set_option maxRecDepth 20000 in
theorem ggX4_wrong_X4_leftOut : GoodIn wsX4_wrong wsX4_leftOut := goodIn_r _ [14, 1, 3, 15, 16, 17, 8, 18, 19, 20, 21, 22, 23, 24, 10, 25, 26, 27, 28, 29, 30, 4, 31, 32, 33, 34, 35, 36, 37, 38, 39, 40, 41, 42, 43, 44, 45, 46, 47] (by decide +kernel) (by decide +kernel)
set_option maxRecDepth 20000 in
theorem gX4_wrong_X4_leftOut : GoodIn wsX4_wrong (wsV RX4 92 RX4 yX4_leftOut wsX4_leftOut) := goodIn_app (goodIn_of _ (by decide +kernel)) ggX4_wrong_X4_leftOut
theorem dX4_wrong_0 : decode cX4_wrong 0 = .ok (.aload_n 0, 1) := by decide +kernel
theorem dX4_wrong_1 : decode cX4_wrong 1 = .ok (.iconst 0, 1) := by decide +kernel
theorem dX4_wrong_2 : decode cX4_wrong 2 = .ok (.putfield 49, 3) := by decide +kernel
theorem dX4_wrong_5 : decode cX4_wrong 5 = .ok (.aload_n 0, 1) := by decide +kernel
theorem dX4_wrong_6 : decode cX4_wrong 6 = .ok (.iload_n 1, 1) := by decide +kernel
theorem dX4_wrong_7 : decode cX4_wrong 7 = .ok (.invokevirtual 73, 3) := by decide +kernel
theorem dX4_wrong_10 : decode cX4_wrong 10 = .ok (.ifCond .eq 16, 3) := by decide +kernel
theorem dX4_wrong_13 : decode cX4_wrong 13 = .ok (.iload_n 2, 1) := by decide +kernel
theorem dX4_wrong_14 : decode cX4_wrong 14 = .ok (.iconst (-1), 1) := by decide +kernel
theorem dX4_wrong_15 : decode cX4_wrong 15 = .ok (.if_icmp .eq 15, 3) := by decide +kernel
theorem dX4_wrong_18 : decode cX4_wrong 18 = .ok (.aload_n 0, 1) := by decide +kernel
theorem dX4_wrong_19 : decode cX4_wrong 19 = .ok (.iload_n 2, 1) := by decide +kernel
theorem dX4_wrong_20 : decode cX4_wrong 20 = .ok (.invokevirtual 73, 3) := by decide +kernel
theorem dX4_wrong_23 : decode cX4_wrong 23 = .ok (.ifCond .ne 7, 3) := by decide +kernel
theorem dX4_wrong_26 : decode cX4_wrong 26 = .ok (.ldc2_w 82, 3) := by decide +kernel
theorem dX4_wrong_29 : decode cX4_wrong 29 = .ok (.lreturn, 1) := by decide +kernel
theorem dX4_wrong_30 : decode cX4_wrong 30 = .ok (.lconst 0, 1) := by decide +kernel
theorem dX4_wrong_31 : decode cX4_wrong 31 = .ok (.lstore_n 3, 1) := by decide +kernel
theorem dX4_wrong_32 : decode cX4_wrong 32 = .ok (.iconst 0, 1) := by decide +kernel
theorem dX4_wrong_33 : decode cX4_wrong 33 = .ok (.istore 5, 2) := by decide +kernel
theorem dX4_wrong_35 : decode cX4_wrong 35 = .ok (.iload 5, 2) := by decide +kernel
theorem dX4_wrong_37 : decode cX4_wrong 37 = .ok (.aload_n 0, 1) := by decide +kernel
theorem dX4_wrong_38 : decode cX4_wrong 38 = .ok (.getfield 66, 3) := by decide +kernel
theorem dX4_wrong_41 : decode cX4_wrong 41 = .ok (.if_icmp .ge 38, 3) := by decide +kernel
theorem dX4_wrong_44 : decode cX4_wrong 44 = .ok (.lload_n 3, 1) := by decide +kernel
theorem dX4_wrong_45 : decode cX4_wrong 45 = .ok (.aload_n 0, 1) := by decide +kernel
theorem dX4_wrong_46 : decode cX4_wrong 46 = .ok (.getfield 19, 3) := by decide +kernel
theorem dX4_wrong_49 : decode cX4_wrong 49 = .ok (.iload 5, 2) := by decide +kernel
theorem dX4_wrong_51 : decode cX4_wrong 51 = .ok (.iaload, 1) := by decide +kernel
theorem dX4_wrong_52 : decode cX4_wrong 52 = .ok (.iload_n 1, 1) := by decide +kernel
theorem dX4_wrong_53 : decode cX4_wrong 53 = .ok (.if_icmp .ne 17, 3) := by decide +kernel
theorem dX4_wrong_56 : decode cX4_wrong 56 = .ok (.aload_n 0, 1) := by decide +kernel
theorem dX4_wrong_57 : decode cX4_wrong 57 = .ok (.iload 5, 2) := by decide +kernel
theorem dX4_wrong_59 : decode cX4_wrong 59 = .ok (.invokevirtual 92, 3) := by decide +kernel
theorem dX4_wrong_62 : decode cX4_wrong 62 = .ok (.iload_n 2, 1) := by decide +kernel
theorem dX4_wrong_63 : decode cX4_wrong 63 = .ok (.if_icmp .ne 7, 3) := by decide +kernel
theorem dX4_wrong_66 : decode cX4_wrong 66 = .ok (.lconst 1, 1) := by decide +kernel
theorem dX4_wrong_67 : decode cX4_wrong 67 = .ok (.goto 4, 3) := by decide +kernel
theorem dX4_wrong_70 : decode cX4_wrong 70 = .ok (.lconst 0, 1) := by decide +kernel
theorem dX4_wrong_71 : decode cX4_wrong 71 = .ok (.ladd, 1) := by decide +kernel
theorem dX4_wrong_72 : decode cX4_wrong 72 = .ok (.lstore_n 3, 1) := by decide +kernel
theorem dX4_wrong_73 : decode cX4_wrong 73 = .ok (.iinc 5 1, 3) := by decide +kernel
theorem dX4_wrong_76 : decode cX4_wrong 76 = .ok (.goto (-41), 3) := by decide +kernel
theorem dX4_wrong_79 : decode cX4_wrong 79 = .ok (.lload_n 3, 1) := by decide +kernel
theorem dX4_wrong_80 : decode cX4_wrong 80 = .ok (.lreturn, 1) := by decide +kernel
set_option maxRecDepth 20000 in
theorem ggX4_correct_X4_isKind : GoodIn wsX4_correct wsX4_isKind := goodIn_r _ [8, 9, 10, 11, 12, 13, 14, 15, 16, 17, 18, 19, 20, 21, 22, 23, 24, 25, 26] (by decide +kernel) (by decide +kernel)
set_option maxRecDepth 20000 in
theorem gX4_correct_X4_isKind : GoodIn wsX4_correct (wsV RX4 73 RX4 yX4_isKind wsX4_isKind) := goodIn_app (goodIn_of _ (by decide +kernel)) ggX4_correct_X4_isKind
theorem dX4_correct_0 : decode cX4_correct 0 = .ok (.aload_n 0, 1) := by decide +kernel
theorem dX4_correct_1 : decode cX4_correct 1 = .ok (.iconst 0, 1) := by decide +kernel
theorem dX4_correct_2 : decode cX4_correct 2 = .ok (.putfield 49, 3) := by decide +kernel
theorem dX4_correct_5 : decode cX4_correct 5 = .ok (.iload_n 1, 1) := by decide +kernel
theorem dX4_correct_6 : decode cX4_correct 6 = .ok (.ifCond .lt 19, 3) := by decide +kernel
theorem dX4_correct_9 : decode cX4_correct 9 = .ok (.iload_n 1, 1) := by decide +kernel
theorem dX4_correct_10 : decode cX4_correct 10 = .ok (.aload_n 0, 1) := by decide +kernel
theorem dX4_correct_11 : decode cX4_correct 11 = .ok (.getfield 66, 3) := by decide +kernel
theorem dX4_correct_14 : decode cX4_correct 14 = .ok (.if_icmp .ge 11, 3) := by decide +kernel
theorem dX4_correct_17 : decode cX4_correct 17 = .ok (.aload_n 0, 1) := by decide +kernel
theorem dX4_correct_18 : decode cX4_correct 18 = .ok (.iload_n 2, 1) := by decide +kernel
theorem dX4_correct_19 : decode cX4_correct 19 = .ok (.invokevirtual 73, 3) := by decide +kernel
theorem dX4_correct_22 : decode cX4_correct 22 = .ok (.ifCond .ne 5, 3) := by decide +kernel
theorem dX4_correct_25 : decode cX4_correct 25 = .ok (.iconst (-1), 1) := by decide +kernel
theorem dX4_correct_26 : decode cX4_correct 26 = .ok (.ireturn, 1) := by decide +kernel
theorem dX4_correct_27 : decode cX4_correct 27 = .ok (.aload_n 0, 1) := by decide +kernel
theorem dX4_correct_28 : decode cX4_correct 28 = .ok (.getfield 19, 3) := by decide +kernel
theorem dX4_correct_31 : decode cX4_correct 31 = .ok (.iload_n 1, 1) := by decide +kernel
theorem dX4_correct_32 : decode cX4_correct 32 = .ok (.iaload, 1) := by decide +kernel
theorem dX4_correct_33 : decode cX4_correct 33 = .ok (.istore_n 3, 1) := by decide +kernel
theorem dX4_correct_34 : decode cX4_correct 34 = .ok (.aload_n 0, 1) := by decide +kernel
theorem dX4_correct_35 : decode cX4_correct 35 = .ok (.getfield 19, 3) := by decide +kernel
theorem dX4_correct_38 : decode cX4_correct 38 = .ok (.iload_n 1, 1) := by decide +kernel
theorem dX4_correct_39 : decode cX4_correct 39 = .ok (.iload_n 2, 1) := by decide +kernel
theorem dX4_correct_40 : decode cX4_correct 40 = .ok (.iastore, 1) := by decide +kernel
theorem dX4_correct_41 : decode cX4_correct 41 = .ok (.iload_n 3, 1) := by decide +kernel
theorem dX4_correct_42 : decode cX4_correct 42 = .ok (.ireturn, 1) := by decide +kernel
theorem dX4_isPlace_0 : decode cX4_isPlace 0 = .ok (.iload_n 0, 1) := by decide +kernel
theorem dX4_isPlace_1 : decode cX4_isPlace 1 = .ok (.ifCond .lt 23, 3) := by decide +kernel
theorem dX4_isPlace_4 : decode cX4_isPlace 4 = .ok (.iload_n 0, 1) := by decide +kernel
theorem dX4_isPlace_5 : decode cX4_isPlace 5 = .ok (.bipush 16, 2) := by decide +kernel
theorem dX4_isPlace_7 : decode cX4_isPlace 7 = .ok (.if_icmp .ge 17, 3) := by decide +kernel
theorem dX4_isPlace_10 : decode cX4_isPlace 10 = .ok (.iload_n 1, 1) := by decide +kernel
theorem dX4_isPlace_11 : decode cX4_isPlace 11 = .ok (.ifCond .lt 13, 3) := by decide +kernel
theorem dX4_isPlace_14 : decode cX4_isPlace 14 = .ok (.iload_n 1, 1) := by decide +kernel
theorem dX4_isPlace_15 : decode cX4_isPlace 15 = .ok (.bipush 16, 2) := by decide +kernel
theorem dX4_isPlace_17 : decode cX4_isPlace 17 = .ok (.if_icmp .ge 7, 3) := by decide +kernel
theorem dX4_isPlace_20 : decode cX4_isPlace 20 = .ok (.iconst 1, 1) := by decide +kernel
theorem dX4_isPlace_21 : decode cX4_isPlace 21 = .ok (.goto 4, 3) := by decide +kernel
theorem dX4_isPlace_24 : decode cX4_isPlace 24 = .ok (.iconst 0, 1) := by decide +kernel
theorem dX4_isPlace_25 : decode cX4_isPlace 25 = .ok (.ireturn, 1) := by decide +kernel
set_option maxRecDepth 20000 in
theorem ggX4_pixel_X4_isPlace : GoodIn wsX4_pixel wsX4_isPlace := goodIn_r _ [7] (by decide +kernel) (by decide +kernel)
set_option maxRecDepth 20000 in
theorem gX4_pixel_X4_isPlace : GoodIn wsX4_pixel (va_wsS RX4 95 yX4_isPlace wsX4_isPlace) := goodIn_app (goodIn_of _ (by decide +kernel)) ggX4_pixel_X4_isPlace
set_option maxRecDepth 20000 in
theorem ggX4_pixel_X4_takeNow : GoodIn wsX4_pixel wsX4_takeNow := goodIn_r _ [11, 12, 13, 14, 15, 6, 16, 17, 18, 19, 34, 35, 36, 37, 38, 39, 40, 41, 42, 43, 44, 45, 46, 47, 48, 49, 50] (by decide +kernel) (by decide +kernel)
set_option maxRecDepth 20000 in
theorem gX4_pixel_X4_takeNow : GoodIn wsX4_pixel (wsV RX4 76 RX4 yX4_takeNow wsX4_takeNow) := goodIn_app (goodIn_of _ (by decide +kernel)) ggX4_pixel_X4_takeNow
set_option maxRecDepth 20000 in
theorem ggX4_pixel_X4_readRow : GoodIn wsX4_pixel wsX4_readRow := goodIn_r _ [23, 24, 25, 26, 27, 28, 29, 6, 30, 12, 31, 32, 33, 34, 35, 36, 37, 38, 39, 40, 41, 42, 43, 44, 45, 46, 47, 48, 49, 50] (by decide +kernel) (by decide +kernel)
set_option maxRecDepth 20000 in
theorem gX4_pixel_X4_readRow : GoodIn wsX4_pixel (wsV RX4 79 RX4 yX4_readRow wsX4_readRow) := goodIn_app (goodIn_of _ (by decide +kernel)) ggX4_pixel_X4_readRow
theorem dX4_pixel_0 : decode cX4_pixel 0 = .ok (.aload_n 0, 1) := by decide +kernel
theorem dX4_pixel_1 : decode cX4_pixel 1 = .ok (.iconst 0, 1) := by decide +kernel
theorem dX4_pixel_2 : decode cX4_pixel 2 = .ok (.putfield 49, 3) := by decide +kernel
theorem dX4_pixel_5 : decode cX4_pixel 5 = .ok (.iload_n 1, 1) := by decide +kernel
theorem dX4_pixel_6 : decode cX4_pixel 6 = .ok (.iload_n 2, 1) := by decide +kernel
theorem dX4_pixel_7 : decode cX4_pixel 7 = .ok (.invokestatic 95, 3) := by decide +kernel
theorem dX4_pixel_10 : decode cX4_pixel 10 = .ok (.ifCond .eq 26, 3) := by decide +kernel
theorem dX4_pixel_13 : decode cX4_pixel 13 = .ok (.aload_n 0, 1) := by decide +kernel
theorem dX4_pixel_14 : decode cX4_pixel 14 = .ok (.getfield 33, 3) := by decide +kernel
theorem dX4_pixel_17 : decode cX4_pixel 17 = .ok (.bipush 16, 2) := by decide +kernel
theorem dX4_pixel_19 : decode cX4_pixel 19 = .ok (.iload_n 2, 1) := by decide +kernel
theorem dX4_pixel_20 : decode cX4_pixel 20 = .ok (.imul, 1) := by decide +kernel
theorem dX4_pixel_21 : decode cX4_pixel 21 = .ok (.iload_n 1, 1) := by decide +kernel
theorem dX4_pixel_22 : decode cX4_pixel 22 = .ok (.iadd, 1) := by decide +kernel
theorem dX4_pixel_23 : decode cX4_pixel 23 = .ok (.iaload, 1) := by decide +kernel
theorem dX4_pixel_24 : decode cX4_pixel 24 = .ok (.ifCond .gt 12, 3) := by decide +kernel
theorem dX4_pixel_27 : decode cX4_pixel 27 = .ok (.aload_n 0, 1) := by decide +kernel
theorem dX4_pixel_28 : decode cX4_pixel 28 = .ok (.getfield 99, 3) := by decide +kernel
theorem dX4_pixel_31 : decode cX4_pixel 31 = .ok (.bipush 100, 2) := by decide +kernel
theorem dX4_pixel_33 : decode cX4_pixel 33 = .ok (.if_icmp .ne 5, 3) := by decide +kernel
theorem dX4_pixel_36 : decode cX4_pixel 36 = .ok (.iconst 0, 1) := by decide +kernel
theorem dX4_pixel_37 : decode cX4_pixel 37 = .ok (.ireturn, 1) := by decide +kernel
theorem dX4_pixel_38 : decode cX4_pixel 38 = .ok (.aload_n 0, 1) := by decide +kernel
theorem dX4_pixel_39 : decode cX4_pixel 39 = .ok (.dup, 1) := by decide +kernel
theorem dX4_pixel_40 : decode cX4_pixel 40 = .ok (.getfield 99, 3) := by decide +kernel
theorem dX4_pixel_43 : decode cX4_pixel 43 = .ok (.iconst 1, 1) := by decide +kernel
theorem dX4_pixel_44 : decode cX4_pixel 44 = .ok (.iadd, 1) := by decide +kernel
theorem dX4_pixel_45 : decode cX4_pixel 45 = .ok (.putfield 99, 3) := by decide +kernel
theorem dX4_pixel_48 : decode cX4_pixel 48 = .ok (.aload_n 0, 1) := by decide +kernel
theorem dX4_pixel_49 : decode cX4_pixel 49 = .ok (.invokevirtual 76, 3) := by decide +kernel
theorem dX4_pixel_52 : decode cX4_pixel 52 = .ok (.aload_n 0, 1) := by decide +kernel
theorem dX4_pixel_53 : decode cX4_pixel 53 = .ok (.getfield 33, 3) := by decide +kernel
theorem dX4_pixel_56 : decode cX4_pixel 56 = .ok (.bipush 16, 2) := by decide +kernel
theorem dX4_pixel_58 : decode cX4_pixel 58 = .ok (.iload_n 2, 1) := by decide +kernel
theorem dX4_pixel_59 : decode cX4_pixel 59 = .ok (.imul, 1) := by decide +kernel
theorem dX4_pixel_60 : decode cX4_pixel 60 = .ok (.iload_n 1, 1) := by decide +kernel
theorem dX4_pixel_61 : decode cX4_pixel 61 = .ok (.iadd, 1) := by decide +kernel
theorem dX4_pixel_62 : decode cX4_pixel 62 = .ok (.iconst 2, 1) := by decide +kernel
theorem dX4_pixel_63 : decode cX4_pixel 63 = .ok (.aload_n 0, 1) := by decide +kernel
theorem dX4_pixel_64 : decode cX4_pixel 64 = .ok (.iconst (-1), 1) := by decide +kernel
theorem dX4_pixel_65 : decode cX4_pixel 65 = .ok (.invokevirtual 79, 3) := by decide +kernel
theorem dX4_pixel_68 : decode cX4_pixel 68 = .ok (.iadd, 1) := by decide +kernel
theorem dX4_pixel_69 : decode cX4_pixel 69 = .ok (.iastore, 1) := by decide +kernel
theorem dX4_pixel_70 : decode cX4_pixel 70 = .ok (.iconst 1, 1) := by decide +kernel
theorem dX4_pixel_71 : decode cX4_pixel 71 = .ok (.ireturn, 1) := by decide +kernel
set_option maxRecDepth 20000 in
theorem ggX4_isKnown_X4_isPlace : GoodIn wsX4_isKnown wsX4_isPlace := goodIn_r _ [5] (by decide +kernel) (by decide +kernel)
set_option maxRecDepth 20000 in
theorem gX4_isKnown_X4_isPlace : GoodIn wsX4_isKnown (va_wsS RX4 95 yX4_isPlace wsX4_isPlace) := goodIn_app (goodIn_of _ (by decide +kernel)) ggX4_isKnown_X4_isPlace
theorem dX4_isKnown_0 : decode cX4_isKnown 0 = .ok (.iload_n 1, 1) := by decide +kernel
theorem dX4_isKnown_1 : decode cX4_isKnown 1 = .ok (.iload_n 2, 1) := by decide +kernel
theorem dX4_isKnown_2 : decode cX4_isKnown 2 = .ok (.invokestatic 95, 3) := by decide +kernel
theorem dX4_isKnown_5 : decode cX4_isKnown 5 = .ok (.ifCond .eq 22, 3) := by decide +kernel
theorem dX4_isKnown_8 : decode cX4_isKnown 8 = .ok (.aload_n 0, 1) := by decide +kernel
theorem dX4_isKnown_9 : decode cX4_isKnown 9 = .ok (.getfield 33, 3) := by decide +kernel
theorem dX4_isKnown_12 : decode cX4_isKnown 12 = .ok (.bipush 16, 2) := by decide +kernel
theorem dX4_isKnown_14 : decode cX4_isKnown 14 = .ok (.iload_n 2, 1) := by decide +kernel
theorem dX4_isKnown_15 : decode cX4_isKnown 15 = .ok (.imul, 1) := by decide +kernel
theorem dX4_isKnown_16 : decode cX4_isKnown 16 = .ok (.iload_n 1, 1) := by decide +kernel
theorem dX4_isKnown_17 : decode cX4_isKnown 17 = .ok (.iadd, 1) := by decide +kernel
theorem dX4_isKnown_18 : decode cX4_isKnown 18 = .ok (.iaload, 1) := by decide +kernel
theorem dX4_isKnown_19 : decode cX4_isKnown 19 = .ok (.iconst 1, 1) := by decide +kernel
theorem dX4_isKnown_20 : decode cX4_isKnown 20 = .ok (.if_icmp .le 7, 3) := by decide +kernel
theorem dX4_isKnown_23 : decode cX4_isKnown 23 = .ok (.iconst 1, 1) := by decide +kernel
theorem dX4_isKnown_24 : decode cX4_isKnown 24 = .ok (.goto 4, 3) := by decide +kernel
theorem dX4_isKnown_27 : decode cX4_isKnown 27 = .ok (.iconst 0, 1) := by decide +kernel
theorem dX4_isKnown_28 : decode cX4_isKnown 28 = .ok (.ireturn, 1) := by decide +kernel
set_option maxRecDepth 20000 in
theorem ggX4_find_X4_spread : GoodIn wsX4_find wsX4_spread := goodIn_r _ [7, 1, 8, 9, 10, 6, 11, 2, 12, 13, 14, 15, 16, 17, 18, 19, 20, 21, 22, 23, 24, 25, 26, 27, 28, 29, 30, 31, 32, 33, 34, 35, 36, 37, 38, 39] (by decide +kernel) (by decide +kernel)
set_option maxRecDepth 20000 in
theorem gX4_find_X4_spread : GoodIn wsX4_find (wsV RX4 102 RX4 yX4_spread wsX4_spread) := goodIn_app (goodIn_of _ (by decide +kernel)) ggX4_find_X4_spread
theorem dX4_find_0 : decode cX4_find 0 = .ok (.iconst 0, 1) := by decide +kernel
theorem dX4_find_1 : decode cX4_find 1 = .ok (.istore_n 1, 1) := by decide +kernel
theorem dX4_find_2 : decode cX4_find 2 = .ok (.iload_n 1, 1) := by decide +kernel
theorem dX4_find_3 : decode cX4_find 3 = .ok (.sipush 256, 3) := by decide +kernel
theorem dX4_find_6 : decode cX4_find 6 = .ok (.if_icmp .ge 16, 3) := by decide +kernel
theorem dX4_find_9 : decode cX4_find 9 = .ok (.aload_n 0, 1) := by decide +kernel
theorem dX4_find_10 : decode cX4_find 10 = .ok (.getfield 42, 3) := by decide +kernel
theorem dX4_find_13 : decode cX4_find 13 = .ok (.iload_n 1, 1) := by decide +kernel
theorem dX4_find_14 : decode cX4_find 14 = .ok (.iconst (-1), 1) := by decide +kernel
theorem dX4_find_15 : decode cX4_find 15 = .ok (.iastore, 1) := by decide +kernel
theorem dX4_find_16 : decode cX4_find 16 = .ok (.iinc 1 1, 3) := by decide +kernel
theorem dX4_find_19 : decode cX4_find 19 = .ok (.goto (-17), 3) := by decide +kernel
theorem dX4_find_22 : decode cX4_find 22 = .ok (.iconst 0, 1) := by decide +kernel
theorem dX4_find_23 : decode cX4_find 23 = .ok (.istore_n 1, 1) := by decide +kernel
theorem dX4_find_24 : decode cX4_find 24 = .ok (.iconst 0, 1) := by decide +kernel
theorem dX4_find_25 : decode cX4_find 25 = .ok (.istore_n 2, 1) := by decide +kernel
theorem dX4_find_26 : decode cX4_find 26 = .ok (.iload_n 2, 1) := by decide +kernel
theorem dX4_find_27 : decode cX4_find 27 = .ok (.sipush 256, 3) := by decide +kernel
theorem dX4_find_30 : decode cX4_find 30 = .ok (.if_icmp .ge 43, 3) := by decide +kernel
theorem dX4_find_33 : decode cX4_find 33 = .ok (.aload_n 0, 1) := by decide +kernel
theorem dX4_find_34 : decode cX4_find 34 = .ok (.getfield 33, 3) := by decide +kernel
theorem dX4_find_37 : decode cX4_find 37 = .ok (.iload_n 2, 1) := by decide +kernel
theorem dX4_find_38 : decode cX4_find 38 = .ok (.iaload, 1) := by decide +kernel
theorem dX4_find_39 : decode cX4_find 39 = .ok (.iconst 1, 1) := by decide +kernel
theorem dX4_find_40 : decode cX4_find 40 = .ok (.if_icmp .le 27, 3) := by decide +kernel
theorem dX4_find_43 : decode cX4_find 43 = .ok (.aload_n 0, 1) := by decide +kernel
theorem dX4_find_44 : decode cX4_find 44 = .ok (.getfield 42, 3) := by decide +kernel
theorem dX4_find_47 : decode cX4_find 47 = .ok (.iload_n 2, 1) := by decide +kernel
theorem dX4_find_48 : decode cX4_find 48 = .ok (.iaload, 1) := by decide +kernel
theorem dX4_find_49 : decode cX4_find 49 = .ok (.ifCond .ge 18, 3) := by decide +kernel
theorem dX4_find_52 : decode cX4_find 52 = .ok (.aload_n 0, 1) := by decide +kernel
theorem dX4_find_53 : decode cX4_find 53 = .ok (.getfield 42, 3) := by decide +kernel
theorem dX4_find_56 : decode cX4_find 56 = .ok (.iload_n 2, 1) := by decide +kernel
theorem dX4_find_57 : decode cX4_find 57 = .ok (.iload_n 1, 1) := by decide +kernel
theorem dX4_find_58 : decode cX4_find 58 = .ok (.iastore, 1) := by decide +kernel
theorem dX4_find_59 : decode cX4_find 59 = .ok (.aload_n 0, 1) := by decide +kernel
theorem dX4_find_60 : decode cX4_find 60 = .ok (.iload_n 1, 1) := by decide +kernel
theorem dX4_find_61 : decode cX4_find 61 = .ok (.invokevirtual 102, 3) := by decide +kernel
theorem dX4_find_64 : decode cX4_find 64 = .ok (.iinc 1 1, 3) := by decide +kernel
theorem dX4_find_67 : decode cX4_find 67 = .ok (.iinc 2 1, 3) := by decide +kernel
theorem dX4_find_70 : decode cX4_find 70 = .ok (.goto (-44), 3) := by decide +kernel
theorem dX4_find_73 : decode cX4_find 73 = .ok (.iload_n 1, 1) := by decide +kernel
theorem dX4_find_74 : decode cX4_find 74 = .ok (.ireturn, 1) := by decide +kernel
set_option maxRecDepth 20000 in
theorem ggX4_spread_X4_isKnown : GoodIn wsX4_spread wsX4_isKnown := goodIn_r _ [6, 7, 8, 9, 5, 10, 19, 20, 21, 22, 23, 24, 25, 26, 27, 28, 29, 30, 31, 32, 33, 34, 35] (by decide +kernel) (by decide +kernel)
set_option maxRecDepth 20000 in
theorem gX4_spread_X4_isKnown : GoodIn wsX4_spread (wsV RX4 105 RX4 yX4_isKnown wsX4_isKnown) := goodIn_app (goodIn_of _ (by decide +kernel)) ggX4_spread_X4_isKnown
set_option maxRecDepth 20000 in
theorem ggX4_spread_X4_isBeside : GoodIn wsX4_spread wsX4_isBeside := goodIn_r _ [14, 15, 16, 17, 5, 18, 1, 8, 9, 10, 19, 20, 21, 22, 23, 24, 25, 26, 27, 28, 29, 30, 31, 32, 33, 34, 35] (by decide +kernel) (by decide +kernel)
set_option maxRecDepth 20000 in
theorem gX4_spread_X4_isBeside : GoodIn wsX4_spread (wsV RX4 108 RX4 yX4_isBeside wsX4_isBeside) := goodIn_app (goodIn_of _ (by decide +kernel)) ggX4_spread_X4_isBeside
theorem dX4_spread_0 : decode cX4_spread 0 = .ok (.iconst 1, 1) := by decide +kernel
theorem dX4_spread_1 : decode cX4_spread 1 = .ok (.istore_n 2, 1) := by decide +kernel
theorem dX4_spread_2 : decode cX4_spread 2 = .ok (.iload_n 2, 1) := by decide +kernel
theorem dX4_spread_3 : decode cX4_spread 3 = .ok (.ifCond .eq 89, 3) := by decide +kernel
theorem dX4_spread_6 : decode cX4_spread 6 = .ok (.iconst 0, 1) := by decide +kernel
theorem dX4_spread_7 : decode cX4_spread 7 = .ok (.istore_n 2, 1) := by decide +kernel
theorem dX4_spread_8 : decode cX4_spread 8 = .ok (.iconst 0, 1) := by decide +kernel
theorem dX4_spread_9 : decode cX4_spread 9 = .ok (.istore_n 3, 1) := by decide +kernel
theorem dX4_spread_10 : decode cX4_spread 10 = .ok (.iload_n 3, 1) := by decide +kernel
theorem dX4_spread_11 : decode cX4_spread 11 = .ok (.bipush 16, 2) := by decide +kernel
theorem dX4_spread_13 : decode cX4_spread 13 = .ok (.if_icmp .ge 76, 3) := by decide +kernel
theorem dX4_spread_16 : decode cX4_spread 16 = .ok (.iconst 0, 1) := by decide +kernel
theorem dX4_spread_17 : decode cX4_spread 17 = .ok (.istore 4, 2) := by decide +kernel
theorem dX4_spread_19 : decode cX4_spread 19 = .ok (.iload 4, 2) := by decide +kernel
theorem dX4_spread_21 : decode cX4_spread 21 = .ok (.bipush 16, 2) := by decide +kernel
theorem dX4_spread_23 : decode cX4_spread 23 = .ok (.if_icmp .ge 60, 3) := by decide +kernel
theorem dX4_spread_26 : decode cX4_spread 26 = .ok (.aload_n 0, 1) := by decide +kernel
theorem dX4_spread_27 : decode cX4_spread 27 = .ok (.iload 4, 2) := by decide +kernel
theorem dX4_spread_29 : decode cX4_spread 29 = .ok (.iload_n 3, 1) := by decide +kernel
theorem dX4_spread_30 : decode cX4_spread 30 = .ok (.invokevirtual 105, 3) := by decide +kernel
theorem dX4_spread_33 : decode cX4_spread 33 = .ok (.ifCond .eq 44, 3) := by decide +kernel
theorem dX4_spread_36 : decode cX4_spread 36 = .ok (.aload_n 0, 1) := by decide +kernel
theorem dX4_spread_37 : decode cX4_spread 37 = .ok (.getfield 42, 3) := by decide +kernel
theorem dX4_spread_40 : decode cX4_spread 40 = .ok (.bipush 16, 2) := by decide +kernel
theorem dX4_spread_42 : decode cX4_spread 42 = .ok (.iload_n 3, 1) := by decide +kernel
theorem dX4_spread_43 : decode cX4_spread 43 = .ok (.imul, 1) := by decide +kernel
theorem dX4_spread_44 : decode cX4_spread 44 = .ok (.iload 4, 2) := by decide +kernel
theorem dX4_spread_46 : decode cX4_spread 46 = .ok (.iadd, 1) := by decide +kernel
theorem dX4_spread_47 : decode cX4_spread 47 = .ok (.iaload, 1) := by decide +kernel
theorem dX4_spread_48 : decode cX4_spread 48 = .ok (.ifCond .ge 29, 3) := by decide +kernel
theorem dX4_spread_51 : decode cX4_spread 51 = .ok (.aload_n 0, 1) := by decide +kernel
theorem dX4_spread_52 : decode cX4_spread 52 = .ok (.iload 4, 2) := by decide +kernel
theorem dX4_spread_54 : decode cX4_spread 54 = .ok (.iload_n 3, 1) := by decide +kernel
theorem dX4_spread_55 : decode cX4_spread 55 = .ok (.iload_n 1, 1) := by decide +kernel
theorem dX4_spread_56 : decode cX4_spread 56 = .ok (.invokevirtual 108, 3) := by decide +kernel
theorem dX4_spread_59 : decode cX4_spread 59 = .ok (.ifCond .eq 18, 3) := by decide +kernel
theorem dX4_spread_62 : decode cX4_spread 62 = .ok (.aload_n 0, 1) := by decide +kernel
theorem dX4_spread_63 : decode cX4_spread 63 = .ok (.getfield 42, 3) := by decide +kernel
theorem dX4_spread_66 : decode cX4_spread 66 = .ok (.bipush 16, 2) := by decide +kernel
theorem dX4_spread_68 : decode cX4_spread 68 = .ok (.iload_n 3, 1) := by decide +kernel
theorem dX4_spread_69 : decode cX4_spread 69 = .ok (.imul, 1) := by decide +kernel
theorem dX4_spread_70 : decode cX4_spread 70 = .ok (.iload 4, 2) := by decide +kernel
theorem dX4_spread_72 : decode cX4_spread 72 = .ok (.iadd, 1) := by decide +kernel
theorem dX4_spread_73 : decode cX4_spread 73 = .ok (.iload_n 1, 1) := by decide +kernel
theorem dX4_spread_74 : decode cX4_spread 74 = .ok (.iastore, 1) := by decide +kernel
theorem dX4_spread_75 : decode cX4_spread 75 = .ok (.iconst 1, 1) := by decide +kernel
theorem dX4_spread_76 : decode cX4_spread 76 = .ok (.istore_n 2, 1) := by decide +kernel
theorem dX4_spread_77 : decode cX4_spread 77 = .ok (.iinc 4 1, 3) := by decide +kernel
theorem dX4_spread_80 : decode cX4_spread 80 = .ok (.goto (-61), 3) := by decide +kernel
theorem dX4_spread_83 : decode cX4_spread 83 = .ok (.iinc 3 1, 3) := by decide +kernel
theorem dX4_spread_86 : decode cX4_spread 86 = .ok (.goto (-76), 3) := by decide +kernel
theorem dX4_spread_89 : decode cX4_spread 89 = .ok (.goto (-87), 3) := by decide +kernel
theorem dX4_spread_92 : decode cX4_spread 92 = .ok (.return_, 1) := by decide +kernel
set_option maxRecDepth 20000 in
theorem ggX4_isOf_X4_isPlace : GoodIn wsX4_isOf wsX4_isPlace := goodIn_r _ [5] (by decide +kernel) (by decide +kernel)
set_option maxRecDepth 20000 in
theorem gX4_isOf_X4_isPlace : GoodIn wsX4_isOf (va_wsS RX4 95 yX4_isPlace wsX4_isPlace) := goodIn_app (goodIn_of _ (by decide +kernel)) ggX4_isOf_X4_isPlace
theorem dX4_isOf_0 : decode cX4_isOf 0 = .ok (.iload_n 1, 1) := by decide +kernel
theorem dX4_isOf_1 : decode cX4_isOf 1 = .ok (.iload_n 2, 1) := by decide +kernel
theorem dX4_isOf_2 : decode cX4_isOf 2 = .ok (.invokestatic 95, 3) := by decide +kernel
theorem dX4_isOf_5 : decode cX4_isOf 5 = .ok (.ifCond .eq 22, 3) := by decide +kernel
theorem dX4_isOf_8 : decode cX4_isOf 8 = .ok (.aload_n 0, 1) := by decide +kernel
theorem dX4_isOf_9 : decode cX4_isOf 9 = .ok (.getfield 42, 3) := by decide +kernel
theorem dX4_isOf_12 : decode cX4_isOf 12 = .ok (.bipush 16, 2) := by decide +kernel
theorem dX4_isOf_14 : decode cX4_isOf 14 = .ok (.iload_n 2, 1) := by decide +kernel
theorem dX4_isOf_15 : decode cX4_isOf 15 = .ok (.imul, 1) := by decide +kernel
theorem dX4_isOf_16 : decode cX4_isOf 16 = .ok (.iload_n 1, 1) := by decide +kernel
theorem dX4_isOf_17 : decode cX4_isOf 17 = .ok (.iadd, 1) := by decide +kernel
theorem dX4_isOf_18 : decode cX4_isOf 18 = .ok (.iaload, 1) := by decide +kernel
theorem dX4_isOf_19 : decode cX4_isOf 19 = .ok (.iload_n 3, 1) := by decide +kernel
theorem dX4_isOf_20 : decode cX4_isOf 20 = .ok (.if_icmp .ne 7, 3) := by decide +kernel
theorem dX4_isOf_23 : decode cX4_isOf 23 = .ok (.iconst 1, 1) := by decide +kernel
theorem dX4_isOf_24 : decode cX4_isOf 24 = .ok (.goto 4, 3) := by decide +kernel
theorem dX4_isOf_27 : decode cX4_isOf 27 = .ok (.iconst 0, 1) := by decide +kernel
theorem dX4_isOf_28 : decode cX4_isOf 28 = .ok (.ireturn, 1) := by decide +kernel
set_option maxRecDepth 20000 in
theorem ggX4_isBeside_X4_isOf : GoodIn wsX4_isBeside wsX4_isOf := goodIn_r _ [5, 6, 7, 8, 4, 9, 10, 11, 12, 13, 14, 15, 16, 17, 18, 19, 20, 21, 22, 23, 24, 25, 26] (by decide +kernel) (by decide +kernel)
set_option maxRecDepth 20000 in
theorem gX4_isBeside_X4_isOf : GoodIn wsX4_isBeside (wsV RX4 112 RX4 yX4_isOf wsX4_isOf) := goodIn_app (goodIn_of _ (by decide +kernel)) ggX4_isBeside_X4_isOf
theorem dX4_isBeside_0 : decode cX4_isBeside 0 = .ok (.aload_n 0, 1) := by decide +kernel
theorem dX4_isBeside_1 : decode cX4_isBeside 1 = .ok (.iload_n 1, 1) := by decide +kernel
theorem dX4_isBeside_2 : decode cX4_isBeside 2 = .ok (.iconst 1, 1) := by decide +kernel
theorem dX4_isBeside_3 : decode cX4_isBeside 3 = .ok (.isub, 1) := by decide +kernel
theorem dX4_isBeside_4 : decode cX4_isBeside 4 = .ok (.iload_n 2, 1) := by decide +kernel
theorem dX4_isBeside_5 : decode cX4_isBeside 5 = .ok (.iload_n 3, 1) := by decide +kernel
theorem dX4_isBeside_6 : decode cX4_isBeside 6 = .ok (.invokevirtual 112, 3) := by decide +kernel
theorem dX4_isBeside_9 : decode cX4_isBeside 9 = .ok (.ifCond .ne 39, 3) := by decide +kernel
theorem dX4_isBeside_12 : decode cX4_isBeside 12 = .ok (.aload_n 0, 1) := by decide +kernel
theorem dX4_isBeside_13 : decode cX4_isBeside 13 = .ok (.iload_n 1, 1) := by decide +kernel
theorem dX4_isBeside_14 : decode cX4_isBeside 14 = .ok (.iconst 1, 1) := by decide +kernel
theorem dX4_isBeside_15 : decode cX4_isBeside 15 = .ok (.iadd, 1) := by decide +kernel
theorem dX4_isBeside_16 : decode cX4_isBeside 16 = .ok (.iload_n 2, 1) := by decide +kernel
theorem dX4_isBeside_17 : decode cX4_isBeside 17 = .ok (.iload_n 3, 1) := by decide +kernel
theorem dX4_isBeside_18 : decode cX4_isBeside 18 = .ok (.invokevirtual 112, 3) := by decide +kernel
theorem dX4_isBeside_21 : decode cX4_isBeside 21 = .ok (.ifCond .ne 27, 3) := by decide +kernel
theorem dX4_isBeside_24 : decode cX4_isBeside 24 = .ok (.aload_n 0, 1) := by decide +kernel
theorem dX4_isBeside_25 : decode cX4_isBeside 25 = .ok (.iload_n 1, 1) := by decide +kernel
theorem dX4_isBeside_26 : decode cX4_isBeside 26 = .ok (.iload_n 2, 1) := by decide +kernel
theorem dX4_isBeside_27 : decode cX4_isBeside 27 = .ok (.iconst 1, 1) := by decide +kernel
theorem dX4_isBeside_28 : decode cX4_isBeside 28 = .ok (.isub, 1) := by decide +kernel
theorem dX4_isBeside_29 : decode cX4_isBeside 29 = .ok (.iload_n 3, 1) := by decide +kernel
theorem dX4_isBeside_30 : decode cX4_isBeside 30 = .ok (.invokevirtual 112, 3) := by decide +kernel
theorem dX4_isBeside_33 : decode cX4_isBeside 33 = .ok (.ifCond .ne 15, 3) := by decide +kernel
theorem dX4_isBeside_36 : decode cX4_isBeside 36 = .ok (.aload_n 0, 1) := by decide +kernel
theorem dX4_isBeside_37 : decode cX4_isBeside 37 = .ok (.iload_n 1, 1) := by decide +kernel
theorem dX4_isBeside_38 : decode cX4_isBeside 38 = .ok (.iload_n 2, 1) := by decide +kernel
theorem dX4_isBeside_39 : decode cX4_isBeside 39 = .ok (.iconst 1, 1) := by decide +kernel
theorem dX4_isBeside_40 : decode cX4_isBeside 40 = .ok (.iadd, 1) := by decide +kernel
theorem dX4_isBeside_41 : decode cX4_isBeside 41 = .ok (.iload_n 3, 1) := by decide +kernel
theorem dX4_isBeside_42 : decode cX4_isBeside 42 = .ok (.invokevirtual 112, 3) := by decide +kernel
theorem dX4_isBeside_45 : decode cX4_isBeside 45 = .ok (.ifCond .eq 7, 3) := by decide +kernel
theorem dX4_isBeside_48 : decode cX4_isBeside 48 = .ok (.iconst 1, 1) := by decide +kernel
theorem dX4_isBeside_49 : decode cX4_isBeside 49 = .ok (.goto 4, 3) := by decide +kernel
theorem dX4_isBeside_52 : decode cX4_isBeside 52 = .ok (.iconst 0, 1) := by decide +kernel
theorem dX4_isBeside_53 : decode cX4_isBeside 53 = .ok (.ireturn, 1) := by decide +kernel
set_option maxRecDepth 20000 in
theorem ggX4_piece_X4_find : GoodIn wsX4_piece wsX4_find := goodIn_r _ [7, 2, 8, 9, 10, 11, 6, 12, 13, 14, 15, 16, 17, 18, 19, 20, 21, 22, 23, 24, 25, 26, 27, 28, 29, 30, 31, 32, 33, 34, 35, 36, 37, 38, 39, 40, 41, 42, 43, 44] (by decide +kernel) (by decide +kernel)
set_option maxRecDepth 20000 in
theorem gX4_piece_X4_find : GoodIn wsX4_piece (wsV RX4 115 RX4 yX4_find wsX4_find) := goodIn_app (goodIn_of _ (by decide +kernel)) ggX4_piece_X4_find
set_option maxRecDepth 20000 in
theorem ggX4_piece_X4_isPlace : GoodIn wsX4_piece wsX4_isPlace := goodIn_r _ [19] (by decide +kernel) (by decide +kernel)
set_option maxRecDepth 20000 in
theorem gX4_piece_X4_isPlace : GoodIn wsX4_piece (va_wsS RX4 95 yX4_isPlace wsX4_isPlace) := goodIn_app (goodIn_of _ (by decide +kernel)) ggX4_piece_X4_isPlace
theorem dX4_piece_0 : decode cX4_piece 0 = .ok (.aload_n 0, 1) := by decide +kernel
theorem dX4_piece_1 : decode cX4_piece 1 = .ok (.iconst 0, 1) := by decide +kernel
theorem dX4_piece_2 : decode cX4_piece 2 = .ok (.putfield 49, 3) := by decide +kernel
theorem dX4_piece_5 : decode cX4_piece 5 = .ok (.aload_n 0, 1) := by decide +kernel
theorem dX4_piece_6 : decode cX4_piece 6 = .ok (.invokevirtual 115, 3) := by decide +kernel
theorem dX4_piece_9 : decode cX4_piece 9 = .ok (.istore_n 3, 1) := by decide +kernel
theorem dX4_piece_10 : decode cX4_piece 10 = .ok (.iload_n 1, 1) := by decide +kernel
theorem dX4_piece_11 : decode cX4_piece 11 = .ok (.iload_n 2, 1) := by decide +kernel
theorem dX4_piece_12 : decode cX4_piece 12 = .ok (.invokestatic 95, 3) := by decide +kernel
theorem dX4_piece_15 : decode cX4_piece 15 = .ok (.ifCond .eq 17, 3) := by decide +kernel
theorem dX4_piece_18 : decode cX4_piece 18 = .ok (.aload_n 0, 1) := by decide +kernel
theorem dX4_piece_19 : decode cX4_piece 19 = .ok (.getfield 42, 3) := by decide +kernel
theorem dX4_piece_22 : decode cX4_piece 22 = .ok (.bipush 16, 2) := by decide +kernel
theorem dX4_piece_24 : decode cX4_piece 24 = .ok (.iload_n 2, 1) := by decide +kernel
theorem dX4_piece_25 : decode cX4_piece 25 = .ok (.imul, 1) := by decide +kernel
theorem dX4_piece_26 : decode cX4_piece 26 = .ok (.iload_n 1, 1) := by decide +kernel
theorem dX4_piece_27 : decode cX4_piece 27 = .ok (.iadd, 1) := by decide +kernel
theorem dX4_piece_28 : decode cX4_piece 28 = .ok (.iaload, 1) := by decide +kernel
theorem dX4_piece_29 : decode cX4_piece 29 = .ok (.goto 4, 3) := by decide +kernel
theorem dX4_piece_32 : decode cX4_piece 32 = .ok (.iconst (-1), 1) := by decide +kernel
theorem dX4_piece_33 : decode cX4_piece 33 = .ok (.ireturn, 1) := by decide +kernel
theorem dX4_pixelsOf_0 : decode cX4_pixelsOf 0 = .ok (.iconst 0, 1) := by decide +kernel
theorem dX4_pixelsOf_1 : decode cX4_pixelsOf 1 = .ok (.istore_n 3, 1) := by decide +kernel
theorem dX4_pixelsOf_2 : decode cX4_pixelsOf 2 = .ok (.iconst 0, 1) := by decide +kernel
theorem dX4_pixelsOf_3 : decode cX4_pixelsOf 3 = .ok (.istore 4, 2) := by decide +kernel
theorem dX4_pixelsOf_5 : decode cX4_pixelsOf 5 = .ok (.iload 4, 2) := by decide +kernel
theorem dX4_pixelsOf_7 : decode cX4_pixelsOf 7 = .ok (.sipush 256, 3) := by decide +kernel
theorem dX4_pixelsOf_10 : decode cX4_pixelsOf 10 = .ok (.if_icmp .ge 41, 3) := by decide +kernel
theorem dX4_pixelsOf_13 : decode cX4_pixelsOf 13 = .ok (.iload_n 3, 1) := by decide +kernel
theorem dX4_pixelsOf_14 : decode cX4_pixelsOf 14 = .ok (.aload_n 0, 1) := by decide +kernel
theorem dX4_pixelsOf_15 : decode cX4_pixelsOf 15 = .ok (.getfield 42, 3) := by decide +kernel
theorem dX4_pixelsOf_18 : decode cX4_pixelsOf 18 = .ok (.iload 4, 2) := by decide +kernel
theorem dX4_pixelsOf_20 : decode cX4_pixelsOf 20 = .ok (.iaload, 1) := by decide +kernel
theorem dX4_pixelsOf_21 : decode cX4_pixelsOf 21 = .ok (.iload_n 1, 1) := by decide +kernel
theorem dX4_pixelsOf_22 : decode cX4_pixelsOf 22 = .ok (.if_icmp .ne 20, 3) := by decide +kernel
theorem dX4_pixelsOf_25 : decode cX4_pixelsOf 25 = .ok (.aload_n 0, 1) := by decide +kernel
theorem dX4_pixelsOf_26 : decode cX4_pixelsOf 26 = .ok (.getfield 33, 3) := by decide +kernel
theorem dX4_pixelsOf_29 : decode cX4_pixelsOf 29 = .ok (.iload 4, 2) := by decide +kernel
theorem dX4_pixelsOf_31 : decode cX4_pixelsOf 31 = .ok (.iaload, 1) := by decide +kernel
theorem dX4_pixelsOf_32 : decode cX4_pixelsOf 32 = .ok (.iload_n 2, 1) := by decide +kernel
theorem dX4_pixelsOf_33 : decode cX4_pixelsOf 33 = .ok (.iconst 2, 1) := by decide +kernel
theorem dX4_pixelsOf_34 : decode cX4_pixelsOf 34 = .ok (.iadd, 1) := by decide +kernel
theorem dX4_pixelsOf_35 : decode cX4_pixelsOf 35 = .ok (.if_icmp .ne 7, 3) := by decide +kernel
theorem dX4_pixelsOf_38 : decode cX4_pixelsOf 38 = .ok (.iconst 1, 1) := by decide +kernel
theorem dX4_pixelsOf_39 : decode cX4_pixelsOf 39 = .ok (.goto 4, 3) := by decide +kernel
theorem dX4_pixelsOf_42 : decode cX4_pixelsOf 42 = .ok (.iconst 0, 1) := by decide +kernel
theorem dX4_pixelsOf_43 : decode cX4_pixelsOf 43 = .ok (.iadd, 1) := by decide +kernel
theorem dX4_pixelsOf_44 : decode cX4_pixelsOf 44 = .ok (.istore_n 3, 1) := by decide +kernel
theorem dX4_pixelsOf_45 : decode cX4_pixelsOf 45 = .ok (.iinc 4 1, 3) := by decide +kernel
theorem dX4_pixelsOf_48 : decode cX4_pixelsOf 48 = .ok (.goto (-43), 3) := by decide +kernel
theorem dX4_pixelsOf_51 : decode cX4_pixelsOf 51 = .ok (.iload_n 3, 1) := by decide +kernel
theorem dX4_pixelsOf_52 : decode cX4_pixelsOf 52 = .ok (.ireturn, 1) := by decide +kernel
set_option maxRecDepth 20000 in
theorem ggX4_pieceKind_X4_find : GoodIn wsX4_pieceKind wsX4_find := goodIn_r _ [8, 9, 10, 11, 12, 13, 7, 14, 15, 16, 17, 18, 19, 20, 21, 22, 23, 24, 25, 26, 27, 28, 29, 34, 35, 36, 37, 38, 39, 40, 41, 42, 43, 44, 45, 46, 47, 48, 49, 50] (by decide +kernel) (by decide +kernel)
set_option maxRecDepth 20000 in
theorem gX4_pieceKind_X4_find : GoodIn wsX4_pieceKind (wsV RX4 115 RX4 yX4_find wsX4_find) := goodIn_app (goodIn_of _ (by decide +kernel)) ggX4_pieceKind_X4_find
set_option maxRecDepth 20000 in
theorem ggX4_pieceKind_X4_pixelsOf : GoodIn wsX4_pieceKind wsX4_pixelsOf := goodIn_r _ [33, 9, 10, 34, 35, 36, 37, 38, 39, 40, 41, 42, 43, 44, 45, 46, 47, 48, 49, 50] (by decide +kernel) (by decide +kernel)
set_option maxRecDepth 20000 in
theorem gX4_pieceKind_X4_pixelsOf : GoodIn wsX4_pieceKind (wsV RX4 119 RX4 yX4_pixelsOf wsX4_pixelsOf) := goodIn_app (goodIn_of _ (by decide +kernel)) ggX4_pieceKind_X4_pixelsOf
theorem dX4_pieceKind_0 : decode cX4_pieceKind 0 = .ok (.aload_n 0, 1) := by decide +kernel
theorem dX4_pieceKind_1 : decode cX4_pieceKind 1 = .ok (.iconst 0, 1) := by decide +kernel
theorem dX4_pieceKind_2 : decode cX4_pieceKind 2 = .ok (.putfield 49, 3) := by decide +kernel
theorem dX4_pieceKind_5 : decode cX4_pieceKind 5 = .ok (.iload_n 1, 1) := by decide +kernel
theorem dX4_pieceKind_6 : decode cX4_pieceKind 6 = .ok (.ifCond .lt 11, 3) := by decide +kernel
theorem dX4_pieceKind_9 : decode cX4_pieceKind 9 = .ok (.iload_n 1, 1) := by decide +kernel
theorem dX4_pieceKind_10 : decode cX4_pieceKind 10 = .ok (.aload_n 0, 1) := by decide +kernel
theorem dX4_pieceKind_11 : decode cX4_pieceKind 11 = .ok (.invokevirtual 115, 3) := by decide +kernel
theorem dX4_pieceKind_14 : decode cX4_pieceKind 14 = .ok (.if_icmp .lt 5, 3) := by decide +kernel
theorem dX4_pieceKind_17 : decode cX4_pieceKind 17 = .ok (.iconst (-1), 1) := by decide +kernel
theorem dX4_pieceKind_18 : decode cX4_pieceKind 18 = .ok (.ireturn, 1) := by decide +kernel
theorem dX4_pieceKind_19 : decode cX4_pieceKind 19 = .ok (.iconst 0, 1) := by decide +kernel
theorem dX4_pieceKind_20 : decode cX4_pieceKind 20 = .ok (.istore_n 2, 1) := by decide +kernel
theorem dX4_pieceKind_21 : decode cX4_pieceKind 21 = .ok (.iconst 1, 1) := by decide +kernel
theorem dX4_pieceKind_22 : decode cX4_pieceKind 22 = .ok (.istore_n 3, 1) := by decide +kernel
theorem dX4_pieceKind_23 : decode cX4_pieceKind 23 = .ok (.iload_n 3, 1) := by decide +kernel
theorem dX4_pieceKind_24 : decode cX4_pieceKind 24 = .ok (.aload_n 0, 1) := by decide +kernel
theorem dX4_pieceKind_25 : decode cX4_pieceKind 25 = .ok (.getfield 45, 3) := by decide +kernel
theorem dX4_pieceKind_28 : decode cX4_pieceKind 28 = .ok (.if_icmp .ge 61, 3) := by decide +kernel
theorem dX4_pieceKind_31 : decode cX4_pieceKind 31 = .ok (.aload_n 0, 1) := by decide +kernel
theorem dX4_pieceKind_32 : decode cX4_pieceKind 32 = .ok (.iload_n 1, 1) := by decide +kernel
theorem dX4_pieceKind_33 : decode cX4_pieceKind 33 = .ok (.iload_n 3, 1) := by decide +kernel
theorem dX4_pieceKind_34 : decode cX4_pieceKind 34 = .ok (.invokevirtual 119, 3) := by decide +kernel
theorem dX4_pieceKind_37 : decode cX4_pieceKind 37 = .ok (.istore 4, 2) := by decide +kernel
theorem dX4_pieceKind_39 : decode cX4_pieceKind 39 = .ok (.aload_n 0, 1) := by decide +kernel
theorem dX4_pieceKind_40 : decode cX4_pieceKind 40 = .ok (.iload_n 1, 1) := by decide +kernel
theorem dX4_pieceKind_41 : decode cX4_pieceKind 41 = .ok (.iload_n 2, 1) := by decide +kernel
theorem dX4_pieceKind_42 : decode cX4_pieceKind 42 = .ok (.invokevirtual 119, 3) := by decide +kernel
theorem dX4_pieceKind_45 : decode cX4_pieceKind 45 = .ok (.istore 5, 2) := by decide +kernel
theorem dX4_pieceKind_47 : decode cX4_pieceKind 47 = .ok (.iload 4, 2) := by decide +kernel
theorem dX4_pieceKind_49 : decode cX4_pieceKind 49 = .ok (.iload 5, 2) := by decide +kernel
theorem dX4_pieceKind_51 : decode cX4_pieceKind 51 = .ok (.if_icmp .gt 26, 3) := by decide +kernel
theorem dX4_pieceKind_54 : decode cX4_pieceKind 54 = .ok (.iload 4, 2) := by decide +kernel
theorem dX4_pieceKind_56 : decode cX4_pieceKind 56 = .ok (.iload 5, 2) := by decide +kernel
theorem dX4_pieceKind_58 : decode cX4_pieceKind 58 = .ok (.if_icmp .ne 23, 3) := by decide +kernel
theorem dX4_pieceKind_61 : decode cX4_pieceKind 61 = .ok (.aload_n 0, 1) := by decide +kernel
theorem dX4_pieceKind_62 : decode cX4_pieceKind 62 = .ok (.getfield 29, 3) := by decide +kernel
theorem dX4_pieceKind_65 : decode cX4_pieceKind 65 = .ok (.iload_n 3, 1) := by decide +kernel
theorem dX4_pieceKind_66 : decode cX4_pieceKind 66 = .ok (.laload, 1) := by decide +kernel
theorem dX4_pieceKind_67 : decode cX4_pieceKind 67 = .ok (.aload_n 0, 1) := by decide +kernel
theorem dX4_pieceKind_68 : decode cX4_pieceKind 68 = .ok (.getfield 29, 3) := by decide +kernel
theorem dX4_pieceKind_71 : decode cX4_pieceKind 71 = .ok (.iload_n 2, 1) := by decide +kernel
theorem dX4_pieceKind_72 : decode cX4_pieceKind 72 = .ok (.laload, 1) := by decide +kernel
theorem dX4_pieceKind_73 : decode cX4_pieceKind 73 = .ok (.lcmp, 1) := by decide +kernel
theorem dX4_pieceKind_74 : decode cX4_pieceKind 74 = .ok (.ifCond .le 7, 3) := by decide +kernel
theorem dX4_pieceKind_77 : decode cX4_pieceKind 77 = .ok (.iload_n 3, 1) := by decide +kernel
theorem dX4_pieceKind_78 : decode cX4_pieceKind 78 = .ok (.goto 4, 3) := by decide +kernel
theorem dX4_pieceKind_81 : decode cX4_pieceKind 81 = .ok (.iload_n 2, 1) := by decide +kernel
theorem dX4_pieceKind_82 : decode cX4_pieceKind 82 = .ok (.istore_n 2, 1) := by decide +kernel
theorem dX4_pieceKind_83 : decode cX4_pieceKind 83 = .ok (.iinc 3 1, 3) := by decide +kernel
theorem dX4_pieceKind_86 : decode cX4_pieceKind 86 = .ok (.goto (-63), 3) := by decide +kernel
theorem dX4_pieceKind_89 : decode cX4_pieceKind 89 = .ok (.iload_n 2, 1) := by decide +kernel
theorem dX4_pieceKind_90 : decode cX4_pieceKind 90 = .ok (.ireturn, 1) := by decide +kernel
set_option maxRecDepth 20000 in
theorem ggX4_neighbours_X4_find : GoodIn wsX4_neighbours wsX4_find := goodIn_r _ [6, 7, 8, 9, 10, 11, 5, 12, 13, 14, 15, 16, 17, 18, 19, 20, 21, 22, 23, 24, 25, 26, 27, 32, 33, 34, 35, 36, 37, 38, 39, 40, 41, 42, 43, 44, 45, 46, 47, 48] (by decide +kernel) (by decide +kernel)
set_option maxRecDepth 20000 in
theorem gX4_neighbours_X4_find : GoodIn wsX4_neighbours (wsV RX4 115 RX4 yX4_find wsX4_find) := goodIn_app (goodIn_of _ (by decide +kernel)) ggX4_neighbours_X4_find
set_option maxRecDepth 20000 in
theorem ggX4_neighbours_X4_areNear : GoodIn wsX4_neighbours wsX4_areNear := goodIn_r _ [31, 24, 25, 26, 5, 27, 7, 17, 18, 19, 32, 33, 34, 35, 36, 37, 38, 39, 40, 41, 42, 43, 44, 45, 46, 47, 48] (by decide +kernel) (by decide +kernel)
set_option maxRecDepth 20000 in
theorem gX4_neighbours_X4_areNear : GoodIn wsX4_neighbours (wsV RX4 123 RX4 yX4_areNear wsX4_areNear) := goodIn_app (goodIn_of _ (by decide +kernel)) ggX4_neighbours_X4_areNear
theorem dX4_neighbours_0 : decode cX4_neighbours 0 = .ok (.aload_n 0, 1) := by decide +kernel
theorem dX4_neighbours_1 : decode cX4_neighbours 1 = .ok (.iconst 0, 1) := by decide +kernel
theorem dX4_neighbours_2 : decode cX4_neighbours 2 = .ok (.putfield 49, 3) := by decide +kernel
theorem dX4_neighbours_5 : decode cX4_neighbours 5 = .ok (.aload_n 0, 1) := by decide +kernel
theorem dX4_neighbours_6 : decode cX4_neighbours 6 = .ok (.invokevirtual 115, 3) := by decide +kernel
theorem dX4_neighbours_9 : decode cX4_neighbours 9 = .ok (.istore_n 2, 1) := by decide +kernel
theorem dX4_neighbours_10 : decode cX4_neighbours 10 = .ok (.iload_n 1, 1) := by decide +kernel
theorem dX4_neighbours_11 : decode cX4_neighbours 11 = .ok (.ifCond .lt 8, 3) := by decide +kernel
theorem dX4_neighbours_14 : decode cX4_neighbours 14 = .ok (.iload_n 1, 1) := by decide +kernel
theorem dX4_neighbours_15 : decode cX4_neighbours 15 = .ok (.iload_n 2, 1) := by decide +kernel
theorem dX4_neighbours_16 : decode cX4_neighbours 16 = .ok (.if_icmp .lt 5, 3) := by decide +kernel
theorem dX4_neighbours_19 : decode cX4_neighbours 19 = .ok (.iconst (-1), 1) := by decide +kernel
theorem dX4_neighbours_20 : decode cX4_neighbours 20 = .ok (.ireturn, 1) := by decide +kernel
theorem dX4_neighbours_21 : decode cX4_neighbours 21 = .ok (.iconst 0, 1) := by decide +kernel
theorem dX4_neighbours_22 : decode cX4_neighbours 22 = .ok (.istore_n 3, 1) := by decide +kernel
theorem dX4_neighbours_23 : decode cX4_neighbours 23 = .ok (.iconst 0, 1) := by decide +kernel
theorem dX4_neighbours_24 : decode cX4_neighbours 24 = .ok (.istore 4, 2) := by decide +kernel
theorem dX4_neighbours_26 : decode cX4_neighbours 26 = .ok (.iload 4, 2) := by decide +kernel
theorem dX4_neighbours_28 : decode cX4_neighbours 28 = .ok (.iload_n 2, 1) := by decide +kernel
theorem dX4_neighbours_29 : decode cX4_neighbours 29 = .ok (.if_icmp .ge 33, 3) := by decide +kernel
theorem dX4_neighbours_32 : decode cX4_neighbours 32 = .ok (.iload_n 3, 1) := by decide +kernel
theorem dX4_neighbours_33 : decode cX4_neighbours 33 = .ok (.iload 4, 2) := by decide +kernel
theorem dX4_neighbours_35 : decode cX4_neighbours 35 = .ok (.iload_n 1, 1) := by decide +kernel
theorem dX4_neighbours_36 : decode cX4_neighbours 36 = .ok (.if_icmp .eq 17, 3) := by decide +kernel
theorem dX4_neighbours_39 : decode cX4_neighbours 39 = .ok (.aload_n 0, 1) := by decide +kernel
theorem dX4_neighbours_40 : decode cX4_neighbours 40 = .ok (.iload_n 1, 1) := by decide +kernel
theorem dX4_neighbours_41 : decode cX4_neighbours 41 = .ok (.iload 4, 2) := by decide +kernel
theorem dX4_neighbours_43 : decode cX4_neighbours 43 = .ok (.invokevirtual 123, 3) := by decide +kernel
theorem dX4_neighbours_46 : decode cX4_neighbours 46 = .ok (.ifCond .eq 7, 3) := by decide +kernel
theorem dX4_neighbours_49 : decode cX4_neighbours 49 = .ok (.iconst 1, 1) := by decide +kernel
theorem dX4_neighbours_50 : decode cX4_neighbours 50 = .ok (.goto 4, 3) := by decide +kernel
theorem dX4_neighbours_53 : decode cX4_neighbours 53 = .ok (.iconst 0, 1) := by decide +kernel
theorem dX4_neighbours_54 : decode cX4_neighbours 54 = .ok (.iadd, 1) := by decide +kernel
theorem dX4_neighbours_55 : decode cX4_neighbours 55 = .ok (.istore_n 3, 1) := by decide +kernel
theorem dX4_neighbours_56 : decode cX4_neighbours 56 = .ok (.iinc 4 1, 3) := by decide +kernel
theorem dX4_neighbours_59 : decode cX4_neighbours 59 = .ok (.goto (-33), 3) := by decide +kernel
theorem dX4_neighbours_62 : decode cX4_neighbours 62 = .ok (.iload_n 3, 1) := by decide +kernel
theorem dX4_neighbours_63 : decode cX4_neighbours 63 = .ok (.ireturn, 1) := by decide +kernel
set_option maxRecDepth 20000 in
theorem ggX4_areNear_X4_isOf : GoodIn wsX4_areNear wsX4_isOf := goodIn_r _ [5, 6, 7, 8, 4, 9, 10, 11, 12, 13, 14, 15, 16, 17, 18, 19, 20, 21, 22, 23, 24, 25, 26] (by decide +kernel) (by decide +kernel)
set_option maxRecDepth 20000 in
theorem gX4_areNear_X4_isOf : GoodIn wsX4_areNear (wsV RX4 112 RX4 yX4_isOf wsX4_isOf) := goodIn_app (goodIn_of _ (by decide +kernel)) ggX4_areNear_X4_isOf
theorem dX4_areNear_0 : decode cX4_areNear 0 = .ok (.iconst 0, 1) := by decide +kernel
theorem dX4_areNear_1 : decode cX4_areNear 1 = .ok (.istore_n 3, 1) := by decide +kernel
theorem dX4_areNear_2 : decode cX4_areNear 2 = .ok (.iconst 0, 1) := by decide +kernel
theorem dX4_areNear_3 : decode cX4_areNear 3 = .ok (.istore 4, 2) := by decide +kernel
theorem dX4_areNear_5 : decode cX4_areNear 5 = .ok (.iload 4, 2) := by decide +kernel
theorem dX4_areNear_7 : decode cX4_areNear 7 = .ok (.bipush 16, 2) := by decide +kernel
theorem dX4_areNear_9 : decode cX4_areNear 9 = .ok (.if_icmp .ge 89, 3) := by decide +kernel
theorem dX4_areNear_12 : decode cX4_areNear 12 = .ok (.iconst 0, 1) := by decide +kernel
theorem dX4_areNear_13 : decode cX4_areNear 13 = .ok (.istore 5, 2) := by decide +kernel
theorem dX4_areNear_15 : decode cX4_areNear 15 = .ok (.iload 5, 2) := by decide +kernel
theorem dX4_areNear_17 : decode cX4_areNear 17 = .ok (.bipush 16, 2) := by decide +kernel
theorem dX4_areNear_19 : decode cX4_areNear 19 = .ok (.if_icmp .ge 73, 3) := by decide +kernel
theorem dX4_areNear_22 : decode cX4_areNear 22 = .ok (.iconst 0, 1) := by decide +kernel
theorem dX4_areNear_23 : decode cX4_areNear 23 = .ok (.istore 6, 2) := by decide +kernel
theorem dX4_areNear_25 : decode cX4_areNear 25 = .ok (.iload 6, 2) := by decide +kernel
theorem dX4_areNear_27 : decode cX4_areNear 27 = .ok (.bipush 9, 2) := by decide +kernel
theorem dX4_areNear_29 : decode cX4_areNear 29 = .ok (.if_icmp .ge 57, 3) := by decide +kernel
theorem dX4_areNear_32 : decode cX4_areNear 32 = .ok (.aload_n 0, 1) := by decide +kernel
theorem dX4_areNear_33 : decode cX4_areNear 33 = .ok (.iload 5, 2) := by decide +kernel
theorem dX4_areNear_35 : decode cX4_areNear 35 = .ok (.iload 4, 2) := by decide +kernel
theorem dX4_areNear_37 : decode cX4_areNear 37 = .ok (.iload_n 1, 1) := by decide +kernel
theorem dX4_areNear_38 : decode cX4_areNear 38 = .ok (.invokevirtual 112, 3) := by decide +kernel
theorem dX4_areNear_41 : decode cX4_areNear 41 = .ok (.ifCond .eq 45, 3) := by decide +kernel
theorem dX4_areNear_44 : decode cX4_areNear 44 = .ok (.iload_n 3, 1) := by decide +kernel
theorem dX4_areNear_45 : decode cX4_areNear 45 = .ok (.ifCond .ne 29, 3) := by decide +kernel
theorem dX4_areNear_48 : decode cX4_areNear 48 = .ok (.aload_n 0, 1) := by decide +kernel
theorem dX4_areNear_49 : decode cX4_areNear 49 = .ok (.iload 5, 2) := by decide +kernel
theorem dX4_areNear_51 : decode cX4_areNear 51 = .ok (.iload 6, 2) := by decide +kernel
theorem dX4_areNear_53 : decode cX4_areNear 53 = .ok (.iconst 3, 1) := by decide +kernel
theorem dX4_areNear_54 : decode cX4_areNear 54 = .ok (.irem, 1) := by decide +kernel
theorem dX4_areNear_55 : decode cX4_areNear 55 = .ok (.iadd, 1) := by decide +kernel
theorem dX4_areNear_56 : decode cX4_areNear 56 = .ok (.iconst 1, 1) := by decide +kernel
theorem dX4_areNear_57 : decode cX4_areNear 57 = .ok (.isub, 1) := by decide +kernel
theorem dX4_areNear_58 : decode cX4_areNear 58 = .ok (.iload 4, 2) := by decide +kernel
theorem dX4_areNear_60 : decode cX4_areNear 60 = .ok (.iload 6, 2) := by decide +kernel
theorem dX4_areNear_62 : decode cX4_areNear 62 = .ok (.iconst 3, 1) := by decide +kernel
theorem dX4_areNear_63 : decode cX4_areNear 63 = .ok (.idiv, 1) := by decide +kernel
theorem dX4_areNear_64 : decode cX4_areNear 64 = .ok (.iadd, 1) := by decide +kernel
theorem dX4_areNear_65 : decode cX4_areNear 65 = .ok (.iconst 1, 1) := by decide +kernel
theorem dX4_areNear_66 : decode cX4_areNear 66 = .ok (.isub, 1) := by decide +kernel
theorem dX4_areNear_67 : decode cX4_areNear 67 = .ok (.iload_n 2, 1) := by decide +kernel
theorem dX4_areNear_68 : decode cX4_areNear 68 = .ok (.invokevirtual 112, 3) := by decide +kernel
theorem dX4_areNear_71 : decode cX4_areNear 71 = .ok (.ifCond .eq 7, 3) := by decide +kernel
theorem dX4_areNear_74 : decode cX4_areNear 74 = .ok (.iconst 1, 1) := by decide +kernel
theorem dX4_areNear_75 : decode cX4_areNear 75 = .ok (.goto 4, 3) := by decide +kernel
theorem dX4_areNear_78 : decode cX4_areNear 78 = .ok (.iconst 0, 1) := by decide +kernel
theorem dX4_areNear_79 : decode cX4_areNear 79 = .ok (.istore_n 3, 1) := by decide +kernel
theorem dX4_areNear_80 : decode cX4_areNear 80 = .ok (.iinc 6 1, 3) := by decide +kernel
theorem dX4_areNear_83 : decode cX4_areNear 83 = .ok (.goto (-58), 3) := by decide +kernel
theorem dX4_areNear_86 : decode cX4_areNear 86 = .ok (.iinc 5 1, 3) := by decide +kernel
theorem dX4_areNear_89 : decode cX4_areNear 89 = .ok (.goto (-74), 3) := by decide +kernel
theorem dX4_areNear_92 : decode cX4_areNear 92 = .ok (.iinc 4 1, 3) := by decide +kernel
theorem dX4_areNear_95 : decode cX4_areNear 95 = .ok (.goto (-90), 3) := by decide +kernel
theorem dX4_areNear_98 : decode cX4_areNear 98 = .ok (.iload_n 3, 1) := by decide +kernel
theorem dX4_areNear_99 : decode cX4_areNear 99 = .ok (.ireturn, 1) := by decide +kernel
set_option maxRecDepth 20000 in
theorem ggX4_pack_X4_packed : GoodIn wsX4_pack wsX4_packed := goodIn_r _ [7, 8, 2, 9, 10, 11, 12, 13, 14, 15, 16, 17, 18, 19, 20, 21, 22, 23, 24, 25, 26, 27] (by decide +kernel) (by decide +kernel)
set_option maxRecDepth 20000 in
theorem gX4_pack_X4_packed : GoodIn wsX4_pack (wsV RX4 126 RX4 yX4_packed wsX4_packed) := goodIn_app (goodIn_of _ (by decide +kernel)) ggX4_pack_X4_packed
theorem dX4_pack_0 : decode cX4_pack 0 = .ok (.aload_n 0, 1) := by decide +kernel
theorem dX4_pack_1 : decode cX4_pack 1 = .ok (.iconst 0, 1) := by decide +kernel
theorem dX4_pack_2 : decode cX4_pack 2 = .ok (.putfield 49, 3) := by decide +kernel
theorem dX4_pack_5 : decode cX4_pack 5 = .ok (.iconst 3, 1) := by decide +kernel
theorem dX4_pack_6 : decode cX4_pack 6 = .ok (.bipush 9, 2) := by decide +kernel
theorem dX4_pack_8 : decode cX4_pack 8 = .ok (.aload_n 0, 1) := by decide +kernel
theorem dX4_pack_9 : decode cX4_pack 9 = .ok (.getfield 66, 3) := by decide +kernel
theorem dX4_pack_12 : decode cX4_pack 12 = .ok (.imul, 1) := by decide +kernel
theorem dX4_pack_13 : decode cX4_pack 13 = .ok (.iadd, 1) := by decide +kernel
theorem dX4_pack_14 : decode cX4_pack 14 = .ok (.istore_n 2, 1) := by decide +kernel
theorem dX4_pack_15 : decode cX4_pack 15 = .ok (.iload_n 1, 1) := by decide +kernel
theorem dX4_pack_16 : decode cX4_pack 16 = .ok (.ifCond .lt 8, 3) := by decide +kernel
theorem dX4_pack_19 : decode cX4_pack 19 = .ok (.iload_n 1, 1) := by decide +kernel
theorem dX4_pack_20 : decode cX4_pack 20 = .ok (.iload_n 2, 1) := by decide +kernel
theorem dX4_pack_21 : decode cX4_pack 21 = .ok (.if_icmp .lt 5, 3) := by decide +kernel
theorem dX4_pack_24 : decode cX4_pack 24 = .ok (.iconst (-1), 1) := by decide +kernel
theorem dX4_pack_25 : decode cX4_pack 25 = .ok (.ireturn, 1) := by decide +kernel
theorem dX4_pack_26 : decode cX4_pack 26 = .ok (.iload_n 1, 1) := by decide +kernel
theorem dX4_pack_27 : decode cX4_pack 27 = .ok (.iload_n 2, 1) := by decide +kernel
theorem dX4_pack_28 : decode cX4_pack 28 = .ok (.iconst 1, 1) := by decide +kernel
theorem dX4_pack_29 : decode cX4_pack 29 = .ok (.isub, 1) := by decide +kernel
theorem dX4_pack_30 : decode cX4_pack 30 = .ok (.if_icmp .ge 9, 3) := by decide +kernel
theorem dX4_pack_33 : decode cX4_pack 33 = .ok (.aload_n 0, 1) := by decide +kernel
theorem dX4_pack_34 : decode cX4_pack 34 = .ok (.iload_n 1, 1) := by decide +kernel
theorem dX4_pack_35 : decode cX4_pack 35 = .ok (.invokevirtual 126, 3) := by decide +kernel
theorem dX4_pack_38 : decode cX4_pack 38 = .ok (.ireturn, 1) := by decide +kernel
theorem dX4_pack_39 : decode cX4_pack 39 = .ok (.iconst 0, 1) := by decide +kernel
theorem dX4_pack_40 : decode cX4_pack 40 = .ok (.istore_n 3, 1) := by decide +kernel
theorem dX4_pack_41 : decode cX4_pack 41 = .ok (.iconst 0, 1) := by decide +kernel
theorem dX4_pack_42 : decode cX4_pack 42 = .ok (.istore 4, 2) := by decide +kernel
theorem dX4_pack_44 : decode cX4_pack 44 = .ok (.iload 4, 2) := by decide +kernel
theorem dX4_pack_46 : decode cX4_pack 46 = .ok (.iload_n 2, 1) := by decide +kernel
theorem dX4_pack_47 : decode cX4_pack 47 = .ok (.iconst 1, 1) := by decide +kernel
theorem dX4_pack_48 : decode cX4_pack 48 = .ok (.isub, 1) := by decide +kernel
theorem dX4_pack_49 : decode cX4_pack 49 = .ok (.if_icmp .ge 18, 3) := by decide +kernel
theorem dX4_pack_52 : decode cX4_pack 52 = .ok (.iload_n 3, 1) := by decide +kernel
theorem dX4_pack_53 : decode cX4_pack 53 = .ok (.aload_n 0, 1) := by decide +kernel
theorem dX4_pack_54 : decode cX4_pack 54 = .ok (.iload 4, 2) := by decide +kernel
theorem dX4_pack_56 : decode cX4_pack 56 = .ok (.invokevirtual 126, 3) := by decide +kernel
theorem dX4_pack_59 : decode cX4_pack 59 = .ok (.iadd, 1) := by decide +kernel
theorem dX4_pack_60 : decode cX4_pack 60 = .ok (.istore_n 3, 1) := by decide +kernel
theorem dX4_pack_61 : decode cX4_pack 61 = .ok (.iinc 4 1, 3) := by decide +kernel
theorem dX4_pack_64 : decode cX4_pack 64 = .ok (.goto (-20), 3) := by decide +kernel
theorem dX4_pack_67 : decode cX4_pack 67 = .ok (.iload_n 3, 1) := by decide +kernel
theorem dX4_pack_68 : decode cX4_pack 68 = .ok (.sipush 256, 3) := by decide +kernel
theorem dX4_pack_71 : decode cX4_pack 71 = .ok (.irem, 1) := by decide +kernel
theorem dX4_pack_72 : decode cX4_pack 72 = .ok (.ireturn, 1) := by decide +kernel
theorem dX4_packed_0 : decode cX4_packed 0 = .ok (.iload_n 1, 1) := by decide +kernel
theorem dX4_packed_1 : decode cX4_packed 1 = .ok (.iconst 2, 1) := by decide +kernel
theorem dX4_packed_2 : decode cX4_packed 2 = .ok (.if_icmp .ge 19, 3) := by decide +kernel
theorem dX4_packed_5 : decode cX4_packed 5 = .ok (.iload_n 1, 1) := by decide +kernel
theorem dX4_packed_6 : decode cX4_packed 6 = .ok (.ifCond .ne 10, 3) := by decide +kernel
theorem dX4_packed_9 : decode cX4_packed 9 = .ok (.aload_n 0, 1) := by decide +kernel
theorem dX4_packed_10 : decode cX4_packed 10 = .ok (.getfield 45, 3) := by decide +kernel
theorem dX4_packed_13 : decode cX4_packed 13 = .ok (.goto 7, 3) := by decide +kernel
theorem dX4_packed_16 : decode cX4_packed 16 = .ok (.aload_n 0, 1) := by decide +kernel
theorem dX4_packed_17 : decode cX4_packed 17 = .ok (.getfield 66, 3) := by decide +kernel
theorem dX4_packed_20 : decode cX4_packed 20 = .ok (.ireturn, 1) := by decide +kernel
theorem dX4_packed_21 : decode cX4_packed 21 = .ok (.iload_n 1, 1) := by decide +kernel
theorem dX4_packed_22 : decode cX4_packed 22 = .ok (.iconst 2, 1) := by decide +kernel
theorem dX4_packed_23 : decode cX4_packed 23 = .ok (.isub, 1) := by decide +kernel
theorem dX4_packed_24 : decode cX4_packed 24 = .ok (.bipush 9, 2) := by decide +kernel
theorem dX4_packed_26 : decode cX4_packed 26 = .ok (.idiv, 1) := by decide +kernel
theorem dX4_packed_27 : decode cX4_packed 27 = .ok (.istore_n 2, 1) := by decide +kernel
theorem dX4_packed_28 : decode cX4_packed 28 = .ok (.iload_n 1, 1) := by decide +kernel
theorem dX4_packed_29 : decode cX4_packed 29 = .ok (.iconst 2, 1) := by decide +kernel
theorem dX4_packed_30 : decode cX4_packed 30 = .ok (.isub, 1) := by decide +kernel
theorem dX4_packed_31 : decode cX4_packed 31 = .ok (.bipush 9, 2) := by decide +kernel
theorem dX4_packed_33 : decode cX4_packed 33 = .ok (.irem, 1) := by decide +kernel
theorem dX4_packed_34 : decode cX4_packed 34 = .ok (.istore_n 3, 1) := by decide +kernel
theorem dX4_packed_35 : decode cX4_packed 35 = .ok (.iload_n 3, 1) := by decide +kernel
theorem dX4_packed_36 : decode cX4_packed 36 = .ok (.ifCond .ne 12, 3) := by decide +kernel
theorem dX4_packed_39 : decode cX4_packed 39 = .ok (.aload_n 0, 1) := by decide +kernel
theorem dX4_packed_40 : decode cX4_packed 40 = .ok (.getfield 19, 3) := by decide +kernel
theorem dX4_packed_43 : decode cX4_packed 43 = .ok (.iload_n 2, 1) := by decide +kernel
theorem dX4_packed_44 : decode cX4_packed 44 = .ok (.iaload, 1) := by decide +kernel
theorem dX4_packed_45 : decode cX4_packed 45 = .ok (.goto 16, 3) := by decide +kernel
theorem dX4_packed_48 : decode cX4_packed 48 = .ok (.aload_n 0, 1) := by decide +kernel
theorem dX4_packed_49 : decode cX4_packed 49 = .ok (.getfield 22, 3) := by decide +kernel
theorem dX4_packed_52 : decode cX4_packed 52 = .ok (.bipush 8, 2) := by decide +kernel
theorem dX4_packed_54 : decode cX4_packed 54 = .ok (.iload_n 2, 1) := by decide +kernel
theorem dX4_packed_55 : decode cX4_packed 55 = .ok (.imul, 1) := by decide +kernel
theorem dX4_packed_56 : decode cX4_packed 56 = .ok (.iload_n 3, 1) := by decide +kernel
theorem dX4_packed_57 : decode cX4_packed 57 = .ok (.iadd, 1) := by decide +kernel
end
section
theorem dX4_packed_58 : decode cX4_packed 58 = .ok (.iconst 1, 1) := by decide +kernel
theorem dX4_packed_59 : decode cX4_packed 59 = .ok (.isub, 1) := by decide +kernel
theorem dX4_packed_60 : decode cX4_packed 60 = .ok (.iaload, 1) := by decide +kernel
theorem dX4_packed_61 : decode cX4_packed 61 = .ok (.ireturn, 1) := by decide +kernel
set_option maxRecDepth 20000 in
theorem ggX4_feed_X4_isByte : GoodIn wsX4_feed wsX4_isByte := goodIn_r _ [7] (by decide +kernel) (by decide +kernel)
set_option maxRecDepth 20000 in
theorem gX4_feed_X4_isByte : GoodIn wsX4_feed (va_wsS RX4 56 yX4_isByte wsX4_isByte) := goodIn_app (goodIn_of _ (by decide +kernel)) ggX4_feed_X4_isByte
theorem dX4_feed_0 : decode cX4_feed 0 = .ok (.aload_n 0, 1) := by decide +kernel
theorem dX4_feed_1 : decode cX4_feed 1 = .ok (.iconst 0, 1) := by decide +kernel
theorem dX4_feed_2 : decode cX4_feed 2 = .ok (.putfield 49, 3) := by decide +kernel
theorem dX4_feed_5 : decode cX4_feed 5 = .ok (.iload_n 1, 1) := by decide +kernel
theorem dX4_feed_6 : decode cX4_feed 6 = .ok (.invokestatic 56, 3) := by decide +kernel
theorem dX4_feed_9 : decode cX4_feed 9 = .ok (.ifCond .eq 13, 3) := by decide +kernel
theorem dX4_feed_12 : decode cX4_feed 12 = .ok (.aload_n 0, 1) := by decide +kernel
theorem dX4_feed_13 : decode cX4_feed 13 = .ok (.getfield 129, 3) := by decide +kernel
theorem dX4_feed_16 : decode cX4_feed 16 = .ok (.sipush 400, 3) := by decide +kernel
theorem dX4_feed_19 : decode cX4_feed 19 = .ok (.if_icmp .ne 5, 3) := by decide +kernel
theorem dX4_feed_22 : decode cX4_feed 22 = .ok (.iconst 0, 1) := by decide +kernel
theorem dX4_feed_23 : decode cX4_feed 23 = .ok (.ireturn, 1) := by decide +kernel
theorem dX4_feed_24 : decode cX4_feed 24 = .ok (.aload_n 0, 1) := by decide +kernel
theorem dX4_feed_25 : decode cX4_feed 25 = .ok (.getfield 36, 3) := by decide +kernel
theorem dX4_feed_28 : decode cX4_feed 28 = .ok (.aload_n 0, 1) := by decide +kernel
theorem dX4_feed_29 : decode cX4_feed 29 = .ok (.getfield 129, 3) := by decide +kernel
theorem dX4_feed_32 : decode cX4_feed 32 = .ok (.iload_n 1, 1) := by decide +kernel
theorem dX4_feed_33 : decode cX4_feed 33 = .ok (.iastore, 1) := by decide +kernel
theorem dX4_feed_34 : decode cX4_feed 34 = .ok (.aload_n 0, 1) := by decide +kernel
theorem dX4_feed_35 : decode cX4_feed 35 = .ok (.dup, 1) := by decide +kernel
theorem dX4_feed_36 : decode cX4_feed 36 = .ok (.getfield 129, 3) := by decide +kernel
theorem dX4_feed_39 : decode cX4_feed 39 = .ok (.iconst 1, 1) := by decide +kernel
theorem dX4_feed_40 : decode cX4_feed 40 = .ok (.iadd, 1) := by decide +kernel
theorem dX4_feed_41 : decode cX4_feed 41 = .ok (.putfield 129, 3) := by decide +kernel
theorem dX4_feed_44 : decode cX4_feed 44 = .ok (.iconst 1, 1) := by decide +kernel
theorem dX4_feed_45 : decode cX4_feed 45 = .ok (.ireturn, 1) := by decide +kernel
theorem dX4_open_0 : decode cX4_open 0 = .ok (.aload_n 0, 1) := by decide +kernel
theorem dX4_open_1 : decode cX4_open 1 = .ok (.iconst 0, 1) := by decide +kernel
theorem dX4_open_2 : decode cX4_open 2 = .ok (.putfield 49, 3) := by decide +kernel
theorem dX4_open_5 : decode cX4_open 5 = .ok (.aload_n 0, 1) := by decide +kernel
theorem dX4_open_6 : decode cX4_open 6 = .ok (.getfield 129, 3) := by decide +kernel
theorem dX4_open_9 : decode cX4_open 9 = .ok (.istore_n 1, 1) := by decide +kernel
theorem dX4_open_10 : decode cX4_open 10 = .ok (.aload_n 0, 1) := by decide +kernel
theorem dX4_open_11 : decode cX4_open 11 = .ok (.iconst 0, 1) := by decide +kernel
theorem dX4_open_12 : decode cX4_open 12 = .ok (.putfield 129, 3) := by decide +kernel
theorem dX4_open_15 : decode cX4_open 15 = .ok (.iload_n 1, 1) := by decide +kernel
theorem dX4_open_16 : decode cX4_open 16 = .ok (.iconst 3, 1) := by decide +kernel
theorem dX4_open_17 : decode cX4_open 17 = .ok (.if_icmp .lt 46, 3) := by decide +kernel
theorem dX4_open_20 : decode cX4_open 20 = .ok (.aload_n 0, 1) := by decide +kernel
theorem dX4_open_21 : decode cX4_open 21 = .ok (.getfield 36, 3) := by decide +kernel
theorem dX4_open_24 : decode cX4_open 24 = .ok (.iconst 0, 1) := by decide +kernel
theorem dX4_open_25 : decode cX4_open 25 = .ok (.iaload, 1) := by decide +kernel
theorem dX4_open_26 : decode cX4_open 26 = .ok (.aload_n 0, 1) := by decide +kernel
theorem dX4_open_27 : decode cX4_open 27 = .ok (.getfield 45, 3) := by decide +kernel
theorem dX4_open_30 : decode cX4_open 30 = .ok (.if_icmp .ne 33, 3) := by decide +kernel
theorem dX4_open_33 : decode cX4_open 33 = .ok (.aload_n 0, 1) := by decide +kernel
theorem dX4_open_34 : decode cX4_open 34 = .ok (.getfield 36, 3) := by decide +kernel
theorem dX4_open_37 : decode cX4_open 37 = .ok (.iconst 1, 1) := by decide +kernel
theorem dX4_open_38 : decode cX4_open 38 = .ok (.iaload, 1) := by decide +kernel
theorem dX4_open_39 : decode cX4_open 39 = .ok (.bipush 40, 2) := by decide +kernel
theorem dX4_open_41 : decode cX4_open 41 = .ok (.if_icmp .gt 22, 3) := by decide +kernel
theorem dX4_open_44 : decode cX4_open 44 = .ok (.iload_n 1, 1) := by decide +kernel
theorem dX4_open_45 : decode cX4_open 45 = .ok (.iconst 3, 1) := by decide +kernel
theorem dX4_open_46 : decode cX4_open 46 = .ok (.bipush 9, 2) := by decide +kernel
theorem dX4_open_48 : decode cX4_open 48 = .ok (.aload_n 0, 1) := by decide +kernel
theorem dX4_open_49 : decode cX4_open 49 = .ok (.getfield 36, 3) := by decide +kernel
theorem dX4_open_52 : decode cX4_open 52 = .ok (.iconst 1, 1) := by decide +kernel
theorem dX4_open_53 : decode cX4_open 53 = .ok (.iaload, 1) := by decide +kernel
theorem dX4_open_54 : decode cX4_open 54 = .ok (.imul, 1) := by decide +kernel
theorem dX4_open_55 : decode cX4_open 55 = .ok (.iadd, 1) := by decide +kernel
theorem dX4_open_56 : decode cX4_open 56 = .ok (.if_icmp .ne 7, 3) := by decide +kernel
theorem dX4_open_59 : decode cX4_open 59 = .ok (.iconst 1, 1) := by decide +kernel
theorem dX4_open_60 : decode cX4_open 60 = .ok (.goto 4, 3) := by decide +kernel
theorem dX4_open_63 : decode cX4_open 63 = .ok (.iconst 0, 1) := by decide +kernel
theorem dX4_open_64 : decode cX4_open 64 = .ok (.istore_n 2, 1) := by decide +kernel
theorem dX4_open_65 : decode cX4_open 65 = .ok (.iconst 0, 1) := by decide +kernel
theorem dX4_open_66 : decode cX4_open 66 = .ok (.istore_n 3, 1) := by decide +kernel
theorem dX4_open_67 : decode cX4_open 67 = .ok (.iconst 0, 1) := by decide +kernel
theorem dX4_open_68 : decode cX4_open 68 = .ok (.istore 4, 2) := by decide +kernel
theorem dX4_open_70 : decode cX4_open 70 = .ok (.iload 4, 2) := by decide +kernel
theorem dX4_open_72 : decode cX4_open 72 = .ok (.iconst 1, 1) := by decide +kernel
theorem dX4_open_73 : decode cX4_open 73 = .ok (.iadd, 1) := by decide +kernel
theorem dX4_open_74 : decode cX4_open 74 = .ok (.iload_n 1, 1) := by decide +kernel
theorem dX4_open_75 : decode cX4_open 75 = .ok (.if_icmp .ge 19, 3) := by decide +kernel
theorem dX4_open_78 : decode cX4_open 78 = .ok (.iload_n 3, 1) := by decide +kernel
theorem dX4_open_79 : decode cX4_open 79 = .ok (.aload_n 0, 1) := by decide +kernel
theorem dX4_open_80 : decode cX4_open 80 = .ok (.getfield 36, 3) := by decide +kernel
theorem dX4_open_83 : decode cX4_open 83 = .ok (.iload 4, 2) := by decide +kernel
theorem dX4_open_85 : decode cX4_open 85 = .ok (.iaload, 1) := by decide +kernel
theorem dX4_open_86 : decode cX4_open 86 = .ok (.iadd, 1) := by decide +kernel
theorem dX4_open_87 : decode cX4_open 87 = .ok (.istore_n 3, 1) := by decide +kernel
theorem dX4_open_88 : decode cX4_open 88 = .ok (.iinc 4 1, 3) := by decide +kernel
theorem dX4_open_91 : decode cX4_open 91 = .ok (.goto (-21), 3) := by decide +kernel
theorem dX4_open_94 : decode cX4_open 94 = .ok (.iload_n 2, 1) := by decide +kernel
theorem dX4_open_95 : decode cX4_open 95 = .ok (.ifCond .eq 23, 3) := by decide +kernel
theorem dX4_open_98 : decode cX4_open 98 = .ok (.iload_n 3, 1) := by decide +kernel
theorem dX4_open_99 : decode cX4_open 99 = .ok (.sipush 256, 3) := by decide +kernel
theorem dX4_open_102 : decode cX4_open 102 = .ok (.irem, 1) := by decide +kernel
theorem dX4_open_103 : decode cX4_open 103 = .ok (.aload_n 0, 1) := by decide +kernel
theorem dX4_open_104 : decode cX4_open 104 = .ok (.getfield 36, 3) := by decide +kernel
theorem dX4_open_107 : decode cX4_open 107 = .ok (.iload_n 1, 1) := by decide +kernel
theorem dX4_open_108 : decode cX4_open 108 = .ok (.iconst 1, 1) := by decide +kernel
theorem dX4_open_109 : decode cX4_open 109 = .ok (.isub, 1) := by decide +kernel
theorem dX4_open_110 : decode cX4_open 110 = .ok (.iaload, 1) := by decide +kernel
theorem dX4_open_111 : decode cX4_open 111 = .ok (.if_icmp .ne 7, 3) := by decide +kernel
theorem dX4_open_114 : decode cX4_open 114 = .ok (.iconst 1, 1) := by decide +kernel
theorem dX4_open_115 : decode cX4_open 115 = .ok (.goto 4, 3) := by decide +kernel
theorem dX4_open_118 : decode cX4_open 118 = .ok (.iconst 0, 1) := by decide +kernel
theorem dX4_open_119 : decode cX4_open 119 = .ok (.istore_n 2, 1) := by decide +kernel
theorem dX4_open_120 : decode cX4_open 120 = .ok (.iconst 0, 1) := by decide +kernel
theorem dX4_open_121 : decode cX4_open 121 = .ok (.istore 4, 2) := by decide +kernel
theorem dX4_open_123 : decode cX4_open 123 = .ok (.iload_n 2, 1) := by decide +kernel
theorem dX4_open_124 : decode cX4_open 124 = .ok (.ifCond .eq 45, 3) := by decide +kernel
theorem dX4_open_127 : decode cX4_open 127 = .ok (.iload 4, 2) := by decide +kernel
theorem dX4_open_129 : decode cX4_open 129 = .ok (.aload_n 0, 1) := by decide +kernel
theorem dX4_open_130 : decode cX4_open 130 = .ok (.getfield 36, 3) := by decide +kernel
theorem dX4_open_133 : decode cX4_open 133 = .ok (.iconst 1, 1) := by decide +kernel
theorem dX4_open_134 : decode cX4_open 134 = .ok (.iaload, 1) := by decide +kernel
theorem dX4_open_135 : decode cX4_open 135 = .ok (.if_icmp .ge 34, 3) := by decide +kernel
theorem dX4_open_138 : decode cX4_open 138 = .ok (.aload_n 0, 1) := by decide +kernel
theorem dX4_open_139 : decode cX4_open 139 = .ok (.getfield 36, 3) := by decide +kernel
theorem dX4_open_142 : decode cX4_open 142 = .ok (.iconst 2, 1) := by decide +kernel
theorem dX4_open_143 : decode cX4_open 143 = .ok (.bipush 9, 2) := by decide +kernel
theorem dX4_open_145 : decode cX4_open 145 = .ok (.iload 4, 2) := by decide +kernel
theorem dX4_open_147 : decode cX4_open 147 = .ok (.imul, 1) := by decide +kernel
theorem dX4_open_148 : decode cX4_open 148 = .ok (.iadd, 1) := by decide +kernel
theorem dX4_open_149 : decode cX4_open 149 = .ok (.iaload, 1) := by decide +kernel
theorem dX4_open_150 : decode cX4_open 150 = .ok (.aload_n 0, 1) := by decide +kernel
theorem dX4_open_151 : decode cX4_open 151 = .ok (.getfield 45, 3) := by decide +kernel
theorem dX4_open_154 : decode cX4_open 154 = .ok (.if_icmp .ge 7, 3) := by decide +kernel
theorem dX4_open_157 : decode cX4_open 157 = .ok (.iconst 1, 1) := by decide +kernel
theorem dX4_open_158 : decode cX4_open 158 = .ok (.goto 4, 3) := by decide +kernel
theorem dX4_open_161 : decode cX4_open 161 = .ok (.iconst 0, 1) := by decide +kernel
theorem dX4_open_162 : decode cX4_open 162 = .ok (.istore_n 2, 1) := by decide +kernel
theorem dX4_open_163 : decode cX4_open 163 = .ok (.iinc 4 1, 3) := by decide +kernel
theorem dX4_open_166 : decode cX4_open 166 = .ok (.goto (-43), 3) := by decide +kernel
theorem dX4_open_169 : decode cX4_open 169 = .ok (.iload_n 2, 1) := by decide +kernel
theorem dX4_open_170 : decode cX4_open 170 = .ok (.ifCond .ne 5, 3) := by decide +kernel
theorem dX4_open_173 : decode cX4_open 173 = .ok (.iconst (-1), 1) := by decide +kernel
theorem dX4_open_174 : decode cX4_open 174 = .ok (.ireturn, 1) := by decide +kernel
theorem dX4_open_175 : decode cX4_open 175 = .ok (.aload_n 0, 1) := by decide +kernel
theorem dX4_open_176 : decode cX4_open 176 = .ok (.aload_n 0, 1) := by decide +kernel
theorem dX4_open_177 : decode cX4_open 177 = .ok (.getfield 36, 3) := by decide +kernel
theorem dX4_open_180 : decode cX4_open 180 = .ok (.iconst 1, 1) := by decide +kernel
theorem dX4_open_181 : decode cX4_open 181 = .ok (.iaload, 1) := by decide +kernel
theorem dX4_open_182 : decode cX4_open 182 = .ok (.putfield 66, 3) := by decide +kernel
theorem dX4_open_185 : decode cX4_open 185 = .ok (.iconst 0, 1) := by decide +kernel
theorem dX4_open_186 : decode cX4_open 186 = .ok (.istore 4, 2) := by decide +kernel
theorem dX4_open_188 : decode cX4_open 188 = .ok (.iload 4, 2) := by decide +kernel
theorem dX4_open_190 : decode cX4_open 190 = .ok (.aload_n 0, 1) := by decide +kernel
theorem dX4_open_191 : decode cX4_open 191 = .ok (.getfield 66, 3) := by decide +kernel
theorem dX4_open_194 : decode cX4_open 194 = .ok (.if_icmp .ge 72, 3) := by decide +kernel
theorem dX4_open_197 : decode cX4_open 197 = .ok (.aload_n 0, 1) := by decide +kernel
theorem dX4_open_198 : decode cX4_open 198 = .ok (.getfield 19, 3) := by decide +kernel
theorem dX4_open_201 : decode cX4_open 201 = .ok (.iload 4, 2) := by decide +kernel
theorem dX4_open_203 : decode cX4_open 203 = .ok (.aload_n 0, 1) := by decide +kernel
theorem dX4_open_204 : decode cX4_open 204 = .ok (.getfield 36, 3) := by decide +kernel
theorem dX4_open_207 : decode cX4_open 207 = .ok (.iconst 2, 1) := by decide +kernel
theorem dX4_open_208 : decode cX4_open 208 = .ok (.bipush 9, 2) := by decide +kernel
theorem dX4_open_210 : decode cX4_open 210 = .ok (.iload 4, 2) := by decide +kernel
theorem dX4_open_212 : decode cX4_open 212 = .ok (.imul, 1) := by decide +kernel
theorem dX4_open_213 : decode cX4_open 213 = .ok (.iadd, 1) := by decide +kernel
theorem dX4_open_214 : decode cX4_open 214 = .ok (.iaload, 1) := by decide +kernel
theorem dX4_open_215 : decode cX4_open 215 = .ok (.iastore, 1) := by decide +kernel
theorem dX4_open_216 : decode cX4_open 216 = .ok (.iconst 0, 1) := by decide +kernel
theorem dX4_open_217 : decode cX4_open 217 = .ok (.istore 5, 2) := by decide +kernel
theorem dX4_open_219 : decode cX4_open 219 = .ok (.iload 5, 2) := by decide +kernel
theorem dX4_open_221 : decode cX4_open 221 = .ok (.bipush 8, 2) := by decide +kernel
theorem dX4_open_223 : decode cX4_open 223 = .ok (.if_icmp .ge 37, 3) := by decide +kernel
theorem dX4_open_226 : decode cX4_open 226 = .ok (.aload_n 0, 1) := by decide +kernel
theorem dX4_open_227 : decode cX4_open 227 = .ok (.getfield 22, 3) := by decide +kernel
theorem dX4_open_230 : decode cX4_open 230 = .ok (.bipush 8, 2) := by decide +kernel
theorem dX4_open_232 : decode cX4_open 232 = .ok (.iload 4, 2) := by decide +kernel
theorem dX4_open_234 : decode cX4_open 234 = .ok (.imul, 1) := by decide +kernel
theorem dX4_open_235 : decode cX4_open 235 = .ok (.iload 5, 2) := by decide +kernel
theorem dX4_open_237 : decode cX4_open 237 = .ok (.iadd, 1) := by decide +kernel
theorem dX4_open_238 : decode cX4_open 238 = .ok (.aload_n 0, 1) := by decide +kernel
theorem dX4_open_239 : decode cX4_open 239 = .ok (.getfield 36, 3) := by decide +kernel
theorem dX4_open_242 : decode cX4_open 242 = .ok (.iconst 3, 1) := by decide +kernel
theorem dX4_open_243 : decode cX4_open 243 = .ok (.bipush 9, 2) := by decide +kernel
theorem dX4_open_245 : decode cX4_open 245 = .ok (.iload 4, 2) := by decide +kernel
theorem dX4_open_247 : decode cX4_open 247 = .ok (.imul, 1) := by decide +kernel
theorem dX4_open_248 : decode cX4_open 248 = .ok (.iadd, 1) := by decide +kernel
theorem dX4_open_249 : decode cX4_open 249 = .ok (.iload 5, 2) := by decide +kernel
theorem dX4_open_251 : decode cX4_open 251 = .ok (.iadd, 1) := by decide +kernel
theorem dX4_open_252 : decode cX4_open 252 = .ok (.iaload, 1) := by decide +kernel
theorem dX4_open_253 : decode cX4_open 253 = .ok (.iastore, 1) := by decide +kernel
theorem dX4_open_254 : decode cX4_open 254 = .ok (.iinc 5 1, 3) := by decide +kernel
theorem dX4_open_257 : decode cX4_open 257 = .ok (.goto (-38), 3) := by decide +kernel
theorem dX4_open_260 : decode cX4_open 260 = .ok (.iinc 4 1, 3) := by decide +kernel
theorem dX4_open_263 : decode cX4_open 263 = .ok (.goto (-75), 3) := by decide +kernel
theorem dX4_open_266 : decode cX4_open 266 = .ok (.aload_n 0, 1) := by decide +kernel
theorem dX4_open_267 : decode cX4_open 267 = .ok (.getfield 66, 3) := by decide +kernel
theorem dX4_open_270 : decode cX4_open 270 = .ok (.ireturn, 1) := by decide +kernel
theorem dJx00060_init_a7421_0 : decode cJx00060_init_a7421 0 = .ok (.aload_n 0, 1) := by decide +kernel
theorem dJx00060_init_a7421_1 : decode cJx00060_init_a7421 1 = .ok (.aload_n 1, 1) := by decide +kernel
theorem dJx00060_init_a7421_2 : decode cJx00060_init_a7421 2 = .ok (.invokespecial 7, 3) := by decide +kernel
theorem dJx00060_init_a7421_5 : decode cJx00060_init_a7421 5 = .ok (.return_, 1) := by decide +kernel
theorem dJ9_min_7cf53_0 : decode cJ9_min_7cf53 0 = .ok (.iload_n 0, 1) := by decide +kernel
theorem dJ9_min_7cf53_1 : decode cJ9_min_7cf53 1 = .ok (.iload_n 1, 1) := by decide +kernel
theorem dJ9_min_7cf53_2 : decode cJ9_min_7cf53 2 = .ok (.if_icmp .gt 7, 3) := by decide +kernel
theorem dJ9_min_7cf53_5 : decode cJ9_min_7cf53 5 = .ok (.iload_n 0, 1) := by decide +kernel
theorem dJ9_min_7cf53_6 : decode cJ9_min_7cf53 6 = .ok (.goto 4, 3) := by decide +kernel
theorem dJ9_min_7cf53_9 : decode cJ9_min_7cf53 9 = .ok (.iload_n 1, 1) := by decide +kernel
theorem dJ9_min_7cf53_10 : decode cJ9_min_7cf53 10 = .ok (.ireturn, 1) := by decide +kernel
theorem dJ7_fill_53178_0 : decode cJ7_fill_53178 0 = .ok (.iconst 0, 1) := by decide +kernel
theorem dJ7_fill_53178_1 : decode cJ7_fill_53178 1 = .ok (.istore_n 2, 1) := by decide +kernel
theorem dJ7_fill_53178_2 : decode cJ7_fill_53178 2 = .ok (.aload_n 0, 1) := by decide +kernel
theorem dJ7_fill_53178_3 : decode cJ7_fill_53178 3 = .ok (.arraylength, 1) := by decide +kernel
theorem dJ7_fill_53178_4 : decode cJ7_fill_53178 4 = .ok (.istore_n 3, 1) := by decide +kernel
theorem dJ7_fill_53178_5 : decode cJ7_fill_53178 5 = .ok (.iload_n 2, 1) := by decide +kernel
theorem dJ7_fill_53178_6 : decode cJ7_fill_53178 6 = .ok (.iload_n 3, 1) := by decide +kernel
theorem dJ7_fill_53178_7 : decode cJ7_fill_53178 7 = .ok (.if_icmp .ge 13, 3) := by decide +kernel
theorem dJ7_fill_53178_10 : decode cJ7_fill_53178 10 = .ok (.aload_n 0, 1) := by decide +kernel
theorem dJ7_fill_53178_11 : decode cJ7_fill_53178 11 = .ok (.iload_n 2, 1) := by decide +kernel
theorem dJ7_fill_53178_12 : decode cJ7_fill_53178 12 = .ok (.iload_n 1, 1) := by decide +kernel
theorem dJ7_fill_53178_13 : decode cJ7_fill_53178 13 = .ok (.iastore, 1) := by decide +kernel
theorem dJ7_fill_53178_14 : decode cJ7_fill_53178 14 = .ok (.iinc 2 1, 3) := by decide +kernel
theorem dJ7_fill_53178_17 : decode cJ7_fill_53178 17 = .ok (.goto (-12), 3) := by decide +kernel
theorem dJ7_fill_53178_20 : decode cJ7_fill_53178 20 = .ok (.return_, 1) := by decide +kernel
theorem dL_cell_0 : decode cL_cell 0 = .ok (.iload_n 1, 1) := by decide +kernel
theorem dL_cell_1 : decode cL_cell 1 = .ok (.aload_n 0, 1) := by decide +kernel
theorem dL_cell_2 : decode cL_cell 2 = .ok (.arraylength, 1) := by decide +kernel
theorem dL_cell_3 : decode cL_cell 3 = .ok (.if_icmp .ge 9, 3) := by decide +kernel
theorem dL_cell_6 : decode cL_cell 6 = .ok (.aload_n 0, 1) := by decide +kernel
theorem dL_cell_7 : decode cL_cell 7 = .ok (.iload_n 1, 1) := by decide +kernel
theorem dL_cell_8 : decode cL_cell 8 = .ok (.iaload, 1) := by decide +kernel
theorem dL_cell_9 : decode cL_cell 9 = .ok (.goto 4, 3) := by decide +kernel
theorem dL_cell_12 : decode cL_cell 12 = .ok (.iconst 0, 1) := by decide +kernel
theorem dL_cell_13 : decode cL_cell 13 = .ok (.ireturn, 1) := by decide +kernel
set_option maxRecDepth 20000 in
theorem ggL_white_X3_white : GoodIn wsL_white wsX3_white := goodIn_r _ [5, 6, 7, 8, 9, 10, 11, 4, 12, 13, 14, 15, 16, 17, 18, 19, 20, 21, 22, 23, 24, 25, 26, 27, 28, 29, 30, 31, 32, 33, 34, 35, 36, 37, 38, 39, 40, 41, 42] (by decide +kernel) (by decide +kernel)
set_option maxRecDepth 20000 in
theorem gL_white_X3_white : GoodIn wsL_white (wsV RL 7 RX3 yX3_white wsX3_white) := goodIn_app (goodIn_of _ (by decide +kernel)) ggL_white_X3_white
theorem dL_white_0 : decode cL_white 0 = .ok (.aload_n 3, 1) := by decide +kernel
theorem dL_white_1 : decode cL_white 1 = .ok (.iconst 0, 1) := by decide +kernel
theorem dL_white_2 : decode cL_white 2 = .ok (.aload_n 0, 1) := by decide +kernel
theorem dL_white_3 : decode cL_white 3 = .ok (.iload_n 1, 1) := by decide +kernel
theorem dL_white_4 : decode cL_white 4 = .ok (.iload_n 2, 1) := by decide +kernel
theorem dL_white_5 : decode cL_white 5 = .ok (.invokevirtual 7, 3) := by decide +kernel
theorem dL_white_8 : decode cL_white 8 = .ok (.ifCond .eq 7, 3) := by decide +kernel
theorem dL_white_11 : decode cL_white 11 = .ok (.lconst 1, 1) := by decide +kernel
theorem dL_white_12 : decode cL_white 12 = .ok (.goto 4, 3) := by decide +kernel
theorem dL_white_15 : decode cL_white 15 = .ok (.lconst 0, 1) := by decide +kernel
theorem dL_white_16 : decode cL_white 16 = .ok (.lastore, 1) := by decide +kernel
theorem dL_white_17 : decode cL_white 17 = .ok (.goto 7, 3) := by decide +kernel
theorem dL_white_20 : decode cL_white 20 = .ok (.astore 4, 2) := by decide +kernel
theorem dL_white_22 : decode cL_white 22 = .ok (.iconst 1, 1) := by decide +kernel
theorem dL_white_23 : decode cL_white 23 = .ok (.ireturn, 1) := by decide +kernel
theorem dL_white_24 : decode cL_white 24 = .ok (.iconst 0, 1) := by decide +kernel
theorem dL_white_25 : decode cL_white 25 = .ok (.ireturn, 1) := by decide +kernel
set_option maxRecDepth 20000 in
theorem ggL_law_L_cell : GoodIn wsL_law wsL_cell := goodIn_r _ [11] (by decide +kernel) (by decide +kernel)
set_option maxRecDepth 20000 in
theorem gL_law_L_cell : GoodIn wsL_law (va_wsS RL 15 yL_cell wsL_cell) := goodIn_app (goodIn_of _ (by decide +kernel)) ggL_law_L_cell
set_option maxRecDepth 20000 in
theorem ggL_law_X3_init : GoodIn wsL_law wsX3_init := goodIn_r _ [14, 15, 16, 17, 18, 19, 20, 21, 22, 23, 24, 25, 26, 27, 28, 29, 30, 6, 31, 32, 33, 34, 35, 36, 37, 38, 39, 40, 41, 42, 43, 44, 45, 46, 47, 48, 49, 50, 51, 52, 53, 54, 55, 56, 57, 58, 59, 60, 61, 62, 63, 64, 65, 66, 67, 68, 69, 70, 71, 72, 73, 494, 495, 496, 497, 498, 499, 500, 501, 502, 503, 504, 522, 523, 524, 525, 526, 527, 528, 529, 530, 531, 532, 533, 534, 535, 536, 537, 538] (by decide +kernel) (by decide +kernel)
set_option maxRecDepth 20000 in
theorem gL_law_X3_init : GoodIn wsL_law (wsX3_init) := ggL_law_X3_init
set_option maxRecDepth 20000 in
theorem ggL_law_X4_init : GoodIn wsL_law wsX4_init := goodIn_r _ [76, 77, 16, 17, 33, 78, 79, 80, 81, 82, 83, 6, 84, 85, 86, 87, 88, 89, 505, 506, 507, 508, 509, 510, 511, 512, 513, 514, 515, 516, 517, 518, 519, 520, 521] (by decide +kernel) (by decide +kernel)
set_option maxRecDepth 20000 in
theorem gL_law_X4_init : GoodIn wsL_law (wsX4_init) := ggL_law_X4_init
set_option maxRecDepth 20000 in
theorem ggL_law_L_white : GoodIn wsL_law wsL_white := goodIn_r _ [92, 93, 94, 95, 2, 96, 97, 98, 99, 22, 100, 101, 102, 103, 104, 105, 106, 107, 108, 21, 109, 44, 539, 540, 541, 542, 543, 544, 494, 495, 496, 497, 498, 499, 500, 501, 502, 503, 504, 522, 523, 524, 525] (by decide +kernel) (by decide +kernel)
set_option maxRecDepth 20000 in
theorem gL_law_L_white : GoodIn wsL_law (va_wsS RL 27 yL_white wsL_white) := goodIn_app (goodIn_of _ (by decide +kernel)) ggL_law_L_white
set_option maxRecDepth 20000 in
theorem ggL_law_X4_white : GoodIn wsL_law wsX4_white := goodIn_r _ [113, 114, 79, 115, 116, 5, 117, 118, 119, 120, 505, 506, 507, 508, 509, 510, 511, 512, 513, 514, 515, 516, 517, 518, 519, 520, 521] (by decide +kernel) (by decide +kernel)
set_option maxRecDepth 20000 in
theorem gL_law_X4_white : GoodIn wsL_law (wsV RL 30 RX4 yX4_white wsX4_white) := goodIn_app (goodIn_of _ (by decide +kernel)) ggL_law_X4_white
set_option maxRecDepth 20000 in
theorem ggL_law_X4_thrown : GoodIn wsL_law wsX4_thrown := goodIn_r _ [124, 114, 505, 506, 507, 508, 509, 510, 511, 512, 513, 514, 515, 516, 517, 518, 519, 520, 521] (by decide +kernel) (by decide +kernel)
set_option maxRecDepth 20000 in
theorem gL_law_X4_thrown : GoodIn wsL_law (wsV RL 31 RX4 yX4_thrown wsX4_thrown) := goodIn_app (goodIn_of _ (by decide +kernel)) ggL_law_X4_thrown
set_option maxRecDepth 20000 in
theorem ggL_law_X3_dark : GoodIn wsL_law wsX3_dark := goodIn_r _ [128, 22, 100, 101, 2, 102, 103, 104, 105, 129, 130, 131, 21, 132, 43, 494, 495, 496, 497, 498, 499, 500, 501, 502, 503, 504, 522, 523, 524, 525] (by decide +kernel) (by decide +kernel)
set_option maxRecDepth 20000 in
theorem gL_law_X3_dark : GoodIn wsL_law (wsV RL 35 RX3 yX3_dark wsX3_dark) := goodIn_app (goodIn_of _ (by decide +kernel)) ggL_law_X3_dark
set_option maxRecDepth 20000 in
theorem ggL_law_X4_dark : GoodIn wsL_law wsX4_dark := goodIn_r _ [136, 114, 78, 115, 116, 5, 117, 118, 119, 120, 505, 506, 507, 508, 509, 510, 511, 512, 513, 514, 515, 516, 517, 518, 519, 520, 521] (by decide +kernel) (by decide +kernel)
set_option maxRecDepth 20000 in
theorem gL_law_X4_dark : GoodIn wsL_law (wsV RL 38 RX4 yX4_dark wsX4_dark) := goodIn_app (goodIn_of _ (by decide +kernel)) ggL_law_X4_dark
set_option maxRecDepth 20000 in
theorem ggL_law_X3_value : GoodIn wsL_law wsX3_value := goodIn_r _ [140, 22, 100, 101, 2, 102, 103, 104, 105, 141, 142, 143, 21, 144, 45, 494, 495, 496, 497, 498, 499, 500, 501, 502, 503, 504, 522, 523, 524, 525] (by decide +kernel) (by decide +kernel)
set_option maxRecDepth 20000 in
theorem gL_law_X3_value : GoodIn wsL_law (wsV RL 39 RX3 yX3_value wsX3_value) := goodIn_app (goodIn_of _ (by decide +kernel)) ggL_law_X3_value
set_option maxRecDepth 20000 in
theorem ggL_law_X4_value : GoodIn wsL_law wsX4_value := goodIn_r _ [148, 114, 80, 115, 116, 5, 117, 118, 119, 120, 505, 506, 507, 508, 509, 510, 511, 512, 513, 514, 515, 516, 517, 518, 519, 520, 521] (by decide +kernel) (by decide +kernel)
set_option maxRecDepth 20000 in
theorem gL_law_X4_value : GoodIn wsL_law (wsV RL 42 RX4 yX4_value wsX4_value) := goodIn_app (goodIn_of _ (by decide +kernel)) ggL_law_X4_value
set_option maxRecDepth 20000 in
theorem ggL_law_X3_reference : GoodIn wsL_law wsX3_reference := goodIn_r _ [152, 22, 100, 101, 2, 102, 103, 104, 105, 153, 154, 155, 21, 156, 46, 157, 107, 108, 109, 44, 494, 495, 496, 497, 498, 499, 500, 501, 502, 503, 504, 522, 523, 524, 525] (by decide +kernel) (by decide +kernel)
set_option maxRecDepth 20000 in
theorem gL_law_X3_reference : GoodIn wsL_law (wsV RL 45 RX3 yX3_reference wsX3_reference) := goodIn_app (goodIn_of _ (by decide +kernel)) ggL_law_X3_reference
set_option maxRecDepth 20000 in
theorem ggL_law_X4_reference : GoodIn wsL_law wsX4_reference := goodIn_r _ [161, 114, 162, 79, 115, 116, 5, 117, 118, 119, 120, 505, 506, 507, 508, 509, 510, 511, 512, 513, 514, 515, 516, 517, 518, 519, 520, 521] (by decide +kernel) (by decide +kernel)
set_option maxRecDepth 20000 in
theorem gL_law_X4_reference : GoodIn wsL_law (wsV RL 49 RX4 yX4_reference wsX4_reference) := goodIn_app (goodIn_of _ (by decide +kernel)) ggL_law_X4_reference
set_option maxRecDepth 20000 in
theorem ggL_law_X3_teach : GoodIn wsL_law wsX3_teach := goodIn_r _ [166, 26, 36, 167, 168, 169, 2, 170, 18, 171, 172, 173, 174, 22, 37, 175, 176, 177, 21, 178, 179, 180, 181, 182, 44, 43, 45, 183, 184, 185, 186, 187, 188, 25, 189, 190, 191, 192, 193, 61, 194, 195, 196, 197, 55, 57, 198, 199, 200, 201, 58, 202, 494, 495, 496, 497, 498, 499, 500, 501, 502, 503, 504, 522, 523, 524, 525, 526, 527, 528, 529, 530, 531] (by decide +kernel) (by decide +kernel)
set_option maxRecDepth 20000 in
theorem gL_law_X3_teach : GoodIn wsL_law (wsV RL 50 RX3 yX3_teach wsX3_teach) := goodIn_app (goodIn_of _ (by decide +kernel)) ggL_law_X3_teach
set_option maxRecDepth 20000 in
theorem ggL_law_X4_teach : GoodIn wsL_law wsX4_teach := goodIn_r _ [206, 114, 207, 82, 87, 81, 208, 209, 210, 5, 211, 89, 212, 213, 214, 215, 216, 217, 218, 219, 79, 78, 80, 505, 506, 507, 508, 509, 510, 511, 512, 513, 514, 515, 516, 517, 518, 519, 520, 521] (by decide +kernel) (by decide +kernel)
set_option maxRecDepth 20000 in
theorem gL_law_X4_teach : GoodIn wsL_law (wsV RL 54 RX4 yX4_teach wsX4_teach) := goodIn_app (goodIn_of _ (by decide +kernel)) ggL_law_X4_teach
set_option maxRecDepth 20000 in
theorem ggL_law_X3_read : GoodIn wsL_law wsX3_read := goodIn_r _ [223, 37, 171, 172, 173, 2, 174, 22, 36, 175, 176, 177, 21, 178, 179, 180, 181, 182, 44, 43, 45, 183, 184, 185, 186, 187, 188, 25, 189, 224, 225, 226, 227, 18, 38, 26, 32, 228, 229, 230, 231, 59, 61, 55, 58, 232, 48, 49, 50, 233, 234, 235, 236, 237, 238, 239, 240, 31, 494, 495, 496, 497, 498, 499, 500, 501, 502, 503, 504, 522, 523, 524, 525, 526, 527, 528, 529, 530, 531] (by decide +kernel) (by decide +kernel)
set_option maxRecDepth 20000 in
theorem gL_law_X3_read : GoodIn wsL_law (wsV RL 55 RX3 yX3_read wsX3_read) := goodIn_app (goodIn_of _ (by decide +kernel)) ggL_law_X3_read
set_option maxRecDepth 20000 in
theorem ggL_law_X4_read : GoodIn wsL_law wsX4_read := goodIn_r _ [244, 114, 212, 213, 214, 5, 215, 87, 216, 217, 218, 219, 79, 78, 80, 245, 246, 247, 248, 89, 84, 83, 249, 250, 251, 252, 207, 81, 82, 505, 506, 507, 508, 509, 510, 511, 512, 513, 514, 515, 516, 517, 518, 519, 520, 521] (by decide +kernel) (by decide +kernel)
set_option maxRecDepth 20000 in
theorem gL_law_X4_read : GoodIn wsL_law (wsV RL 58 RX4 yX4_read wsX4_read) := goodIn_app (goodIn_of _ (by decide +kernel)) ggL_law_X4_read
set_option maxRecDepth 20000 in
theorem ggL_law_X3_sum : GoodIn wsL_law wsX3_sum := goodIn_r _ [256, 257, 26, 37, 167, 168, 169, 2, 170, 18, 171, 172, 173, 174, 22, 36, 175, 176, 177, 21, 178, 179, 180, 181, 182, 44, 43, 45, 183, 184, 185, 186, 187, 188, 25, 189, 228, 229, 230, 231, 59, 61, 55, 58, 232, 48, 49, 50, 233, 234, 235, 236, 494, 495, 496, 497, 498, 499, 500, 501, 502, 503, 504, 522, 523, 524, 525, 526, 527, 528, 529, 530, 531] (by decide +kernel) (by decide +kernel)
set_option maxRecDepth 20000 in
theorem gL_law_X3_sum : GoodIn wsL_law (wsV RL 59 RX3 yX3_sum wsX3_sum) := goodIn_app (goodIn_of _ (by decide +kernel)) ggL_law_X3_sum
set_option maxRecDepth 20000 in
theorem ggL_law_X4_sum : GoodIn wsL_law wsX4_sum := goodIn_r _ [261, 114, 262, 212, 213, 214, 5, 215, 87, 216, 217, 218, 219, 79, 78, 80, 208, 209, 210, 211, 89, 249, 250, 251, 252, 207, 81, 82, 505, 506, 507, 508, 509, 510, 511, 512, 513, 514, 515, 516, 517, 518, 519, 520, 521] (by decide +kernel) (by decide +kernel)
set_option maxRecDepth 20000 in
theorem gL_law_X4_sum : GoodIn wsL_law (wsV RL 63 RX4 yX4_sum wsX4_sum) := goodIn_app (goodIn_of _ (by decide +kernel)) ggL_law_X4_sum
set_option maxRecDepth 20000 in
theorem ggL_law_X3_bound : GoodIn wsL_law wsX3_bound := goodIn_r _ [266, 267, 32, 494, 495, 496, 497, 498, 499, 500, 501, 502, 503, 504] (by decide +kernel) (by decide +kernel)
set_option maxRecDepth 20000 in
theorem gL_law_X3_bound : GoodIn wsL_law (wsV RL 64 RX3 yX3_bound wsX3_bound) := goodIn_app (goodIn_of _ (by decide +kernel)) ggL_law_X3_bound
set_option maxRecDepth 20000 in
theorem ggL_law_X4_bound : GoodIn wsL_law wsX4_bound := goodIn_r _ [271, 114, 272, 83, 505, 506, 507, 508, 509, 510, 511, 512, 513, 514, 515, 516, 517, 518, 519, 520, 521] (by decide +kernel) (by decide +kernel)
set_option maxRecDepth 20000 in
theorem gL_law_X4_bound : GoodIn wsL_law (wsV RL 68 RX4 yX4_bound wsX4_bound) := goodIn_app (goodIn_of _ (by decide +kernel)) ggL_law_X4_bound
set_option maxRecDepth 20000 in
theorem ggL_law_X3_worth : GoodIn wsL_law wsX3_worth := goodIn_r _ [276, 277, 31, 167, 168, 169, 2, 170, 18, 494, 495, 496, 497, 498, 499, 500, 501, 502, 503, 504] (by decide +kernel) (by decide +kernel)
set_option maxRecDepth 20000 in
theorem gL_law_X3_worth : GoodIn wsL_law (wsV RL 69 RX3 yX3_worth wsX3_worth) := goodIn_app (goodIn_of _ (by decide +kernel)) ggL_law_X3_worth
set_option maxRecDepth 20000 in
theorem ggL_law_X4_worth : GoodIn wsL_law wsX4_worth := goodIn_r _ [281, 114, 282, 84, 208, 209, 210, 5, 211, 89, 505, 506, 507, 508, 509, 510, 511, 512, 513, 514, 515, 516, 517, 518, 519, 520, 521] (by decide +kernel) (by decide +kernel)
set_option maxRecDepth 20000 in
theorem gL_law_X4_worth : GoodIn wsL_law (wsV RL 73 RX4 yX4_worth wsX4_worth) := goodIn_app (goodIn_of _ (by decide +kernel)) ggL_law_X4_worth
set_option maxRecDepth 20000 in
theorem ggL_law_X3_leftOut : GoodIn wsL_law wsX3_leftOut := goodIn_r _ [286, 26, 287, 288, 289, 25, 290, 61, 291, 292, 293, 2, 294, 295, 296, 297, 298, 58, 224, 225, 226, 227, 18, 38, 32, 228, 229, 230, 231, 59, 55, 232, 48, 49, 50, 233, 234, 235, 236, 237, 238, 239, 240, 31, 494, 495, 496, 497, 498, 499, 500, 501, 502, 503, 504, 526, 527, 528, 529, 530, 531] (by decide +kernel) (by decide +kernel)
set_option maxRecDepth 20000 in
theorem gL_law_X3_leftOut : GoodIn wsL_law (wsV RL 74 RX3 yX3_leftOut wsX3_leftOut) := goodIn_app (goodIn_of _ (by decide +kernel)) ggL_law_X3_leftOut
set_option maxRecDepth 20000 in
theorem ggL_law_X4_leftOut : GoodIn wsL_law wsX4_leftOut := goodIn_r _ [302, 114, 207, 303, 304, 305, 5, 306, 87, 82, 245, 246, 247, 248, 89, 84, 83, 249, 250, 251, 252, 81, 505, 506, 507, 508, 509, 510, 511, 512, 513, 514, 515, 516, 517, 518, 519, 520, 521] (by decide +kernel) (by decide +kernel)
set_option maxRecDepth 20000 in
theorem gL_law_X4_leftOut : GoodIn wsL_law (wsV RL 77 RX4 yX4_leftOut wsX4_leftOut) := goodIn_app (goodIn_of _ (by decide +kernel)) ggL_law_X4_leftOut
set_option maxRecDepth 20000 in
theorem ggL_law_X3_wrong : GoodIn wsL_law wsX3_wrong := goodIn_r _ [310, 257, 26, 167, 168, 169, 2, 170, 18, 311, 312, 313, 25, 314, 61, 315, 316, 317, 318, 55, 291, 292, 293, 294, 295, 296, 297, 298, 58, 224, 225, 226, 227, 38, 32, 228, 229, 230, 231, 59, 232, 48, 49, 50, 233, 234, 235, 236, 237, 238, 239, 240, 31, 494, 495, 496, 497, 498, 499, 500, 501, 502, 503, 504, 526, 527, 528, 529, 530, 531] (by decide +kernel) (by decide +kernel)
set_option maxRecDepth 20000 in
theorem gL_law_X3_wrong : GoodIn wsL_law (wsV RL 78 RX3 yX3_wrong wsX3_wrong) := goodIn_app (goodIn_of _ (by decide +kernel)) ggL_law_X3_wrong
set_option maxRecDepth 20000 in
theorem ggL_law_X4_wrong : GoodIn wsL_law wsX4_wrong := goodIn_r _ [322, 114, 262, 207, 81, 208, 209, 210, 5, 211, 89, 323, 300, 301, 302, 303, 304, 305, 306, 87, 82, 245, 246, 247, 248, 84, 83, 249, 250, 251, 252, 505, 506, 507, 508, 509, 510, 511, 512, 513, 514, 515, 516, 517, 518, 519, 520, 521] (by decide +kernel) (by decide +kernel)
set_option maxRecDepth 20000 in
theorem gL_law_X4_wrong : GoodIn wsL_law (wsV RL 82 RX4 yX4_wrong wsX4_wrong) := goodIn_app (goodIn_of _ (by decide +kernel)) ggL_law_X4_wrong
set_option maxRecDepth 20000 in
theorem ggL_law_X3_correct : GoodIn wsL_law wsX3_correct := goodIn_r _ [327, 26, 287, 288, 289, 25, 290, 61, 167, 168, 169, 2, 170, 18, 315, 316, 317, 318, 55, 328, 329, 330, 331, 494, 495, 496, 497, 498, 499, 500, 501, 502, 503, 504, 526, 527, 528, 529, 530, 531] (by decide +kernel) (by decide +kernel)
set_option maxRecDepth 20000 in
theorem gL_law_X3_correct : GoodIn wsL_law (wsV RL 83 RX3 yX3_correct wsX3_correct) := goodIn_app (goodIn_of _ (by decide +kernel)) ggL_law_X3_correct
set_option maxRecDepth 20000 in
theorem ggL_law_X4_correct : GoodIn wsL_law wsX4_correct := goodIn_r _ [335, 114, 207, 81, 208, 209, 210, 5, 211, 89, 505, 506, 507, 508, 509, 510, 511, 512, 513, 514, 515, 516, 517, 518, 519, 520, 521] (by decide +kernel) (by decide +kernel)
set_option maxRecDepth 20000 in
theorem gL_law_X4_correct : GoodIn wsL_law (wsV RL 87 RX4 yX4_correct wsX4_correct) := goodIn_app (goodIn_of _ (by decide +kernel)) ggL_law_X4_correct
set_option maxRecDepth 20000 in
theorem ggL_law_X3_pixel : GoodIn wsL_law wsX3_pixel := goodIn_r _ [339, 30, 37, 340, 341, 342, 29, 343, 71, 66, 344, 345, 346, 171, 172, 173, 2, 174, 22, 36, 175, 176, 177, 21, 178, 179, 180, 181, 182, 44, 43, 45, 183, 184, 185, 186, 187, 188, 25, 189, 224, 225, 226, 227, 18, 38, 26, 32, 228, 229, 230, 231, 59, 61, 55, 58, 232, 48, 49, 50, 233, 234, 235, 236, 237, 238, 239, 240, 31, 347, 348, 349, 350, 351, 352, 353, 354, 67, 72, 73, 355, 356, 357, 358, 70, 68, 359, 360, 361, 362, 494, 495, 496, 497, 498, 499, 500, 501, 502, 503, 504, 532, 533, 534, 535, 536, 537, 538, 522, 523, 524, 525, 526, 527, 528, 529, 530, 531] (by decide +kernel) (by decide +kernel)
set_option maxRecDepth 20000 in
theorem gL_law_X3_pixel : GoodIn wsL_law (wsV RL 88 RX3 yX3_pixel wsX3_pixel) := goodIn_app (goodIn_of _ (by decide +kernel)) ggL_law_X3_pixel
set_option maxRecDepth 20000 in
theorem ggL_law_X4_pixel : GoodIn wsL_law wsX4_pixel := goodIn_r _ [366, 114, 85, 367, 368, 369, 5, 370, 212, 213, 214, 215, 87, 216, 217, 218, 219, 79, 78, 80, 245, 246, 247, 248, 89, 84, 83, 249, 250, 251, 252, 207, 81, 82, 505, 506, 507, 508, 509, 510, 511, 512, 513, 514, 515, 516, 517, 518, 519, 520, 521] (by decide +kernel) (by decide +kernel)
set_option maxRecDepth 20000 in
theorem gL_law_X4_pixel : GoodIn wsL_law (wsV RL 91 RX4 yX4_pixel wsX4_pixel) := goodIn_app (goodIn_of _ (by decide +kernel)) ggL_law_X4_pixel
set_option maxRecDepth 20000 in
theorem ggL_law_X3_piece : GoodIn wsL_law wsX3_piece := goodIn_r _ [374, 30, 375, 376, 377, 29, 378, 67, 344, 345, 346, 494, 495, 496, 497, 498, 499, 500, 501, 502, 503, 504, 532, 533, 534, 535, 536, 537, 538] (by decide +kernel) (by decide +kernel)
set_option maxRecDepth 20000 in
theorem gL_law_X3_piece : GoodIn wsL_law (wsV RL 92 RX3 yX3_piece wsX3_piece) := goodIn_app (goodIn_of _ (by decide +kernel)) ggL_law_X3_piece
set_option maxRecDepth 20000 in
theorem ggL_law_X4_piece : GoodIn wsL_law wsX4_piece := goodIn_r _ [382, 114, 88, 383, 384, 385, 5, 386, 85, 387, 388, 389, 390, 391, 392, 393, 394, 368, 369, 370, 395, 396, 397, 398, 399, 400, 401, 402, 505, 506, 507, 508, 509, 510, 511, 512, 513, 514, 515, 516, 517, 518, 519, 520, 521] (by decide +kernel) (by decide +kernel)
set_option maxRecDepth 20000 in
theorem gL_law_X4_piece : GoodIn wsL_law (wsV RL 95 RX4 yX4_piece wsX4_piece) := goodIn_app (goodIn_of _ (by decide +kernel)) ggL_law_X4_piece
set_option maxRecDepth 20000 in
theorem ggL_law_X3_pieceKind : GoodIn wsL_law wsX3_pieceKind := goodIn_r _ [406, 30, 18, 38, 407, 408, 409, 29, 410, 72, 411, 412, 413, 414, 67, 66, 237, 238, 239, 2, 240, 31, 494, 495, 496, 497, 498, 499, 500, 501, 502, 503, 504, 532, 533, 534, 535, 536, 537, 538] (by decide +kernel) (by decide +kernel)
set_option maxRecDepth 20000 in
theorem gL_law_X3_pieceKind : GoodIn wsL_law (wsV RL 96 RX3 yX3_pieceKind wsX3_pieceKind) := goodIn_app (goodIn_of _ (by decide +kernel)) ggL_law_X3_pieceKind
set_option maxRecDepth 20000 in
theorem ggL_law_X4_pieceKind : GoodIn wsL_law wsX4_pieceKind := goodIn_r _ [418, 114, 89, 84, 383, 384, 385, 5, 386, 88, 85, 387, 388, 389, 390, 391, 392, 393, 394, 368, 369, 370, 395, 396, 397, 398, 399, 400, 401, 402, 419, 420, 421, 422, 505, 506, 507, 508, 509, 510, 511, 512, 513, 514, 515, 516, 517, 518, 519, 520, 521] (by decide +kernel) (by decide +kernel)
set_option maxRecDepth 20000 in
theorem gL_law_X4_pieceKind : GoodIn wsL_law (wsV RL 99 RX4 yX4_pieceKind wsX4_pieceKind) := goodIn_app (goodIn_of _ (by decide +kernel)) ggL_law_X4_pieceKind
set_option maxRecDepth 20000 in
theorem ggL_law_X3_neighbours : GoodIn wsL_law wsX3_neighbours := goodIn_r _ [426, 30, 407, 408, 409, 29, 410, 72, 427, 428, 429, 430, 69, 67, 73, 48, 49, 50, 431, 432, 433, 434, 435, 376, 377, 378, 344, 345, 346, 494, 495, 496, 497, 498, 499, 500, 501, 502, 503, 504, 532, 533, 534, 535, 536, 537, 538] (by decide +kernel) (by decide +kernel)
set_option maxRecDepth 20000 in
theorem gL_law_X3_neighbours : GoodIn wsL_law (wsV RL 100 RX3 yX3_neighbours wsX3_neighbours) := goodIn_app (goodIn_of _ (by decide +kernel)) ggL_law_X3_neighbours
set_option maxRecDepth 20000 in
theorem ggL_law_X4_neighbours : GoodIn wsL_law wsX4_neighbours := goodIn_r _ [439, 114, 383, 384, 385, 5, 386, 88, 85, 387, 388, 389, 390, 391, 392, 393, 394, 368, 369, 370, 395, 396, 397, 398, 399, 400, 401, 402, 440, 441, 442, 443, 505, 506, 507, 508, 509, 510, 511, 512, 513, 514, 515, 516, 517, 518, 519, 520, 521] (by decide +kernel) (by decide +kernel)
set_option maxRecDepth 20000 in
theorem gL_law_X4_neighbours : GoodIn wsL_law (wsV RL 103 RX4 yX4_neighbours wsX4_neighbours) := goodIn_app (goodIn_of _ (by decide +kernel)) ggL_law_X4_neighbours
set_option maxRecDepth 20000 in
theorem ggL_law_X3_pack : GoodIn wsL_law wsX3_pack := goodIn_r _ [447, 26, 448, 449, 450, 25, 451, 61, 452, 453, 454, 455, 60, 55, 57, 456, 457, 458, 459, 494, 495, 496, 497, 498, 499, 500, 501, 502, 503, 504, 526, 527, 528, 529, 530, 531] (by decide +kernel) (by decide +kernel)
set_option maxRecDepth 20000 in
theorem gL_law_X3_pack : GoodIn wsL_law (wsV RL 104 RX3 yX3_pack wsX3_pack) := goodIn_app (goodIn_of _ (by decide +kernel)) ggL_law_X3_pack
set_option maxRecDepth 20000 in
theorem ggL_law_X4_pack : GoodIn wsL_law wsX4_pack := goodIn_r _ [463, 114, 207, 464, 465, 466, 5, 467, 89, 81, 82, 505, 506, 507, 508, 509, 510, 511, 512, 513, 514, 515, 516, 517, 518, 519, 520, 521] (by decide +kernel) (by decide +kernel)
set_option maxRecDepth 20000 in
theorem gL_law_X4_pack : GoodIn wsL_law (wsV RL 107 RX4 yX4_pack wsX4_pack) := goodIn_app (goodIn_of _ (by decide +kernel)) ggL_law_X4_pack
set_option maxRecDepth 20000 in
theorem ggL_law_X3_feed : GoodIn wsL_law wsX3_feed := goodIn_r _ [471, 35, 34, 103, 104, 2, 105, 494, 495, 496, 497, 498, 499, 500, 501, 502, 503, 504] (by decide +kernel) (by decide +kernel)
set_option maxRecDepth 20000 in
theorem gL_law_X3_feed : GoodIn wsL_law (wsV RL 108 RX3 yX3_feed wsX3_feed) := goodIn_app (goodIn_of _ (by decide +kernel)) ggL_law_X3_feed
set_option maxRecDepth 20000 in
theorem ggL_law_X4_feed : GoodIn wsL_law wsX4_feed := goodIn_r _ [475, 114, 476, 86, 118, 119, 5, 120, 505, 506, 507, 508, 509, 510, 511, 512, 513, 514, 515, 516, 517, 518, 519, 520, 521] (by decide +kernel) (by decide +kernel)
set_option maxRecDepth 20000 in
theorem gL_law_X4_feed : GoodIn wsL_law (wsV RL 112 RX4 yX4_feed wsX4_feed) := goodIn_app (goodIn_of _ (by decide +kernel)) ggL_law_X4_feed
set_option maxRecDepth 20000 in
theorem ggL_law_X3_open : GoodIn wsL_law wsX3_open := goodIn_r _ [480, 35, 26, 34, 481, 482, 483, 25, 484, 60, 485, 486, 487, 488, 489, 184, 185, 186, 61, 194, 195, 196, 197, 55, 57, 198, 199, 200, 201, 58, 202, 188, 189, 311, 312, 313, 314, 494, 495, 496, 497, 498, 499, 500, 501, 502, 503, 504, 526, 527, 528, 529, 530, 531] (by decide +kernel) (by decide +kernel)
set_option maxRecDepth 20000 in
theorem gL_law_X3_open : GoodIn wsL_law (wsV RL 113 RX3 yX3_open wsX3_open) := goodIn_app (goodIn_of _ (by decide +kernel)) ggL_law_X3_open
set_option maxRecDepth 20000 in
theorem ggL_law_X4_open : GoodIn wsL_law wsX4_open := goodIn_r _ [493, 114, 476, 86, 89, 207, 81, 82, 505, 506, 507, 508, 509, 510, 511, 512, 513, 514, 515, 516, 517, 518, 519, 520, 521] (by decide +kernel) (by decide +kernel)
set_option maxRecDepth 20000 in
theorem gL_law_X4_open : GoodIn wsL_law (wsV RL 116 RX4 yX4_open wsX4_open) := goodIn_app (goodIn_of _ (by decide +kernel)) ggL_law_X4_open
theorem dL_law_0 : decode cL_law 0 = .ok (.new 8, 3) := by decide +kernel
theorem dL_law_3 : decode cL_law 3 = .ok (.dup, 1) := by decide +kernel
theorem dL_law_4 : decode cL_law 4 = .ok (.aload_n 0, 1) := by decide +kernel
theorem dL_law_5 : decode cL_law 5 = .ok (.iconst 0, 1) := by decide +kernel
theorem dL_law_6 : decode cL_law 6 = .ok (.invokestatic 15, 3) := by decide +kernel
theorem dL_law_9 : decode cL_law 9 = .ok (.invokespecial 21, 3) := by decide +kernel
theorem dL_law_12 : decode cL_law 12 = .ok (.astore_n 1, 1) := by decide +kernel
theorem dL_law_13 : decode cL_law 13 = .ok (.new 24, 3) := by decide +kernel
theorem dL_law_16 : decode cL_law 16 = .ok (.dup, 1) := by decide +kernel
theorem dL_law_17 : decode cL_law 17 = .ok (.aload_n 0, 1) := by decide +kernel
theorem dL_law_18 : decode cL_law 18 = .ok (.iconst 0, 1) := by decide +kernel
theorem dL_law_19 : decode cL_law 19 = .ok (.invokestatic 15, 3) := by decide +kernel
theorem dL_law_22 : decode cL_law 22 = .ok (.invokespecial 26, 3) := by decide +kernel
theorem dL_law_25 : decode cL_law 25 = .ok (.astore_n 2, 1) := by decide +kernel
theorem dL_law_26 : decode cL_law 26 = .ok (.iconst 1, 1) := by decide +kernel
theorem dL_law_27 : decode cL_law 27 = .ok (.newarray .long, 2) := by decide +kernel
theorem dL_law_29 : decode cL_law 29 = .ok (.astore_n 3, 1) := by decide +kernel
theorem dL_law_30 : decode cL_law 30 = .ok (.iconst 1, 1) := by decide +kernel
theorem dL_law_31 : decode cL_law 31 = .ok (.istore 4, 2) := by decide +kernel
theorem dL_law_33 : decode cL_law 33 = .ok (.iload 4, 2) := by decide +kernel
theorem dL_law_35 : decode cL_law 35 = .ok (.aload_n 0, 1) := by decide +kernel
theorem dL_law_36 : decode cL_law 36 = .ok (.arraylength, 1) := by decide +kernel
theorem dL_law_37 : decode cL_law 37 = .ok (.iconst 5, 1) := by decide +kernel
theorem dL_law_38 : decode cL_law 38 = .ok (.isub, 1) := by decide +kernel
theorem dL_law_39 : decode cL_law 39 = .ok (.if_icmp .gt 814, 3) := by decide +kernel
theorem dL_law_42 : decode cL_law 42 = .ok (.aload_n 0, 1) := by decide +kernel
theorem dL_law_43 : decode cL_law 43 = .ok (.iload 4, 2) := by decide +kernel
theorem dL_law_45 : decode cL_law 45 = .ok (.iaload, 1) := by decide +kernel
theorem dL_law_46 : decode cL_law 46 = .ok (.bipush 31, 2) := by decide +kernel
theorem dL_law_48 : decode cL_law 48 = .ok (.iand, 1) := by decide +kernel
theorem dL_law_49 : decode cL_law 49 = .ok (.tableswitch 798 0 18 #[91, 166, 203, 240, 321, 346, 359, 385, 442, 511, 536, 574, 611, 648, 685, 710, 735, 760, 785], 91) := by decide +kernel
theorem dL_law_140 : decode cL_law 140 = .ok (.aload_n 1, 1) := by decide +kernel
theorem dL_law_141 : decode cL_law 141 = .ok (.aload_n 0, 1) := by decide +kernel
theorem dL_law_142 : decode cL_law 142 = .ok (.iload 4, 2) := by decide +kernel
theorem dL_law_144 : decode cL_law 144 = .ok (.iconst 1, 1) := by decide +kernel
theorem dL_law_145 : decode cL_law 145 = .ok (.iadd, 1) := by decide +kernel
theorem dL_law_146 : decode cL_law 146 = .ok (.iaload, 1) := by decide +kernel
theorem dL_law_147 : decode cL_law 147 = .ok (.aload_n 0, 1) := by decide +kernel
theorem dL_law_148 : decode cL_law 148 = .ok (.iload 4, 2) := by decide +kernel
theorem dL_law_150 : decode cL_law 150 = .ok (.iconst 2, 1) := by decide +kernel
theorem dL_law_151 : decode cL_law 151 = .ok (.iadd, 1) := by decide +kernel
theorem dL_law_152 : decode cL_law 152 = .ok (.iaload, 1) := by decide +kernel
theorem dL_law_153 : decode cL_law 153 = .ok (.aload_n 3, 1) := by decide +kernel
theorem dL_law_154 : decode cL_law 154 = .ok (.invokestatic 27, 3) := by decide +kernel
theorem dL_law_157 : decode cL_law 157 = .ok (.istore 5, 2) := by decide +kernel
theorem dL_law_159 : decode cL_law 159 = .ok (.aload_n 2, 1) := by decide +kernel
theorem dL_law_160 : decode cL_law 160 = .ok (.aload_n 0, 1) := by decide +kernel
theorem dL_law_161 : decode cL_law 161 = .ok (.iload 4, 2) := by decide +kernel
theorem dL_law_163 : decode cL_law 163 = .ok (.iconst 1, 1) := by decide +kernel
theorem dL_law_164 : decode cL_law 164 = .ok (.iadd, 1) := by decide +kernel
theorem dL_law_165 : decode cL_law 165 = .ok (.iaload, 1) := by decide +kernel
theorem dL_law_166 : decode cL_law 166 = .ok (.aload_n 0, 1) := by decide +kernel
theorem dL_law_167 : decode cL_law 167 = .ok (.iload 4, 2) := by decide +kernel
theorem dL_law_169 : decode cL_law 169 = .ok (.iconst 2, 1) := by decide +kernel
theorem dL_law_170 : decode cL_law 170 = .ok (.iadd, 1) := by decide +kernel
theorem dL_law_171 : decode cL_law 171 = .ok (.iaload, 1) := by decide +kernel
theorem dL_law_172 : decode cL_law 172 = .ok (.invokevirtual 30, 3) := by decide +kernel
theorem dL_law_175 : decode cL_law 175 = .ok (.istore 6, 2) := by decide +kernel
theorem dL_law_177 : decode cL_law 177 = .ok (.aload_n 2, 1) := by decide +kernel
theorem dL_law_178 : decode cL_law 178 = .ok (.invokevirtual 31, 3) := by decide +kernel
theorem dL_law_181 : decode cL_law 181 = .ok (.iload 5, 2) := by decide +kernel
theorem dL_law_183 : decode cL_law 183 = .ok (.if_icmp .eq 5, 3) := by decide +kernel
theorem dL_law_186 : decode cL_law 186 = .ok (.iconst 0, 1) := by decide +kernel
theorem dL_law_187 : decode cL_law 187 = .ok (.ireturn, 1) := by decide +kernel
theorem dL_law_188 : decode cL_law 188 = .ok (.iload 5, 2) := by decide +kernel
theorem dL_law_190 : decode cL_law 190 = .ok (.ifCond .ne 22, 3) := by decide +kernel
theorem dL_law_193 : decode cL_law 193 = .ok (.aload_n 3, 1) := by decide +kernel
theorem dL_law_194 : decode cL_law 194 = .ok (.iconst 0, 1) := by decide +kernel
theorem dL_law_195 : decode cL_law 195 = .ok (.laload, 1) := by decide +kernel
theorem dL_law_196 : decode cL_law 196 = .ok (.iload 6, 2) := by decide +kernel
theorem dL_law_198 : decode cL_law 198 = .ok (.ifCond .eq 7, 3) := by decide +kernel
theorem dL_law_201 : decode cL_law 201 = .ok (.lconst 1, 1) := by decide +kernel
theorem dL_law_202 : decode cL_law 202 = .ok (.goto 4, 3) := by decide +kernel
theorem dL_law_205 : decode cL_law 205 = .ok (.lconst 0, 1) := by decide +kernel
theorem dL_law_206 : decode cL_law 206 = .ok (.lcmp, 1) := by decide +kernel
theorem dL_law_207 : decode cL_law 207 = .ok (.ifCond .eq 5, 3) := by decide +kernel
theorem dL_law_210 : decode cL_law 210 = .ok (.iconst 0, 1) := by decide +kernel
theorem dL_law_211 : decode cL_law 211 = .ok (.ireturn, 1) := by decide +kernel
theorem dL_law_212 : decode cL_law 212 = .ok (.goto 635, 3) := by decide +kernel
theorem dL_law_215 : decode cL_law 215 = .ok (.aload_n 1, 1) := by decide +kernel
theorem dL_law_216 : decode cL_law 216 = .ok (.aload_n 0, 1) := by decide +kernel
theorem dL_law_217 : decode cL_law 217 = .ok (.iload 4, 2) := by decide +kernel
theorem dL_law_219 : decode cL_law 219 = .ok (.iconst 1, 1) := by decide +kernel
theorem dL_law_220 : decode cL_law 220 = .ok (.iadd, 1) := by decide +kernel
theorem dL_law_221 : decode cL_law 221 = .ok (.iaload, 1) := by decide +kernel
theorem dL_law_222 : decode cL_law 222 = .ok (.aload_n 0, 1) := by decide +kernel
theorem dL_law_223 : decode cL_law 223 = .ok (.iload 4, 2) := by decide +kernel
theorem dL_law_225 : decode cL_law 225 = .ok (.iconst 2, 1) := by decide +kernel
theorem dL_law_226 : decode cL_law 226 = .ok (.iadd, 1) := by decide +kernel
theorem dL_law_227 : decode cL_law 227 = .ok (.iaload, 1) := by decide +kernel
theorem dL_law_228 : decode cL_law 228 = .ok (.invokevirtual 35, 3) := by decide +kernel
theorem dL_law_231 : decode cL_law 231 = .ok (.aload_n 2, 1) := by decide +kernel
theorem dL_law_232 : decode cL_law 232 = .ok (.aload_n 0, 1) := by decide +kernel
theorem dL_law_233 : decode cL_law 233 = .ok (.iload 4, 2) := by decide +kernel
theorem dL_law_235 : decode cL_law 235 = .ok (.iconst 1, 1) := by decide +kernel
theorem dL_law_236 : decode cL_law 236 = .ok (.iadd, 1) := by decide +kernel
theorem dL_law_237 : decode cL_law 237 = .ok (.iaload, 1) := by decide +kernel
theorem dL_law_238 : decode cL_law 238 = .ok (.aload_n 0, 1) := by decide +kernel
theorem dL_law_239 : decode cL_law 239 = .ok (.iload 4, 2) := by decide +kernel
theorem dL_law_241 : decode cL_law 241 = .ok (.iconst 2, 1) := by decide +kernel
theorem dL_law_242 : decode cL_law 242 = .ok (.iadd, 1) := by decide +kernel
theorem dL_law_243 : decode cL_law 243 = .ok (.iaload, 1) := by decide +kernel
theorem dL_law_244 : decode cL_law 244 = .ok (.invokevirtual 38, 3) := by decide +kernel
theorem dL_law_247 : decode cL_law 247 = .ok (.if_icmp .eq 600, 3) := by decide +kernel
theorem dL_law_250 : decode cL_law 250 = .ok (.iconst 0, 1) := by decide +kernel
theorem dL_law_251 : decode cL_law 251 = .ok (.ireturn, 1) := by decide +kernel
theorem dL_law_252 : decode cL_law 252 = .ok (.aload_n 1, 1) := by decide +kernel
theorem dL_law_253 : decode cL_law 253 = .ok (.aload_n 0, 1) := by decide +kernel
theorem dL_law_254 : decode cL_law 254 = .ok (.iload 4, 2) := by decide +kernel
theorem dL_law_256 : decode cL_law 256 = .ok (.iconst 1, 1) := by decide +kernel
theorem dL_law_257 : decode cL_law 257 = .ok (.iadd, 1) := by decide +kernel
theorem dL_law_258 : decode cL_law 258 = .ok (.iaload, 1) := by decide +kernel
theorem dL_law_259 : decode cL_law 259 = .ok (.aload_n 0, 1) := by decide +kernel
theorem dL_law_260 : decode cL_law 260 = .ok (.iload 4, 2) := by decide +kernel
theorem dL_law_262 : decode cL_law 262 = .ok (.iconst 2, 1) := by decide +kernel
theorem dL_law_263 : decode cL_law 263 = .ok (.iadd, 1) := by decide +kernel
theorem dL_law_264 : decode cL_law 264 = .ok (.iaload, 1) := by decide +kernel
theorem dL_law_265 : decode cL_law 265 = .ok (.invokevirtual 39, 3) := by decide +kernel
theorem dL_law_268 : decode cL_law 268 = .ok (.aload_n 2, 1) := by decide +kernel
theorem dL_law_269 : decode cL_law 269 = .ok (.aload_n 0, 1) := by decide +kernel
theorem dL_law_270 : decode cL_law 270 = .ok (.iload 4, 2) := by decide +kernel
theorem dL_law_272 : decode cL_law 272 = .ok (.iconst 1, 1) := by decide +kernel
theorem dL_law_273 : decode cL_law 273 = .ok (.iadd, 1) := by decide +kernel
theorem dL_law_274 : decode cL_law 274 = .ok (.iaload, 1) := by decide +kernel
theorem dL_law_275 : decode cL_law 275 = .ok (.aload_n 0, 1) := by decide +kernel
theorem dL_law_276 : decode cL_law 276 = .ok (.iload 4, 2) := by decide +kernel
theorem dL_law_278 : decode cL_law 278 = .ok (.iconst 2, 1) := by decide +kernel
theorem dL_law_279 : decode cL_law 279 = .ok (.iadd, 1) := by decide +kernel
theorem dL_law_280 : decode cL_law 280 = .ok (.iaload, 1) := by decide +kernel
theorem dL_law_281 : decode cL_law 281 = .ok (.invokevirtual 42, 3) := by decide +kernel
theorem dL_law_284 : decode cL_law 284 = .ok (.if_icmp .eq 563, 3) := by decide +kernel
theorem dL_law_287 : decode cL_law 287 = .ok (.iconst 0, 1) := by decide +kernel
theorem dL_law_288 : decode cL_law 288 = .ok (.ireturn, 1) := by decide +kernel
theorem dL_law_289 : decode cL_law 289 = .ok (.aload_n 1, 1) := by decide +kernel
theorem dL_law_290 : decode cL_law 290 = .ok (.aload_n 0, 1) := by decide +kernel
theorem dL_law_291 : decode cL_law 291 = .ok (.iload 4, 2) := by decide +kernel
theorem dL_law_293 : decode cL_law 293 = .ok (.iconst 1, 1) := by decide +kernel
theorem dL_law_294 : decode cL_law 294 = .ok (.iadd, 1) := by decide +kernel
theorem dL_law_295 : decode cL_law 295 = .ok (.iaload, 1) := by decide +kernel
theorem dL_law_296 : decode cL_law 296 = .ok (.aload_n 0, 1) := by decide +kernel
theorem dL_law_297 : decode cL_law 297 = .ok (.iload 4, 2) := by decide +kernel
theorem dL_law_299 : decode cL_law 299 = .ok (.iconst 2, 1) := by decide +kernel
theorem dL_law_300 : decode cL_law 300 = .ok (.iadd, 1) := by decide +kernel
theorem dL_law_301 : decode cL_law 301 = .ok (.iaload, 1) := by decide +kernel
theorem dL_law_302 : decode cL_law 302 = .ok (.aload_n 0, 1) := by decide +kernel
theorem dL_law_303 : decode cL_law 303 = .ok (.iload 4, 2) := by decide +kernel
theorem dL_law_305 : decode cL_law 305 = .ok (.iconst 3, 1) := by decide +kernel
theorem dL_law_306 : decode cL_law 306 = .ok (.iadd, 1) := by decide +kernel
theorem dL_law_307 : decode cL_law 307 = .ok (.iaload, 1) := by decide +kernel
theorem dL_law_308 : decode cL_law 308 = .ok (.i2l, 1) := by decide +kernel
theorem dL_law_309 : decode cL_law 309 = .ok (.bipush 32, 2) := by decide +kernel
theorem dL_law_311 : decode cL_law 311 = .ok (.lshl, 1) := by decide +kernel
theorem dL_law_312 : decode cL_law 312 = .ok (.aload_n 0, 1) := by decide +kernel
theorem dL_law_313 : decode cL_law 313 = .ok (.iload 4, 2) := by decide +kernel
theorem dL_law_315 : decode cL_law 315 = .ok (.iconst 4, 1) := by decide +kernel
theorem dL_law_316 : decode cL_law 316 = .ok (.iadd, 1) := by decide +kernel
theorem dL_law_317 : decode cL_law 317 = .ok (.iaload, 1) := by decide +kernel
theorem dL_law_318 : decode cL_law 318 = .ok (.i2l, 1) := by decide +kernel
theorem dL_law_319 : decode cL_law 319 = .ok (.ldc2_w 43, 3) := by decide +kernel
theorem dL_law_322 : decode cL_law 322 = .ok (.land, 1) := by decide +kernel
theorem dL_law_323 : decode cL_law 323 = .ok (.lor, 1) := by decide +kernel
theorem dL_law_324 : decode cL_law 324 = .ok (.invokevirtual 45, 3) := by decide +kernel
theorem dL_law_327 : decode cL_law 327 = .ok (.aload_n 2, 1) := by decide +kernel
theorem dL_law_328 : decode cL_law 328 = .ok (.aload_n 0, 1) := by decide +kernel
theorem dL_law_329 : decode cL_law 329 = .ok (.iload 4, 2) := by decide +kernel
theorem dL_law_331 : decode cL_law 331 = .ok (.iconst 1, 1) := by decide +kernel
theorem dL_law_332 : decode cL_law 332 = .ok (.iadd, 1) := by decide +kernel
theorem dL_law_333 : decode cL_law 333 = .ok (.iaload, 1) := by decide +kernel
theorem dL_law_334 : decode cL_law 334 = .ok (.aload_n 0, 1) := by decide +kernel
theorem dL_law_335 : decode cL_law 335 = .ok (.iload 4, 2) := by decide +kernel
theorem dL_law_337 : decode cL_law 337 = .ok (.iconst 2, 1) := by decide +kernel
theorem dL_law_338 : decode cL_law 338 = .ok (.iadd, 1) := by decide +kernel
theorem dL_law_339 : decode cL_law 339 = .ok (.iaload, 1) := by decide +kernel
theorem dL_law_340 : decode cL_law 340 = .ok (.aload_n 0, 1) := by decide +kernel
theorem dL_law_341 : decode cL_law 341 = .ok (.iload 4, 2) := by decide +kernel
theorem dL_law_343 : decode cL_law 343 = .ok (.iconst 3, 1) := by decide +kernel
theorem dL_law_344 : decode cL_law 344 = .ok (.iadd, 1) := by decide +kernel
theorem dL_law_345 : decode cL_law 345 = .ok (.iaload, 1) := by decide +kernel
theorem dL_law_346 : decode cL_law 346 = .ok (.i2l, 1) := by decide +kernel
theorem dL_law_347 : decode cL_law 347 = .ok (.bipush 32, 2) := by decide +kernel
theorem dL_law_349 : decode cL_law 349 = .ok (.lshl, 1) := by decide +kernel
theorem dL_law_350 : decode cL_law 350 = .ok (.aload_n 0, 1) := by decide +kernel
theorem dL_law_351 : decode cL_law 351 = .ok (.iload 4, 2) := by decide +kernel
theorem dL_law_353 : decode cL_law 353 = .ok (.iconst 4, 1) := by decide +kernel
theorem dL_law_354 : decode cL_law 354 = .ok (.iadd, 1) := by decide +kernel
theorem dL_law_355 : decode cL_law 355 = .ok (.iaload, 1) := by decide +kernel
theorem dL_law_356 : decode cL_law 356 = .ok (.i2l, 1) := by decide +kernel
theorem dL_law_357 : decode cL_law 357 = .ok (.ldc2_w 43, 3) := by decide +kernel
theorem dL_law_360 : decode cL_law 360 = .ok (.land, 1) := by decide +kernel
theorem dL_law_361 : decode cL_law 361 = .ok (.lor, 1) := by decide +kernel
theorem dL_law_362 : decode cL_law 362 = .ok (.invokevirtual 49, 3) := by decide +kernel
theorem dL_law_365 : decode cL_law 365 = .ok (.if_icmp .eq 482, 3) := by decide +kernel
theorem dL_law_368 : decode cL_law 368 = .ok (.iconst 0, 1) := by decide +kernel
theorem dL_law_369 : decode cL_law 369 = .ok (.ireturn, 1) := by decide +kernel
theorem dL_law_370 : decode cL_law 370 = .ok (.aload_n 1, 1) := by decide +kernel
theorem dL_law_371 : decode cL_law 371 = .ok (.aload_n 0, 1) := by decide +kernel
theorem dL_law_372 : decode cL_law 372 = .ok (.iload 4, 2) := by decide +kernel
theorem dL_law_374 : decode cL_law 374 = .ok (.iconst 1, 1) := by decide +kernel
theorem dL_law_375 : decode cL_law 375 = .ok (.iadd, 1) := by decide +kernel
theorem dL_law_376 : decode cL_law 376 = .ok (.iaload, 1) := by decide +kernel
theorem dL_law_377 : decode cL_law 377 = .ok (.invokevirtual 50, 3) := by decide +kernel
theorem dL_law_380 : decode cL_law 380 = .ok (.aload_n 2, 1) := by decide +kernel
theorem dL_law_381 : decode cL_law 381 = .ok (.aload_n 0, 1) := by decide +kernel
theorem dL_law_382 : decode cL_law 382 = .ok (.iload 4, 2) := by decide +kernel
theorem dL_law_384 : decode cL_law 384 = .ok (.iconst 1, 1) := by decide +kernel
theorem dL_law_385 : decode cL_law 385 = .ok (.iadd, 1) := by decide +kernel
theorem dL_law_386 : decode cL_law 386 = .ok (.iaload, 1) := by decide +kernel
theorem dL_law_387 : decode cL_law 387 = .ok (.invokevirtual 54, 3) := by decide +kernel
theorem dL_law_390 : decode cL_law 390 = .ok (.if_icmp .eq 457, 3) := by decide +kernel
theorem dL_law_393 : decode cL_law 393 = .ok (.iconst 0, 1) := by decide +kernel
theorem dL_law_394 : decode cL_law 394 = .ok (.ireturn, 1) := by decide +kernel
theorem dL_law_395 : decode cL_law 395 = .ok (.aload_n 1, 1) := by decide +kernel
theorem dL_law_396 : decode cL_law 396 = .ok (.invokevirtual 55, 3) := by decide +kernel
theorem dL_law_399 : decode cL_law 399 = .ok (.aload_n 2, 1) := by decide +kernel
theorem dL_law_400 : decode cL_law 400 = .ok (.invokevirtual 58, 3) := by decide +kernel
theorem dL_law_403 : decode cL_law 403 = .ok (.if_icmp .eq 444, 3) := by decide +kernel
theorem dL_law_406 : decode cL_law 406 = .ok (.iconst 0, 1) := by decide +kernel
theorem dL_law_407 : decode cL_law 407 = .ok (.ireturn, 1) := by decide +kernel
theorem dL_law_408 : decode cL_law 408 = .ok (.aload_n 1, 1) := by decide +kernel
theorem dL_law_409 : decode cL_law 409 = .ok (.aload_n 0, 1) := by decide +kernel
theorem dL_law_410 : decode cL_law 410 = .ok (.iload 4, 2) := by decide +kernel
theorem dL_law_412 : decode cL_law 412 = .ok (.iconst 1, 1) := by decide +kernel
theorem dL_law_413 : decode cL_law 413 = .ok (.iadd, 1) := by decide +kernel
theorem dL_law_414 : decode cL_law 414 = .ok (.iaload, 1) := by decide +kernel
theorem dL_law_415 : decode cL_law 415 = .ok (.invokevirtual 59, 3) := by decide +kernel
theorem dL_law_418 : decode cL_law 418 = .ok (.aload_n 2, 1) := by decide +kernel
theorem dL_law_419 : decode cL_law 419 = .ok (.aload_n 0, 1) := by decide +kernel
theorem dL_law_420 : decode cL_law 420 = .ok (.iload 4, 2) := by decide +kernel
theorem dL_law_422 : decode cL_law 422 = .ok (.iconst 1, 1) := by decide +kernel
theorem dL_law_423 : decode cL_law 423 = .ok (.iadd, 1) := by decide +kernel
theorem dL_law_424 : decode cL_law 424 = .ok (.iaload, 1) := by decide +kernel
theorem dL_law_425 : decode cL_law 425 = .ok (.invokevirtual 63, 3) := by decide +kernel
theorem dL_law_428 : decode cL_law 428 = .ok (.lcmp, 1) := by decide +kernel
theorem dL_law_429 : decode cL_law 429 = .ok (.ifCond .eq 418, 3) := by decide +kernel
theorem dL_law_432 : decode cL_law 432 = .ok (.iconst 0, 1) := by decide +kernel
theorem dL_law_433 : decode cL_law 433 = .ok (.ireturn, 1) := by decide +kernel
theorem dL_law_434 : decode cL_law 434 = .ok (.aload_n 1, 1) := by decide +kernel
theorem dL_law_435 : decode cL_law 435 = .ok (.aload_n 0, 1) := by decide +kernel
theorem dL_law_436 : decode cL_law 436 = .ok (.iload 4, 2) := by decide +kernel
theorem dL_law_438 : decode cL_law 438 = .ok (.iconst 1, 1) := by decide +kernel
theorem dL_law_439 : decode cL_law 439 = .ok (.iadd, 1) := by decide +kernel
theorem dL_law_440 : decode cL_law 440 = .ok (.iaload, 1) := by decide +kernel
theorem dL_law_441 : decode cL_law 441 = .ok (.i2l, 1) := by decide +kernel
theorem dL_law_442 : decode cL_law 442 = .ok (.bipush 32, 2) := by decide +kernel
theorem dL_law_444 : decode cL_law 444 = .ok (.lshl, 1) := by decide +kernel
theorem dL_law_445 : decode cL_law 445 = .ok (.aload_n 0, 1) := by decide +kernel
theorem dL_law_446 : decode cL_law 446 = .ok (.iload 4, 2) := by decide +kernel
theorem dL_law_448 : decode cL_law 448 = .ok (.iconst 2, 1) := by decide +kernel
theorem dL_law_449 : decode cL_law 449 = .ok (.iadd, 1) := by decide +kernel
theorem dL_law_450 : decode cL_law 450 = .ok (.iaload, 1) := by decide +kernel
theorem dL_law_451 : decode cL_law 451 = .ok (.i2l, 1) := by decide +kernel
theorem dL_law_452 : decode cL_law 452 = .ok (.ldc2_w 43, 3) := by decide +kernel
theorem dL_law_455 : decode cL_law 455 = .ok (.land, 1) := by decide +kernel
theorem dL_law_456 : decode cL_law 456 = .ok (.lor, 1) := by decide +kernel
theorem dL_law_457 : decode cL_law 457 = .ok (.invokevirtual 64, 3) := by decide +kernel
theorem dL_law_460 : decode cL_law 460 = .ok (.aload_n 2, 1) := by decide +kernel
theorem dL_law_461 : decode cL_law 461 = .ok (.aload_n 0, 1) := by decide +kernel
theorem dL_law_462 : decode cL_law 462 = .ok (.iload 4, 2) := by decide +kernel
theorem dL_law_464 : decode cL_law 464 = .ok (.iconst 1, 1) := by decide +kernel
theorem dL_law_465 : decode cL_law 465 = .ok (.iadd, 1) := by decide +kernel
theorem dL_law_466 : decode cL_law 466 = .ok (.iaload, 1) := by decide +kernel
theorem dL_law_467 : decode cL_law 467 = .ok (.i2l, 1) := by decide +kernel
theorem dL_law_468 : decode cL_law 468 = .ok (.bipush 32, 2) := by decide +kernel
theorem dL_law_470 : decode cL_law 470 = .ok (.lshl, 1) := by decide +kernel
theorem dL_law_471 : decode cL_law 471 = .ok (.aload_n 0, 1) := by decide +kernel
theorem dL_law_472 : decode cL_law 472 = .ok (.iload 4, 2) := by decide +kernel
theorem dL_law_474 : decode cL_law 474 = .ok (.iconst 2, 1) := by decide +kernel
theorem dL_law_475 : decode cL_law 475 = .ok (.iadd, 1) := by decide +kernel
theorem dL_law_476 : decode cL_law 476 = .ok (.iaload, 1) := by decide +kernel
theorem dL_law_477 : decode cL_law 477 = .ok (.i2l, 1) := by decide +kernel
theorem dL_law_478 : decode cL_law 478 = .ok (.ldc2_w 43, 3) := by decide +kernel
theorem dL_law_481 : decode cL_law 481 = .ok (.land, 1) := by decide +kernel
theorem dL_law_482 : decode cL_law 482 = .ok (.lor, 1) := by decide +kernel
theorem dL_law_483 : decode cL_law 483 = .ok (.invokevirtual 68, 3) := by decide +kernel
theorem dL_law_486 : decode cL_law 486 = .ok (.if_icmp .eq 361, 3) := by decide +kernel
theorem dL_law_489 : decode cL_law 489 = .ok (.iconst 0, 1) := by decide +kernel
theorem dL_law_490 : decode cL_law 490 = .ok (.ireturn, 1) := by decide +kernel
theorem dL_law_491 : decode cL_law 491 = .ok (.aload_n 1, 1) := by decide +kernel
theorem dL_law_492 : decode cL_law 492 = .ok (.aload_n 0, 1) := by decide +kernel
theorem dL_law_493 : decode cL_law 493 = .ok (.iload 4, 2) := by decide +kernel
theorem dL_law_495 : decode cL_law 495 = .ok (.iconst 1, 1) := by decide +kernel
theorem dL_law_496 : decode cL_law 496 = .ok (.iadd, 1) := by decide +kernel
theorem dL_law_497 : decode cL_law 497 = .ok (.iaload, 1) := by decide +kernel
theorem dL_law_498 : decode cL_law 498 = .ok (.aload_n 0, 1) := by decide +kernel
theorem dL_law_499 : decode cL_law 499 = .ok (.iload 4, 2) := by decide +kernel
theorem dL_law_501 : decode cL_law 501 = .ok (.iconst 2, 1) := by decide +kernel
theorem dL_law_502 : decode cL_law 502 = .ok (.iadd, 1) := by decide +kernel
theorem dL_law_503 : decode cL_law 503 = .ok (.iaload, 1) := by decide +kernel
theorem dL_law_504 : decode cL_law 504 = .ok (.i2l, 1) := by decide +kernel
theorem dL_law_505 : decode cL_law 505 = .ok (.bipush 32, 2) := by decide +kernel
theorem dL_law_507 : decode cL_law 507 = .ok (.lshl, 1) := by decide +kernel
theorem dL_law_508 : decode cL_law 508 = .ok (.aload_n 0, 1) := by decide +kernel
theorem dL_law_509 : decode cL_law 509 = .ok (.iload 4, 2) := by decide +kernel
theorem dL_law_511 : decode cL_law 511 = .ok (.iconst 3, 1) := by decide +kernel
theorem dL_law_512 : decode cL_law 512 = .ok (.iadd, 1) := by decide +kernel
theorem dL_law_513 : decode cL_law 513 = .ok (.iaload, 1) := by decide +kernel
theorem dL_law_514 : decode cL_law 514 = .ok (.i2l, 1) := by decide +kernel
theorem dL_law_515 : decode cL_law 515 = .ok (.ldc2_w 43, 3) := by decide +kernel
theorem dL_law_518 : decode cL_law 518 = .ok (.land, 1) := by decide +kernel
theorem dL_law_519 : decode cL_law 519 = .ok (.lor, 1) := by decide +kernel
theorem dL_law_520 : decode cL_law 520 = .ok (.invokevirtual 69, 3) := by decide +kernel
theorem dL_law_523 : decode cL_law 523 = .ok (.aload_n 2, 1) := by decide +kernel
theorem dL_law_524 : decode cL_law 524 = .ok (.aload_n 0, 1) := by decide +kernel
theorem dL_law_525 : decode cL_law 525 = .ok (.iload 4, 2) := by decide +kernel
theorem dL_law_527 : decode cL_law 527 = .ok (.iconst 1, 1) := by decide +kernel
theorem dL_law_528 : decode cL_law 528 = .ok (.iadd, 1) := by decide +kernel
theorem dL_law_529 : decode cL_law 529 = .ok (.iaload, 1) := by decide +kernel
theorem dL_law_530 : decode cL_law 530 = .ok (.aload_n 0, 1) := by decide +kernel
theorem dL_law_531 : decode cL_law 531 = .ok (.iload 4, 2) := by decide +kernel
theorem dL_law_533 : decode cL_law 533 = .ok (.iconst 2, 1) := by decide +kernel
theorem dL_law_534 : decode cL_law 534 = .ok (.iadd, 1) := by decide +kernel
theorem dL_law_535 : decode cL_law 535 = .ok (.iaload, 1) := by decide +kernel
theorem dL_law_536 : decode cL_law 536 = .ok (.i2l, 1) := by decide +kernel
theorem dL_law_537 : decode cL_law 537 = .ok (.bipush 32, 2) := by decide +kernel
theorem dL_law_539 : decode cL_law 539 = .ok (.lshl, 1) := by decide +kernel
theorem dL_law_540 : decode cL_law 540 = .ok (.aload_n 0, 1) := by decide +kernel
theorem dL_law_541 : decode cL_law 541 = .ok (.iload 4, 2) := by decide +kernel
theorem dL_law_543 : decode cL_law 543 = .ok (.iconst 3, 1) := by decide +kernel
theorem dL_law_544 : decode cL_law 544 = .ok (.iadd, 1) := by decide +kernel
theorem dL_law_545 : decode cL_law 545 = .ok (.iaload, 1) := by decide +kernel
theorem dL_law_546 : decode cL_law 546 = .ok (.i2l, 1) := by decide +kernel
theorem dL_law_547 : decode cL_law 547 = .ok (.ldc2_w 43, 3) := by decide +kernel
theorem dL_law_550 : decode cL_law 550 = .ok (.land, 1) := by decide +kernel
theorem dL_law_551 : decode cL_law 551 = .ok (.lor, 1) := by decide +kernel
theorem dL_law_552 : decode cL_law 552 = .ok (.invokevirtual 73, 3) := by decide +kernel
theorem dL_law_555 : decode cL_law 555 = .ok (.if_icmp .eq 292, 3) := by decide +kernel
theorem dL_law_558 : decode cL_law 558 = .ok (.iconst 0, 1) := by decide +kernel
theorem dL_law_559 : decode cL_law 559 = .ok (.ireturn, 1) := by decide +kernel
theorem dL_law_560 : decode cL_law 560 = .ok (.aload_n 1, 1) := by decide +kernel
theorem dL_law_561 : decode cL_law 561 = .ok (.aload_n 0, 1) := by decide +kernel
theorem dL_law_562 : decode cL_law 562 = .ok (.iload 4, 2) := by decide +kernel
theorem dL_law_564 : decode cL_law 564 = .ok (.iconst 1, 1) := by decide +kernel
theorem dL_law_565 : decode cL_law 565 = .ok (.iadd, 1) := by decide +kernel
theorem dL_law_566 : decode cL_law 566 = .ok (.iaload, 1) := by decide +kernel
theorem dL_law_567 : decode cL_law 567 = .ok (.invokevirtual 74, 3) := by decide +kernel
theorem dL_law_570 : decode cL_law 570 = .ok (.aload_n 2, 1) := by decide +kernel
theorem dL_law_571 : decode cL_law 571 = .ok (.aload_n 0, 1) := by decide +kernel
theorem dL_law_572 : decode cL_law 572 = .ok (.iload 4, 2) := by decide +kernel
theorem dL_law_574 : decode cL_law 574 = .ok (.iconst 1, 1) := by decide +kernel
theorem dL_law_575 : decode cL_law 575 = .ok (.iadd, 1) := by decide +kernel
theorem dL_law_576 : decode cL_law 576 = .ok (.iaload, 1) := by decide +kernel
theorem dL_law_577 : decode cL_law 577 = .ok (.invokevirtual 77, 3) := by decide +kernel
theorem dL_law_580 : decode cL_law 580 = .ok (.if_icmp .eq 267, 3) := by decide +kernel
theorem dL_law_583 : decode cL_law 583 = .ok (.iconst 0, 1) := by decide +kernel
theorem dL_law_584 : decode cL_law 584 = .ok (.ireturn, 1) := by decide +kernel
theorem dL_law_585 : decode cL_law 585 = .ok (.aload_n 1, 1) := by decide +kernel
theorem dL_law_586 : decode cL_law 586 = .ok (.aload_n 0, 1) := by decide +kernel
theorem dL_law_587 : decode cL_law 587 = .ok (.iload 4, 2) := by decide +kernel
theorem dL_law_589 : decode cL_law 589 = .ok (.iconst 1, 1) := by decide +kernel
theorem dL_law_590 : decode cL_law 590 = .ok (.iadd, 1) := by decide +kernel
theorem dL_law_591 : decode cL_law 591 = .ok (.iaload, 1) := by decide +kernel
theorem dL_law_592 : decode cL_law 592 = .ok (.aload_n 0, 1) := by decide +kernel
theorem dL_law_593 : decode cL_law 593 = .ok (.iload 4, 2) := by decide +kernel
theorem dL_law_595 : decode cL_law 595 = .ok (.iconst 2, 1) := by decide +kernel
theorem dL_law_596 : decode cL_law 596 = .ok (.iadd, 1) := by decide +kernel
theorem dL_law_597 : decode cL_law 597 = .ok (.iaload, 1) := by decide +kernel
theorem dL_law_598 : decode cL_law 598 = .ok (.invokevirtual 78, 3) := by decide +kernel
theorem dL_law_601 : decode cL_law 601 = .ok (.aload_n 2, 1) := by decide +kernel
theorem dL_law_602 : decode cL_law 602 = .ok (.aload_n 0, 1) := by decide +kernel
theorem dL_law_603 : decode cL_law 603 = .ok (.iload 4, 2) := by decide +kernel
theorem dL_law_605 : decode cL_law 605 = .ok (.iconst 1, 1) := by decide +kernel
theorem dL_law_606 : decode cL_law 606 = .ok (.iadd, 1) := by decide +kernel
theorem dL_law_607 : decode cL_law 607 = .ok (.iaload, 1) := by decide +kernel
theorem dL_law_608 : decode cL_law 608 = .ok (.aload_n 0, 1) := by decide +kernel
theorem dL_law_609 : decode cL_law 609 = .ok (.iload 4, 2) := by decide +kernel
theorem dL_law_611 : decode cL_law 611 = .ok (.iconst 2, 1) := by decide +kernel
theorem dL_law_612 : decode cL_law 612 = .ok (.iadd, 1) := by decide +kernel
theorem dL_law_613 : decode cL_law 613 = .ok (.iaload, 1) := by decide +kernel
theorem dL_law_614 : decode cL_law 614 = .ok (.invokevirtual 82, 3) := by decide +kernel
theorem dL_law_617 : decode cL_law 617 = .ok (.lcmp, 1) := by decide +kernel
theorem dL_law_618 : decode cL_law 618 = .ok (.ifCond .eq 229, 3) := by decide +kernel
theorem dL_law_621 : decode cL_law 621 = .ok (.iconst 0, 1) := by decide +kernel
theorem dL_law_622 : decode cL_law 622 = .ok (.ireturn, 1) := by decide +kernel
theorem dL_law_623 : decode cL_law 623 = .ok (.aload_n 1, 1) := by decide +kernel
theorem dL_law_624 : decode cL_law 624 = .ok (.aload_n 0, 1) := by decide +kernel
theorem dL_law_625 : decode cL_law 625 = .ok (.iload 4, 2) := by decide +kernel
theorem dL_law_627 : decode cL_law 627 = .ok (.iconst 1, 1) := by decide +kernel
theorem dL_law_628 : decode cL_law 628 = .ok (.iadd, 1) := by decide +kernel
theorem dL_law_629 : decode cL_law 629 = .ok (.iaload, 1) := by decide +kernel
theorem dL_law_630 : decode cL_law 630 = .ok (.aload_n 0, 1) := by decide +kernel
theorem dL_law_631 : decode cL_law 631 = .ok (.iload 4, 2) := by decide +kernel
theorem dL_law_633 : decode cL_law 633 = .ok (.iconst 2, 1) := by decide +kernel
theorem dL_law_634 : decode cL_law 634 = .ok (.iadd, 1) := by decide +kernel
theorem dL_law_635 : decode cL_law 635 = .ok (.iaload, 1) := by decide +kernel
theorem dL_law_636 : decode cL_law 636 = .ok (.invokevirtual 83, 3) := by decide +kernel
theorem dL_law_639 : decode cL_law 639 = .ok (.aload_n 2, 1) := by decide +kernel
theorem dL_law_640 : decode cL_law 640 = .ok (.aload_n 0, 1) := by decide +kernel
theorem dL_law_641 : decode cL_law 641 = .ok (.iload 4, 2) := by decide +kernel
theorem dL_law_643 : decode cL_law 643 = .ok (.iconst 1, 1) := by decide +kernel
theorem dL_law_644 : decode cL_law 644 = .ok (.iadd, 1) := by decide +kernel
theorem dL_law_645 : decode cL_law 645 = .ok (.iaload, 1) := by decide +kernel
theorem dL_law_646 : decode cL_law 646 = .ok (.aload_n 0, 1) := by decide +kernel
theorem dL_law_647 : decode cL_law 647 = .ok (.iload 4, 2) := by decide +kernel
theorem dL_law_649 : decode cL_law 649 = .ok (.iconst 2, 1) := by decide +kernel
theorem dL_law_650 : decode cL_law 650 = .ok (.iadd, 1) := by decide +kernel
theorem dL_law_651 : decode cL_law 651 = .ok (.iaload, 1) := by decide +kernel
theorem dL_law_652 : decode cL_law 652 = .ok (.invokevirtual 87, 3) := by decide +kernel
theorem dL_law_655 : decode cL_law 655 = .ok (.if_icmp .eq 192, 3) := by decide +kernel
theorem dL_law_658 : decode cL_law 658 = .ok (.iconst 0, 1) := by decide +kernel
theorem dL_law_659 : decode cL_law 659 = .ok (.ireturn, 1) := by decide +kernel
theorem dL_law_660 : decode cL_law 660 = .ok (.aload_n 1, 1) := by decide +kernel
theorem dL_law_661 : decode cL_law 661 = .ok (.aload_n 0, 1) := by decide +kernel
theorem dL_law_662 : decode cL_law 662 = .ok (.iload 4, 2) := by decide +kernel
theorem dL_law_664 : decode cL_law 664 = .ok (.iconst 1, 1) := by decide +kernel
theorem dL_law_665 : decode cL_law 665 = .ok (.iadd, 1) := by decide +kernel
theorem dL_law_666 : decode cL_law 666 = .ok (.iaload, 1) := by decide +kernel
theorem dL_law_667 : decode cL_law 667 = .ok (.aload_n 0, 1) := by decide +kernel
theorem dL_law_668 : decode cL_law 668 = .ok (.iload 4, 2) := by decide +kernel
theorem dL_law_670 : decode cL_law 670 = .ok (.iconst 2, 1) := by decide +kernel
theorem dL_law_671 : decode cL_law 671 = .ok (.iadd, 1) := by decide +kernel
theorem dL_law_672 : decode cL_law 672 = .ok (.iaload, 1) := by decide +kernel
theorem dL_law_673 : decode cL_law 673 = .ok (.invokevirtual 88, 3) := by decide +kernel
theorem dL_law_676 : decode cL_law 676 = .ok (.aload_n 2, 1) := by decide +kernel
theorem dL_law_677 : decode cL_law 677 = .ok (.aload_n 0, 1) := by decide +kernel
theorem dL_law_678 : decode cL_law 678 = .ok (.iload 4, 2) := by decide +kernel
theorem dL_law_680 : decode cL_law 680 = .ok (.iconst 1, 1) := by decide +kernel
theorem dL_law_681 : decode cL_law 681 = .ok (.iadd, 1) := by decide +kernel
theorem dL_law_682 : decode cL_law 682 = .ok (.iaload, 1) := by decide +kernel
theorem dL_law_683 : decode cL_law 683 = .ok (.aload_n 0, 1) := by decide +kernel
theorem dL_law_684 : decode cL_law 684 = .ok (.iload 4, 2) := by decide +kernel
theorem dL_law_686 : decode cL_law 686 = .ok (.iconst 2, 1) := by decide +kernel
theorem dL_law_687 : decode cL_law 687 = .ok (.iadd, 1) := by decide +kernel
theorem dL_law_688 : decode cL_law 688 = .ok (.iaload, 1) := by decide +kernel
theorem dL_law_689 : decode cL_law 689 = .ok (.invokevirtual 91, 3) := by decide +kernel
theorem dL_law_692 : decode cL_law 692 = .ok (.if_icmp .eq 155, 3) := by decide +kernel
theorem dL_law_695 : decode cL_law 695 = .ok (.iconst 0, 1) := by decide +kernel
theorem dL_law_696 : decode cL_law 696 = .ok (.ireturn, 1) := by decide +kernel
theorem dL_law_697 : decode cL_law 697 = .ok (.aload_n 1, 1) := by decide +kernel
theorem dL_law_698 : decode cL_law 698 = .ok (.aload_n 0, 1) := by decide +kernel
theorem dL_law_699 : decode cL_law 699 = .ok (.iload 4, 2) := by decide +kernel
theorem dL_law_701 : decode cL_law 701 = .ok (.iconst 1, 1) := by decide +kernel
theorem dL_law_702 : decode cL_law 702 = .ok (.iadd, 1) := by decide +kernel
theorem dL_law_703 : decode cL_law 703 = .ok (.iaload, 1) := by decide +kernel
theorem dL_law_704 : decode cL_law 704 = .ok (.aload_n 0, 1) := by decide +kernel
theorem dL_law_705 : decode cL_law 705 = .ok (.iload 4, 2) := by decide +kernel
theorem dL_law_707 : decode cL_law 707 = .ok (.iconst 2, 1) := by decide +kernel
theorem dL_law_708 : decode cL_law 708 = .ok (.iadd, 1) := by decide +kernel
theorem dL_law_709 : decode cL_law 709 = .ok (.iaload, 1) := by decide +kernel
theorem dL_law_710 : decode cL_law 710 = .ok (.invokevirtual 92, 3) := by decide +kernel
theorem dL_law_713 : decode cL_law 713 = .ok (.aload_n 2, 1) := by decide +kernel
theorem dL_law_714 : decode cL_law 714 = .ok (.aload_n 0, 1) := by decide +kernel
theorem dL_law_715 : decode cL_law 715 = .ok (.iload 4, 2) := by decide +kernel
theorem dL_law_717 : decode cL_law 717 = .ok (.iconst 1, 1) := by decide +kernel
theorem dL_law_718 : decode cL_law 718 = .ok (.iadd, 1) := by decide +kernel
theorem dL_law_719 : decode cL_law 719 = .ok (.iaload, 1) := by decide +kernel
theorem dL_law_720 : decode cL_law 720 = .ok (.aload_n 0, 1) := by decide +kernel
theorem dL_law_721 : decode cL_law 721 = .ok (.iload 4, 2) := by decide +kernel
theorem dL_law_723 : decode cL_law 723 = .ok (.iconst 2, 1) := by decide +kernel
theorem dL_law_724 : decode cL_law 724 = .ok (.iadd, 1) := by decide +kernel
theorem dL_law_725 : decode cL_law 725 = .ok (.iaload, 1) := by decide +kernel
theorem dL_law_726 : decode cL_law 726 = .ok (.invokevirtual 95, 3) := by decide +kernel
theorem dL_law_729 : decode cL_law 729 = .ok (.if_icmp .eq 118, 3) := by decide +kernel
theorem dL_law_732 : decode cL_law 732 = .ok (.iconst 0, 1) := by decide +kernel
theorem dL_law_733 : decode cL_law 733 = .ok (.ireturn, 1) := by decide +kernel
theorem dL_law_734 : decode cL_law 734 = .ok (.aload_n 1, 1) := by decide +kernel
theorem dL_law_735 : decode cL_law 735 = .ok (.aload_n 0, 1) := by decide +kernel
theorem dL_law_736 : decode cL_law 736 = .ok (.iload 4, 2) := by decide +kernel
theorem dL_law_738 : decode cL_law 738 = .ok (.iconst 1, 1) := by decide +kernel
theorem dL_law_739 : decode cL_law 739 = .ok (.iadd, 1) := by decide +kernel
theorem dL_law_740 : decode cL_law 740 = .ok (.iaload, 1) := by decide +kernel
theorem dL_law_741 : decode cL_law 741 = .ok (.invokevirtual 96, 3) := by decide +kernel
theorem dL_law_744 : decode cL_law 744 = .ok (.aload_n 2, 1) := by decide +kernel
theorem dL_law_745 : decode cL_law 745 = .ok (.aload_n 0, 1) := by decide +kernel
theorem dL_law_746 : decode cL_law 746 = .ok (.iload 4, 2) := by decide +kernel
theorem dL_law_748 : decode cL_law 748 = .ok (.iconst 1, 1) := by decide +kernel
theorem dL_law_749 : decode cL_law 749 = .ok (.iadd, 1) := by decide +kernel
theorem dL_law_750 : decode cL_law 750 = .ok (.iaload, 1) := by decide +kernel
theorem dL_law_751 : decode cL_law 751 = .ok (.invokevirtual 99, 3) := by decide +kernel
theorem dL_law_754 : decode cL_law 754 = .ok (.if_icmp .eq 93, 3) := by decide +kernel
theorem dL_law_757 : decode cL_law 757 = .ok (.iconst 0, 1) := by decide +kernel
theorem dL_law_758 : decode cL_law 758 = .ok (.ireturn, 1) := by decide +kernel
theorem dL_law_759 : decode cL_law 759 = .ok (.aload_n 1, 1) := by decide +kernel
theorem dL_law_760 : decode cL_law 760 = .ok (.aload_n 0, 1) := by decide +kernel
theorem dL_law_761 : decode cL_law 761 = .ok (.iload 4, 2) := by decide +kernel
theorem dL_law_763 : decode cL_law 763 = .ok (.iconst 1, 1) := by decide +kernel
theorem dL_law_764 : decode cL_law 764 = .ok (.iadd, 1) := by decide +kernel
theorem dL_law_765 : decode cL_law 765 = .ok (.iaload, 1) := by decide +kernel
theorem dL_law_766 : decode cL_law 766 = .ok (.invokevirtual 100, 3) := by decide +kernel
theorem dL_law_769 : decode cL_law 769 = .ok (.aload_n 2, 1) := by decide +kernel
theorem dL_law_770 : decode cL_law 770 = .ok (.aload_n 0, 1) := by decide +kernel
theorem dL_law_771 : decode cL_law 771 = .ok (.iload 4, 2) := by decide +kernel
theorem dL_law_773 : decode cL_law 773 = .ok (.iconst 1, 1) := by decide +kernel
theorem dL_law_774 : decode cL_law 774 = .ok (.iadd, 1) := by decide +kernel
theorem dL_law_775 : decode cL_law 775 = .ok (.iaload, 1) := by decide +kernel
theorem dL_law_776 : decode cL_law 776 = .ok (.invokevirtual 103, 3) := by decide +kernel
theorem dL_law_779 : decode cL_law 779 = .ok (.if_icmp .eq 68, 3) := by decide +kernel
theorem dL_law_782 : decode cL_law 782 = .ok (.iconst 0, 1) := by decide +kernel
theorem dL_law_783 : decode cL_law 783 = .ok (.ireturn, 1) := by decide +kernel
theorem dL_law_784 : decode cL_law 784 = .ok (.aload_n 1, 1) := by decide +kernel
theorem dL_law_785 : decode cL_law 785 = .ok (.aload_n 0, 1) := by decide +kernel
theorem dL_law_786 : decode cL_law 786 = .ok (.iload 4, 2) := by decide +kernel
theorem dL_law_788 : decode cL_law 788 = .ok (.iconst 1, 1) := by decide +kernel
theorem dL_law_789 : decode cL_law 789 = .ok (.iadd, 1) := by decide +kernel
theorem dL_law_790 : decode cL_law 790 = .ok (.iaload, 1) := by decide +kernel
theorem dL_law_791 : decode cL_law 791 = .ok (.invokevirtual 104, 3) := by decide +kernel
theorem dL_law_794 : decode cL_law 794 = .ok (.aload_n 2, 1) := by decide +kernel
theorem dL_law_795 : decode cL_law 795 = .ok (.aload_n 0, 1) := by decide +kernel
theorem dL_law_796 : decode cL_law 796 = .ok (.iload 4, 2) := by decide +kernel
theorem dL_law_798 : decode cL_law 798 = .ok (.iconst 1, 1) := by decide +kernel
theorem dL_law_799 : decode cL_law 799 = .ok (.iadd, 1) := by decide +kernel
theorem dL_law_800 : decode cL_law 800 = .ok (.iaload, 1) := by decide +kernel
theorem dL_law_801 : decode cL_law 801 = .ok (.invokevirtual 107, 3) := by decide +kernel
theorem dL_law_804 : decode cL_law 804 = .ok (.if_icmp .eq 43, 3) := by decide +kernel
theorem dL_law_807 : decode cL_law 807 = .ok (.iconst 0, 1) := by decide +kernel
theorem dL_law_808 : decode cL_law 808 = .ok (.ireturn, 1) := by decide +kernel
theorem dL_law_809 : decode cL_law 809 = .ok (.aload_n 1, 1) := by decide +kernel
theorem dL_law_810 : decode cL_law 810 = .ok (.aload_n 0, 1) := by decide +kernel
theorem dL_law_811 : decode cL_law 811 = .ok (.iload 4, 2) := by decide +kernel
theorem dL_law_813 : decode cL_law 813 = .ok (.iconst 1, 1) := by decide +kernel
theorem dL_law_814 : decode cL_law 814 = .ok (.iadd, 1) := by decide +kernel
theorem dL_law_815 : decode cL_law 815 = .ok (.iaload, 1) := by decide +kernel
theorem dL_law_816 : decode cL_law 816 = .ok (.invokevirtual 108, 3) := by decide +kernel
theorem dL_law_819 : decode cL_law 819 = .ok (.aload_n 2, 1) := by decide +kernel
theorem dL_law_820 : decode cL_law 820 = .ok (.aload_n 0, 1) := by decide +kernel
theorem dL_law_821 : decode cL_law 821 = .ok (.iload 4, 2) := by decide +kernel
theorem dL_law_823 : decode cL_law 823 = .ok (.iconst 1, 1) := by decide +kernel
theorem dL_law_824 : decode cL_law 824 = .ok (.iadd, 1) := by decide +kernel
theorem dL_law_825 : decode cL_law 825 = .ok (.iaload, 1) := by decide +kernel
theorem dL_law_826 : decode cL_law 826 = .ok (.invokevirtual 112, 3) := by decide +kernel
theorem dL_law_829 : decode cL_law 829 = .ok (.if_icmp .eq 18, 3) := by decide +kernel
theorem dL_law_832 : decode cL_law 832 = .ok (.iconst 0, 1) := by decide +kernel
theorem dL_law_833 : decode cL_law 833 = .ok (.ireturn, 1) := by decide +kernel
theorem dL_law_834 : decode cL_law 834 = .ok (.aload_n 1, 1) := by decide +kernel
theorem dL_law_835 : decode cL_law 835 = .ok (.invokevirtual 113, 3) := by decide +kernel
theorem dL_law_838 : decode cL_law 838 = .ok (.aload_n 2, 1) := by decide +kernel
theorem dL_law_839 : decode cL_law 839 = .ok (.invokevirtual 116, 3) := by decide +kernel
theorem dL_law_842 : decode cL_law 842 = .ok (.if_icmp .eq 5, 3) := by decide +kernel
theorem dL_law_845 : decode cL_law 845 = .ok (.iconst 0, 1) := by decide +kernel
theorem dL_law_846 : decode cL_law 846 = .ok (.ireturn, 1) := by decide +kernel
theorem dL_law_847 : decode cL_law 847 = .ok (.iinc 4 5, 3) := by decide +kernel
theorem dL_law_850 : decode cL_law 850 = .ok (.goto (-817), 3) := by decide +kernel
theorem dL_law_853 : decode cL_law 853 = .ok (.iconst 1, 1) := by decide +kernel
theorem dL_law_854 : decode cL_law 854 = .ok (.ireturn, 1) := by decide +kernel
end
section
/-! PURE: arrays of small numbers, by their naturals -/
def nf (f : Nat → Nat) : Nat → Int32 := fun k => nI (f k)
def un {α : Type} (f : Nat → α) (k : Nat) (x : α) : Nat → α := fun j => if j = k then x else f j
theorem nf_at (f : Nat → Nat) (k : Nat) : nf f k = nI (f k) := rfl
theorem nf_upd (f : Nat → Nat) (k x : Nat) : upd (nf f) k (nI x) = nf (un f k x) := by
  funext j
  by_cases h : j = k
  · simp [upd, nf, un, h]
  · simp [upd, nf, un, h]
theorem un_s {α : Type} {f : Nat → α} {k : Nat} {x : α} : un f k x k = x := if_pos rfl
theorem un_n {α : Type} {f : Nat → α} {k j : Nat} {x : α} (h : j ≠ k) : un f k x j = f j := if_neg h
theorem un_le {f : Nat → Nat} {k x n : Nat} (h : ∀ j, f j ≤ n) (hx : x ≤ n) : ∀ j, un f k x j ≤ n := fun j => by
  unfold un; split
  · exact hx
  · exact h j
theorem sub_le0 {a b : Nat} (ha : a < 2 ^ 30) (hb : b < 2 ^ 30) : nI a - nI b ≤ 0 ↔ a ≤ b := by
  rw [Int32.le_iff_toInt_le, pk_sub_toInt ha hb, Int32.toInt_zero]; omega
theorem sub_gt0 {a b : Nat} (ha : a < 2 ^ 30) (hb : b < 2 ^ 30) : 0 < nI a - nI b ↔ b < a := by
  rw [Int32.lt_iff_toInt_lt, pk_sub_toInt ha hb, Int32.toInt_zero]; omega
/-- a channel, evened -/
def evN (d w v : Nat) : Nat := if w ≤ d ∨ v ≤ d then 0 else min 255 (256 * (v - d) / (w - d))
theorem evN_le (d w v : Nat) : evN d w v ≤ 255 := by
  unfold evN; split
  · omega
  · exact Nat.min_le_left _ _
/-- the row of now -/
def rwN (dn wn vn : Nat → Nat) : Nat → Nat := fun k => evN (dn k) (wn k) (vn k)
/-- f, but up to n as g -/
def fu {α : Type} (g f : Nat → α) (n : Nat) : Nat → α := fun k => if k < n then g k else f k
theorem fu_0 {α : Type} {g f : Nat → α} : fu g f 0 = f := by
  funext k; simp [fu]
theorem fu_s {α : Type} {g f : Nat → α} {n : Nat} : un (fu g f n) n (g n) = fu g f (n + 1) := by
  funext k
  unfold un fu
  by_cases h : k = n
  · subst h; simp
  · by_cases h2 : k < n
    · simp [h, h2, Nat.lt_succ_of_lt h2]
    · simp [h, h2, show ¬ k < n + 1 by omega]
theorem fu_lt {α : Type} {g f : Nat → α} {n k : Nat} (h : k < n) : fu g f n k = g k := if_pos h
theorem fu_ge {α : Type} {g f : Nat → α} {n k : Nat} (h : n ≤ k) : fu g f n k = f k := if_neg (by omega)
theorem fu_fu {α : Type} {g f : Nat → α} {n : Nat} : fu g (fu g f n) n = fu g f n := by
  funext k; unfold fu; split <;> rfl
theorem lp_e {i n : Nat} {N : Int32} (c : N ≤ nI i) (hi : i ≤ n) (hN : N = nI n := by rfl) (hn : n < 2 ^ 31 := by omega) : n = i := by
  subst hN
  have := (nI_leI hn (by omega)).mp c
  omega
theorem lp_l {i n : Nat} {N : Int32} (c : ¬ N ≤ nI i) (hi : i ≤ n) (hN : N = nI n := by rfl) (hn : n < 2 ^ 31 := by omega) : i < n := by
  subst hN
  rcases Nat.lt_or_ge i n with h | h
  · exact h
  · exact absurd (nI_le h (by omega)) c
theorem evN_min {d w v : Nat} (h1 : d < w) (h2 : d < v) (h3 : 256 * (v - d) < 2 ^ 31) : (if nI (256 * (v - d) / (w - d)) < 255 then nI (256 * (v - d) / (w - d)) else 255) = nI (evN d w v) := by
  have hq : 256 * (v - d) / (w - d) < 2 ^ 31 := Nat.lt_of_le_of_lt (Nat.div_le_self _ _) h3
  have he : evN d w v = min 255 (256 * (v - d) / (w - d)) := by
    unfold evN
    rw [if_neg (by omega)]
  rw [he]
  generalize 256 * (v - d) / (w - d) = q at hq
  by_cases h : q < 255
  · have h' : nI q < (255 : Int32) := (nI_ltI (b := 255) hq (by omega)).mpr h
    rw [if_pos h', Nat.min_eq_right (by omega)]
  · have h' : ¬ nI q < (255 : Int32) := fun z => h ((nI_ltI (b := 255) hq (by omega)).mp z)
    rw [if_neg h', Nat.min_eq_left (by omega)]
    rfl
theorem upd_un (f : Nat → Int32) (k : Nat) (x : Int32) : upd f k x = un f k x := rfl
theorem fu_nf {g f : Nat → Nat} {n : Nat} : fu (nf g) (nf f) n = nf (fu g f n) := by
  funext k
  show (if k < n then nI (g k) else nI (f k)) = nI (if k < n then g k else f k)
  split <;> rfl
theorem gt_le {x : Int32} (h : (255 : Int32) < x) : nI 256 ≤ x := by
  rw [Int32.lt_iff_toInt_lt, show (255 : Int32).toInt = 255 from by decide] at h
  rw [Int32.le_iff_toInt_le, nI_toInt (by omega)]; omega
theorem ngt_nle {x : Int32} (h : ¬ (255 : Int32) < x) : ¬ nI 256 ≤ x := by
  rw [Int32.lt_iff_toInt_lt, show (255 : Int32).toInt = 255 from by decide] at h
  rw [Int32.le_iff_toInt_le, nI_toInt (by omega)]; omega
theorem fu_same {α : Type} {g f : Nat → α} {n : Nat} (h : g n = f n) : fu g f (n + 1) = fu g f n := by
  funext k
  unfold fu
  by_cases h1 : k < n
  · simp [h1, Nat.lt_succ_of_lt h1]
  · by_cases h2 : k = n
    · subst h2; simp [h]
    · simp [h1, show ¬ k < n + 1 by omega]
/-- sums, counts -/
def sumN (f : Nat → Nat) : Nat → Nat
  | 0 => 0
  | k + 1 => sumN f k + f k
def cnt (P : Nat → Bool) : Nat → Nat
  | 0 => 0
  | k + 1 => cnt P k + (if P k then 1 else 0)
theorem cnt_le (P : Nat → Bool) (n : Nat) : cnt P n ≤ n := by
  induction n with
  | zero => exact Nat.le_refl _
  | succ n ih => unfold cnt; split <;> omega
theorem cnt_mono {P Q : Nat → Bool} (h : ∀ i, P i = true → Q i = true) (n : Nat) : cnt P n ≤ cnt Q n := by
  induction n with
  | zero => exact Nat.le_refl _
  | succ n ih =>
    unfold cnt
    by_cases hp : P n = true
    · rw [if_pos hp, if_pos (h n hp)]; omega
    · rw [if_neg hp]; omega
theorem sumN_le {f : Nat → Nat} {m : Nat} (h : ∀ k, f k ≤ m) (n : Nat) : sumN f n ≤ m * n := by
  induction n with
  | zero => exact Nat.le_refl _
  | succ n ih => unfold sumN; have := h n; rw [Nat.mul_succ]; omega
/-- cells of a row -/
def ceN (f : Nat → Nat) : Nat → Nat := fun k => (f (k + 1) + 256 - f k) / 64
theorem ceN_lt {f : Nat → Nat} (h : ∀ k, f k ≤ 255) (k : Nat) : ceN f k < 8 := by
  unfold ceN; have := h (k + 1); omega
/-- the rows of a kind, but the one left out -/
def okR (kn : Nat → Nat) (kd : Nat) (w : Int32) : Nat → Bool := fun i => decide (kn i = kd) && !decide (nI i = w)
def samR (kn : Nat → Nat) (C : Nat → Nat → Nat) (fc : Nat → Nat) (kd : Nat) (w : Int32) (k : Nat) : Nat → Bool := fun i => okR kn kd w i && decide (fc k = C i k)
/-- THE SUM of a kind for a row of cells fc -/
def SUM (kn : Nat → Nat) (C : Nat → Nat → Nat) (fc : Nat → Nat) (kd : Nat) (w : Int32) (n : Nat) : Nat := sumN (fun k => if cnt (okR kn kd w) n = 0 then 0 else cnt (samR kn C fc kd w k) n * 1000 / cnt (okR kn kd w) n) 7
/-- packed bytes -/
def pbN (K n : Nat) (kn : Nat → Nat) (M : Nat → Nat → Nat) (i : Nat) : Nat := if i = 0 then K else if i = 1 then n else if (i - 2) % 9 = 0 then kn ((i - 2) / 9) else M ((i - 2) / 9) ((i - 2) % 9 - 1)
def pkN (K n : Nat) (kn : Nat → Nat) (M : Nat → Nat → Nat) (x : Int32) : Int32 := if inB x (3 + 9 * n) then (if x.toNatClampNeg < 2 + 9 * n then nI (pbN K n kn M x.toNatClampNeg) else nI (sumN (pbN K n kn M) (2 + 9 * n) % 256)) else -1
/-- what can be opened -/
def fitP (K : Nat) (F : Nat → Nat) (len : Nat) : Prop := 3 ≤ len ∧ F 0 = K ∧ F 1 ≤ 40 ∧ len = 3 + 9 * F 1 ∧ (∀ t, t < F 1 → F (2 + 9 * t) < K) ∧ F (2 + 9 * F 1) = sumN F (2 + 9 * F 1) % 256
/-- the pool of the taught rows, and of their cells -/
def pr (cI : ClassId) (ar : Nat → Nat) (M : Nat → Nat → Nat) : va_W := (List.range 40).map (fun i => (ar i, .inl (cI, 8, .inl (nf (M i)))))
def pq (cI : ClassId) (ac : Nat → Nat) (C : Nat → Nat → Nat) : va_W := (List.range 40).map (fun i => (ac i, .inl (cI, 7, .inl (nf (C i)))))
def og (ar : Nat → Nat) : Nat → Option Nat := fun i => if i < 40 then some (ar i) else none
theorem og_at {ar : Nat → Nat} {i : Nat} (h : i < 40) : og ar i = some (ar i) := if_pos h
theorem og_nI {ar : Nat → Nat} {i : Nat} (h : i < 40) : og ar (nI i).toNatClampNeg = some (ar i) := by rw [nI_clamp (by omega)]; exact if_pos h
theorem pr_len {cI : ClassId} {ar : Nat → Nat} {M : Nat → Nat → Nat} : (pr cI ar M).length = 40 := by simp [pr]
theorem pr_get {cI : ClassId} {ar : Nat → Nat} {M : Nat → Nat → Nat} {T : va_W} {i : Nat} (h : i < 40) : (pr cI ar M ++ T)[i]? = some (ar i, .inl (cI, 8, .inl (nf (M i)))) := by
  rw [List.getElem?_append_left (by rw [pr_len]; exact h)]
  simp [pr, h]
theorem pq_len {cI : ClassId} {ac : Nat → Nat} {C : Nat → Nat → Nat} : (pq cI ac C).length = 40 := by simp [pq]
theorem pq_get0 {cI : ClassId} {ac : Nat → Nat} {C : Nat → Nat → Nat} {T : va_W} {i : Nat} (h : i < 40) : (pq cI ac C ++ T)[i]? = some (ac i, .inl (cI, 7, .inl (nf (C i)))) := by
  rw [List.getElem?_append_left (by rw [pq_len]; exact h)]
  simp [pq, h]
theorem pq_get {cI : ClassId} {ar ac : Nat → Nat} {M C : Nat → Nat → Nat} {T : va_W} {i : Nat} (h : i < 40) : (pr cI ar M ++ (pq cI ac C ++ T))[i + 40]? = some (ac i, .inl (cI, 7, .inl (nf (C i)))) := by
  rw [List.getElem?_append_right (by rw [pr_len]; omega), pr_len, Nat.add_sub_cancel]
  exact pq_get0 h
theorem un_i {α : Type} {M : Nat → α} {i j : Nat} {r : α} : un M i r j = if j = i then r else M j := rfl
theorem mp_set {α β : Type} {N i : Nat} {F : Nat → α → β} {M : Nat → α} {r : α} (h : i < N) : ((List.range N).map (fun j => F j (M j))).set i (F i r) = (List.range N).map (fun j => F j (un M i r j)) := by
  apply List.ext_getElem?
  intro j
  rw [List.getElem?_set]
  by_cases hj : j < N
  · by_cases e : i = j
    · subst e
      simp [hj, un]
    · simp [hj, un, e, Ne.symm e]
  · by_cases e : i = j
    · omega
    · simp [hj, e]
theorem pr_set {cI : ClassId} {ar : Nat → Nat} {M : Nat → Nat → Nat} {T : va_W} {i : Nat} {r : Nat → Nat} (h : i < 40) : (pr cI ar M ++ T).set i (ar i, .inl (cI, 8, .inl (nf r))) = pr cI ar (un M i r) ++ T := by
  rw [List.set_append_left _ _ (by rw [pr_len]; exact h)]
  exact congrArg (· ++ T) (mp_set (F := fun j r => ((ar j, .inl (cI, 8, .inl (nf r))) : Nat × va_E)) h)
theorem pq_set0 {cI : ClassId} {ac : Nat → Nat} {C : Nat → Nat → Nat} {T : va_W} {i : Nat} {r : Nat → Nat} (h : i < 40) : (pq cI ac C ++ T).set i (ac i, .inl (cI, 7, .inl (nf r))) = pq cI ac (un C i r) ++ T := by
  rw [List.set_append_left _ _ (by rw [pq_len]; exact h)]
  exact congrArg (· ++ T) (mp_set (F := fun j r => ((ac j, .inl (cI, 7, .inl (nf r))) : Nat × va_E)) h)
theorem pq_set {cI : ClassId} {ar ac : Nat → Nat} {M C : Nat → Nat → Nat} {T : va_W} {i : Nat} {r : Nat → Nat} (h : i < 40) : (pr cI ar M ++ (pq cI ac C ++ T)).set (i + 40) (ac i, .inl (cI, 7, .inl (nf r))) = pr cI ar M ++ (pq cI ac (un C i r) ++ T) := by
  rw [List.set_append_right _ _ (by rw [pr_len]; omega), pr_len, Nat.add_sub_cancel, pq_set0 h]
/-- places of a world that is set -/
theorem sl_eq {wl : va_W} {q : Nat} {x e : Nat × va_E} (h : wl[q]? = some x) : (wl.set q e)[q]? = some e := by
  have := (List.getElem?_eq_some_iff.mp h).1
  simp [this]
theorem sl_ne {wl : va_W} {q k : Nat} {x e : Nat × va_E} (hq : q ≠ k) (h : wl[k]? = some x) : (wl.set q e)[k]? = some x := by
  rw [List.getElem?_set_ne hq]; exact h
theorem sl_self {wl : va_W} {q : Nat} {e : Nat × va_E} (h : wl[q]? = some e) : wl.set q e = wl := by
  apply List.ext_getElem?
  intro j
  by_cases hj : q = j
  · subst hj; rw [sl_eq h, h]
  · rw [List.getElem?_set_ne hj]
end
section
abbrev rJ7_fill_53178 : Room := { frames := 0, cells := 0, slots := 0, locals := 0 }
set_option maxHeartbeats 4000000 in
set_option maxRecDepth 100000 in
theorem c_J7_fill_53178 (l : Launch) (D : va_G) (cI cJ cG : ClassId) (sz : Nat) (R : va_W) (a_ n : Nat) (f : Nat → Int32) (v : Int32) (hn : n < 2 ^ 31) : Met l yJ7_fill_53178 wsJ7_fill_53178 rJ7_fill_53178 (gP D (tyl cI cJ cG) [.ref a_, .int v] ((a_, .inl (cI, n, .inl f)) :: R) sz) (gQv D (tyl cI cJ cG) ((a_, .inl (cI, n, .inl f)) :: R) sz (fun (_ : Unit) => True) (fun _ => ((a_, .inl (cI, n, .inl (fu (fun _ => v) f n))) :: R))) 0 0 (va_A ((a_, .inl (cI, n, .inl f)) :: R) sz) := by
  refine gMet (cc := cJ7_fill_53178) (maxL := 4) (ret := none) (ls0 := [(0, .ref a_), (1, .int v)]) (by decide) rfl (Nat.le_of_ble_eq_true rfl) rfl ?_
  intro p e s m below meth c hx hb hr hts hown hlocks hml hname A hA hAe hsz Q hQe H locs hP hK hD hS ls hl
  skip
  rw [← fu_0 (g := fun _ => v) (f := f)] at hP hD
  refine lv_iconst (v := 0) hx hb dJ7_fill_53178_0 (by decide) ?_
  refine lv_istore_n (lv' := [(2, .int 0), (0, .ref a_), (1, .int v)]) hx hb dJ7_fill_53178_1 rfl hl (by decide) rfl (fun ls hl => ?_)
  refine lv_aload_n hx hb dJ7_fill_53178_2 rfl (lv_at hl 1 rfl) ?_
  refine va_alen hx hb hK hP 0 0 rfl rfl (v := nI n) rfl dJ7_fill_53178_3 ?_
  refine lv_istore_n (lv' := [(3, .int (nI n)), (2, .int 0), (0, .ref a_), (1, .int v)]) hx hb dJ7_fill_53178_4 rfl hl (by decide) rfl (fun ls hl => ?_)
  have L_5 : ∀ (n_5 : Nat) (i : Nat) (hi : i ≤ n), n - i < n_5 → ∀ (H : Heap) (locs : List Loc) (ls : Array Slot), va_P D vwCl ((a_, .inl (cI, n, .inl (fu (fun _ => v) f i))) :: R) H → va_D A ((a_, .inl (cI, n, .inl (fu (fun _ => v) f i))) :: R) → va_S A s.heap H locs → lv_has ls 4 [(2, .int (nI i)), (3, .int (nI n)), (0, .ref a_), (1, .int v)] → W p l e (headSpec wsJ7_fill_53178 rJ7_fill_53178).room s m ([.ref a_, .int v] : List Value).toArray below meth c H locs 0 0 Q (F0 m 5 ls []) := by
    intro n_5
    induction n_5 with
    | zero => intro i hi hn_; exact absurd hn_ (Nat.not_lt_zero _)
    | succ n_5 ih_5 =>
      intro i hi hn_5 H locs ls hP hD hS hl
      refine lv_iload_n hx hb dJ7_fill_53178_5 rfl (lv_at hl 0 rfl) ?_
      refine lv_iload_n hx hb dJ7_fill_53178_6 rfl (lv_at hl 1 rfl) ?_
      refine lv_icmp_ge (tgt := 20) hx hb dJ7_fill_53178_7 (by decide) (fun c7 => ?_) (fun c7 => ?_)
      · skip
        have hi8 := lp_e (n := n) c7 hi
        subst hi8
        subst hQe
        subst hAe
        subst hsz
        exact g_vret hx hb hr hlocks () trivial hP hK hD hS dJ7_fill_53178_20
      · skip
        have hi8 := lp_l (n := n) c7 hi
        refine lv_aload_n hx hb dJ7_fill_53178_10 rfl (lv_at hl 2 rfl) ?_
        refine lv_iload_n hx hb dJ7_fill_53178_11 rfl (lv_at hl 0 rfl) ?_
        refine lv_iload_n hx hb dJ7_fill_53178_12 rfl (lv_at hl 3 rfl) ?_
        refine va_iast hx hb hK hP hD hS 0 0 rfl rfl (by first | exact vp_in_nI (by omega) (by omega) | assumption) dJ7_fill_53178_13 (fun H locs hP hD hS => ?_)
        rw [nI_clamp (by omega)] at hP hD
        have hP : va_P D vwCl ((a_, .inl (cI, n, .inl (upd (fu (fun _ => v) f i) i v))) :: R) H := hP
        have hD : va_D A ((a_, .inl (cI, n, .inl (upd (fu (fun _ => v) f i) i v))) :: R) := hD
        have hW_ : upd (fu (fun _ => v) f i) i v = fu (fun _ => v) f (i + 1) := by rw [upd_un]; exact fu_s (g := fun _ => v)
        rw [hW_] at hP hD
        have hP : va_P D vwCl ((a_, .inl (cI, n, .inl (fu (fun _ => v) f (i + 1)))) :: R) H := hP
        have hD : va_D A ((a_, .inl (cI, n, .inl (fu (fun _ => v) f (i + 1)))) :: R) := hD
        obtain ⟨x14, ex14⟩ : ∃ y : Int32, y = (nI i) + 1 := ⟨_, rfl⟩
        refine lv_iinc (v := x14) (lv' := [(2, .int x14), (3, .int (nI n)), (0, .ref a_), (1, .int v)]) hx hb dJ7_fill_53178_14 hl (k := 0) rfl (by rw [ex14]; rfl) (by decide) rfl (fun ls hl => ?_)
        obtain rfl : x14 = nI (i + 1) := by rw [ex14]; exact nI_1 _
        refine lv_goto (tgt := 5) hx hb dJ7_fill_53178_17 (by decide) ?_
        exact ih_5 (i + 1) (by omega) (by omega) H locs ls hP hD hS (lv_sub hl [0, 1, 2, 3] rfl)
  exact L_5 _ 0 (Nat.zero_le _) (Nat.lt_succ_self _) H locs ls hP hD hS (lv_sub hl [1, 0, 2, 3] rfl)
abbrev rX3_isChannel : Room := { frames := 0, cells := 0, slots := 0, locals := 0 }
set_option maxHeartbeats 4000000 in
set_option maxRecDepth 100000 in
theorem c_X3_isChannel (l : Launch) (D : va_G) (cI cJ cG : ClassId) (sz : Nat) (R : va_W) (x : Int32) : Met l yX3_isChannel wsX3_isChannel rX3_isChannel (gP D (tyl cI cJ cG) [.int x] (R) sz) (gQi D (tyl cI cJ cG) (R) sz (fun r (_ : Unit) => r = bI (inB x 8)) (fun _ => R)) 0 0 (va_A (R) sz) := by
  refine gMet (cc := cX3_isChannel) (maxL := 1) (ret := (some .boolean)) (ls0 := [(0, .int x)]) (by decide) rfl (Nat.le_of_ble_eq_true rfl) rfl ?_
  intro p e s m below meth c hx hb hr hts hown hlocks hml hname A hA hAe hsz Q hQe H locs hP hK hD hS ls hl
  have hown : s.vm.findClass RX3 = some m.cls := hown
  refine lv_iload_n hx hb dX3_isChannel_0 rfl (lv_at hl 0 rfl) ?_
  refine lv_if_lt (tgt := 14) hx hb dX3_isChannel_1 (by decide) (fun c1 => ?_) (fun c1 => ?_)
  · skip
    refine lv_iconst (v := 0) hx hb dX3_isChannel_14 (by decide) ?_
    subst hQe
    subst hAe
    subst hsz
    exact g_zret hx hb hr hlocks rfl () (by first | (rw [inB_f1 c1]; rfl) | (rw [inB_f2 (n := 8) (by omega) c7]; rfl) | (rw [inB_t (n := 8) (by omega) c1 c7]; rfl)) hP hK hD hS dX3_isChannel_15
  · skip
    refine lv_iload_n hx hb dX3_isChannel_4 rfl (lv_at hl 0 rfl) ?_
    refine lv_bipush (v := 8) hx hb dX3_isChannel_5 (by decide) ?_
    refine lv_icmp_ge (tgt := 14) hx hb dX3_isChannel_7 (by decide) (fun c7 => ?_) (fun c7 => ?_)
    · skip
      refine lv_iconst (v := 0) hx hb dX3_isChannel_14 (by decide) ?_
      subst hQe
      subst hAe
      subst hsz
      exact g_zret hx hb hr hlocks rfl () (by first | (rw [inB_f1 c1]; rfl) | (rw [inB_f2 (n := 8) (by omega) c7]; rfl) | (rw [inB_t (n := 8) (by omega) c1 c7]; rfl)) hP hK hD hS dX3_isChannel_15
    · skip
      refine lv_iconst (v := 1) hx hb dX3_isChannel_10 (by decide) ?_
      refine lv_goto (tgt := 15) hx hb dX3_isChannel_11 (by decide) ?_
      subst hQe
      subst hAe
      subst hsz
      exact g_zret hx hb hr hlocks rfl () (by first | (rw [inB_f1 c1]; rfl) | (rw [inB_f2 (n := 8) (by omega) c7]; rfl) | (rw [inB_t (n := 8) (by omega) c1 c7]; rfl)) hP hK hD hS dX3_isChannel_15
abbrev rX3_isByte : Room := { frames := 0, cells := 0, slots := 0, locals := 0 }
set_option maxHeartbeats 4000000 in
set_option maxRecDepth 100000 in
theorem c_X3_isByte (l : Launch) (D : va_G) (cI cJ cG : ClassId) (sz : Nat) (R : va_W) (x : Int32) : Met l yX3_isByte wsX3_isByte rX3_isByte (gP D (tyl cI cJ cG) [.int x] (R) sz) (gQi D (tyl cI cJ cG) (R) sz (fun r (_ : Unit) => r = bI (inB x 256)) (fun _ => R)) 0 0 (va_A (R) sz) := by
  refine gMet (cc := cX3_isByte) (maxL := 1) (ret := (some .boolean)) (ls0 := [(0, .int x)]) (by decide) rfl (Nat.le_of_ble_eq_true rfl) rfl ?_
  intro p e s m below meth c hx hb hr hts hown hlocks hml hname A hA hAe hsz Q hQe H locs hP hK hD hS ls hl
  have hown : s.vm.findClass RX3 = some m.cls := hown
  refine lv_iload_n hx hb dX3_isByte_0 rfl (lv_at hl 0 rfl) ?_
  refine lv_if_lt (tgt := 15) hx hb dX3_isByte_1 (by decide) (fun c1 => ?_) (fun c1 => ?_)
  · skip
    refine lv_iconst (v := 0) hx hb dX3_isByte_15 (by decide) ?_
    subst hQe
    subst hAe
    subst hsz
    exact g_zret hx hb hr hlocks rfl () (by first | (rw [inB_f1 c1]; rfl) | (rw [inB_f2 (n := 256) (by omega) (gt_le c8)]; rfl) | (rw [inB_t (n := 256) (by omega) c1 (ngt_nle c8)]; rfl)) hP hK hD hS dX3_isByte_16
  · skip
    refine lv_iload_n hx hb dX3_isByte_4 rfl (lv_at hl 0 rfl) ?_
    refine lv_sipush (v := 255) hx hb dX3_isByte_5 (by decide) ?_
    refine lv_icmp_gt (tgt := 15) hx hb dX3_isByte_8 (by decide) (fun c8 => ?_) (fun c8 => ?_)
    · skip
      refine lv_iconst (v := 0) hx hb dX3_isByte_15 (by decide) ?_
      subst hQe
      subst hAe
      subst hsz
      exact g_zret hx hb hr hlocks rfl () (by first | (rw [inB_f1 c1]; rfl) | (rw [inB_f2 (n := 256) (by omega) (gt_le c8)]; rfl) | (rw [inB_t (n := 256) (by omega) c1 (ngt_nle c8)]; rfl)) hP hK hD hS dX3_isByte_16
    · skip
      refine lv_iconst (v := 1) hx hb dX3_isByte_11 (by decide) ?_
      refine lv_goto (tgt := 16) hx hb dX3_isByte_12 (by decide) ?_
      subst hQe
      subst hAe
      subst hsz
      exact g_zret hx hb hr hlocks rfl () (by first | (rw [inB_f1 c1]; rfl) | (rw [inB_f2 (n := 256) (by omega) (gt_le c8)]; rfl) | (rw [inB_t (n := 256) (by omega) c1 (ngt_nle c8)]; rfl)) hP hK hD hS dX3_isByte_16
abbrev rX4_isChannel : Room := { frames := 0, cells := 0, slots := 0, locals := 0 }
set_option maxHeartbeats 4000000 in
set_option maxRecDepth 100000 in
theorem c_X4_isChannel (l : Launch) (D : va_G) (cI cJ cG : ClassId) (sz : Nat) (R : va_W) (x : Int32) : Met l yX4_isChannel wsX4_isChannel rX4_isChannel (gP D (tyl cI cJ cG) [.int x] (R) sz) (gQi D (tyl cI cJ cG) (R) sz (fun r (_ : Unit) => r = bI (inB x 8)) (fun _ => R)) 0 0 (va_A (R) sz) := by
  refine gMet (cc := cX4_isChannel) (maxL := 1) (ret := (some .boolean)) (ls0 := [(0, .int x)]) (by decide) rfl (Nat.le_of_ble_eq_true rfl) rfl ?_
  intro p e s m below meth c hx hb hr hts hown hlocks hml hname A hA hAe hsz Q hQe H locs hP hK hD hS ls hl
  have hown : s.vm.findClass RX4 = some m.cls := hown
  refine lv_iload_n hx hb dX4_isChannel_0 rfl (lv_at hl 0 rfl) ?_
  refine lv_if_lt (tgt := 14) hx hb dX4_isChannel_1 (by decide) (fun c1 => ?_) (fun c1 => ?_)
  · skip
    refine lv_iconst (v := 0) hx hb dX4_isChannel_14 (by decide) ?_
    subst hQe
    subst hAe
    subst hsz
    exact g_zret hx hb hr hlocks rfl () (by first | (rw [inB_f1 c1]; rfl) | (rw [inB_f2 (n := 8) (by omega) c7]; rfl) | (rw [inB_t (n := 8) (by omega) c1 c7]; rfl)) hP hK hD hS dX4_isChannel_15
  · skip
    refine lv_iload_n hx hb dX4_isChannel_4 rfl (lv_at hl 0 rfl) ?_
    refine lv_bipush (v := 8) hx hb dX4_isChannel_5 (by decide) ?_
    refine lv_icmp_ge (tgt := 14) hx hb dX4_isChannel_7 (by decide) (fun c7 => ?_) (fun c7 => ?_)
    · skip
      refine lv_iconst (v := 0) hx hb dX4_isChannel_14 (by decide) ?_
      subst hQe
      subst hAe
      subst hsz
      exact g_zret hx hb hr hlocks rfl () (by first | (rw [inB_f1 c1]; rfl) | (rw [inB_f2 (n := 8) (by omega) c7]; rfl) | (rw [inB_t (n := 8) (by omega) c1 c7]; rfl)) hP hK hD hS dX4_isChannel_15
    · skip
      refine lv_iconst (v := 1) hx hb dX4_isChannel_10 (by decide) ?_
      refine lv_goto (tgt := 15) hx hb dX4_isChannel_11 (by decide) ?_
      subst hQe
      subst hAe
      subst hsz
      exact g_zret hx hb hr hlocks rfl () (by first | (rw [inB_f1 c1]; rfl) | (rw [inB_f2 (n := 8) (by omega) c7]; rfl) | (rw [inB_t (n := 8) (by omega) c1 c7]; rfl)) hP hK hD hS dX4_isChannel_15
abbrev rX4_isByte : Room := { frames := 0, cells := 0, slots := 0, locals := 0 }
set_option maxHeartbeats 4000000 in
set_option maxRecDepth 100000 in
theorem c_X4_isByte (l : Launch) (D : va_G) (cI cJ cG : ClassId) (sz : Nat) (R : va_W) (x : Int32) : Met l yX4_isByte wsX4_isByte rX4_isByte (gP D (tyl cI cJ cG) [.int x] (R) sz) (gQi D (tyl cI cJ cG) (R) sz (fun r (_ : Unit) => r = bI (inB x 256)) (fun _ => R)) 0 0 (va_A (R) sz) := by
  refine gMet (cc := cX4_isByte) (maxL := 1) (ret := (some .boolean)) (ls0 := [(0, .int x)]) (by decide) rfl (Nat.le_of_ble_eq_true rfl) rfl ?_
  intro p e s m below meth c hx hb hr hts hown hlocks hml hname A hA hAe hsz Q hQe H locs hP hK hD hS ls hl
  have hown : s.vm.findClass RX4 = some m.cls := hown
  refine lv_iload_n hx hb dX4_isByte_0 rfl (lv_at hl 0 rfl) ?_
  refine lv_if_lt (tgt := 15) hx hb dX4_isByte_1 (by decide) (fun c1 => ?_) (fun c1 => ?_)
  · skip
    refine lv_iconst (v := 0) hx hb dX4_isByte_15 (by decide) ?_
    subst hQe
    subst hAe
    subst hsz
    exact g_zret hx hb hr hlocks rfl () (by first | (rw [inB_f1 c1]; rfl) | (rw [inB_f2 (n := 256) (by omega) (gt_le c8)]; rfl) | (rw [inB_t (n := 256) (by omega) c1 (ngt_nle c8)]; rfl)) hP hK hD hS dX4_isByte_16
  · skip
    refine lv_iload_n hx hb dX4_isByte_4 rfl (lv_at hl 0 rfl) ?_
    refine lv_sipush (v := 255) hx hb dX4_isByte_5 (by decide) ?_
    refine lv_icmp_gt (tgt := 15) hx hb dX4_isByte_8 (by decide) (fun c8 => ?_) (fun c8 => ?_)
    · skip
      refine lv_iconst (v := 0) hx hb dX4_isByte_15 (by decide) ?_
      subst hQe
      subst hAe
      subst hsz
      exact g_zret hx hb hr hlocks rfl () (by first | (rw [inB_f1 c1]; rfl) | (rw [inB_f2 (n := 256) (by omega) (gt_le c8)]; rfl) | (rw [inB_t (n := 256) (by omega) c1 (ngt_nle c8)]; rfl)) hP hK hD hS dX4_isByte_16
    · skip
      refine lv_iconst (v := 1) hx hb dX4_isByte_11 (by decide) ?_
      refine lv_goto (tgt := 16) hx hb dX4_isByte_12 (by decide) ?_
      subst hQe
      subst hAe
      subst hsz
      exact g_zret hx hb hr hlocks rfl () (by first | (rw [inB_f1 c1]; rfl) | (rw [inB_f2 (n := 256) (by omega) (gt_le c8)]; rfl) | (rw [inB_t (n := 256) (by omega) c1 (ngt_nle c8)]; rfl)) hP hK hD hS dX4_isByte_16
abbrev rX0_isPlace : Room := { frames := 0, cells := 0, slots := 0, locals := 0 }
set_option maxHeartbeats 4000000 in
set_option maxRecDepth 100000 in
theorem c_X0_isPlace (l : Launch) (D : va_G) (cI cJ cG : ClassId) (sz : Nat) (R : va_W) (x y : Int32) : Met l yX0_isPlace wsX0_isPlace rX0_isPlace (gP D (tyl cI cJ cG) [.int x, .int y] (R) sz) (gQi D (tyl cI cJ cG) (R) sz (fun r (_ : Unit) => r = bI (inB x 16 && inB y 16)) (fun _ => R)) 0 0 (va_A (R) sz) := by
  refine gMet (cc := cX0_isPlace) (maxL := 2) (ret := (some .boolean)) (ls0 := [(0, .int x), (1, .int y)]) (by decide) rfl (Nat.le_of_ble_eq_true rfl) rfl ?_
  intro p e s m below meth c hx hb hr hts hown hlocks hml hname A hA hAe hsz Q hQe H locs hP hK hD hS ls hl
  have hown : s.vm.findClass RX0 = some m.cls := hown
  refine lv_iload_n hx hb dX0_isPlace_0 rfl (lv_at hl 0 rfl) ?_
  refine lv_if_lt (tgt := 24) hx hb dX0_isPlace_1 (by decide) (fun c1 => ?_) (fun c1 => ?_)
  · skip
    refine lv_iconst (v := 0) hx hb dX0_isPlace_24 (by decide) ?_
    subst hQe
    subst hAe
    subst hsz
    exact g_zret hx hb hr hlocks rfl () (by first | (rw [inB_f1 c1]; rfl) | (rw [inB_f2 (n := 16) (by omega) c7]; rfl) | (rw [inB_f1 (x := y) c11, Bool.and_false]; rfl) | (rw [inB_f2 (x := y) (n := 16) (by omega) c17, Bool.and_false]; rfl) | (rw [inB_t (n := 16) (by omega) c1 c7, inB_t (n := 16) (by omega) c11 c17]; rfl)) hP hK hD hS dX0_isPlace_25
  · skip
    refine lv_iload_n hx hb dX0_isPlace_4 rfl (lv_at hl 0 rfl) ?_
    refine lv_bipush (v := 16) hx hb dX0_isPlace_5 (by decide) ?_
    refine lv_icmp_ge (tgt := 24) hx hb dX0_isPlace_7 (by decide) (fun c7 => ?_) (fun c7 => ?_)
    · skip
      refine lv_iconst (v := 0) hx hb dX0_isPlace_24 (by decide) ?_
      subst hQe
      subst hAe
      subst hsz
      exact g_zret hx hb hr hlocks rfl () (by first | (rw [inB_f1 c1]; rfl) | (rw [inB_f2 (n := 16) (by omega) c7]; rfl) | (rw [inB_f1 (x := y) c11, Bool.and_false]; rfl) | (rw [inB_f2 (x := y) (n := 16) (by omega) c17, Bool.and_false]; rfl) | (rw [inB_t (n := 16) (by omega) c1 c7, inB_t (n := 16) (by omega) c11 c17]; rfl)) hP hK hD hS dX0_isPlace_25
    · skip
      refine lv_iload_n hx hb dX0_isPlace_10 rfl (lv_at hl 1 rfl) ?_
      refine lv_if_lt (tgt := 24) hx hb dX0_isPlace_11 (by decide) (fun c11 => ?_) (fun c11 => ?_)
      · skip
        refine lv_iconst (v := 0) hx hb dX0_isPlace_24 (by decide) ?_
        subst hQe
        subst hAe
        subst hsz
        exact g_zret hx hb hr hlocks rfl () (by first | (rw [inB_f1 c1]; rfl) | (rw [inB_f2 (n := 16) (by omega) c7]; rfl) | (rw [inB_f1 (x := y) c11, Bool.and_false]; rfl) | (rw [inB_f2 (x := y) (n := 16) (by omega) c17, Bool.and_false]; rfl) | (rw [inB_t (n := 16) (by omega) c1 c7, inB_t (n := 16) (by omega) c11 c17]; rfl)) hP hK hD hS dX0_isPlace_25
      · skip
        refine lv_iload_n hx hb dX0_isPlace_14 rfl (lv_at hl 1 rfl) ?_
        refine lv_bipush (v := 16) hx hb dX0_isPlace_15 (by decide) ?_
        refine lv_icmp_ge (tgt := 24) hx hb dX0_isPlace_17 (by decide) (fun c17 => ?_) (fun c17 => ?_)
        · skip
          refine lv_iconst (v := 0) hx hb dX0_isPlace_24 (by decide) ?_
          subst hQe
          subst hAe
          subst hsz
          exact g_zret hx hb hr hlocks rfl () (by first | (rw [inB_f1 c1]; rfl) | (rw [inB_f2 (n := 16) (by omega) c7]; rfl) | (rw [inB_f1 (x := y) c11, Bool.and_false]; rfl) | (rw [inB_f2 (x := y) (n := 16) (by omega) c17, Bool.and_false]; rfl) | (rw [inB_t (n := 16) (by omega) c1 c7, inB_t (n := 16) (by omega) c11 c17]; rfl)) hP hK hD hS dX0_isPlace_25
        · skip
          refine lv_iconst (v := 1) hx hb dX0_isPlace_20 (by decide) ?_
          refine lv_goto (tgt := 25) hx hb dX0_isPlace_21 (by decide) ?_
          subst hQe
          subst hAe
          subst hsz
          exact g_zret hx hb hr hlocks rfl () (by first | (rw [inB_f1 c1]; rfl) | (rw [inB_f2 (n := 16) (by omega) c7]; rfl) | (rw [inB_f1 (x := y) c11, Bool.and_false]; rfl) | (rw [inB_f2 (x := y) (n := 16) (by omega) c17, Bool.and_false]; rfl) | (rw [inB_t (n := 16) (by omega) c1 c7, inB_t (n := 16) (by omega) c11 c17]; rfl)) hP hK hD hS dX0_isPlace_25
abbrev rX4_isPlace : Room := { frames := 0, cells := 0, slots := 0, locals := 0 }
set_option maxHeartbeats 4000000 in
set_option maxRecDepth 100000 in
theorem c_X4_isPlace (l : Launch) (D : va_G) (cI cJ cG : ClassId) (sz : Nat) (R : va_W) (x y : Int32) : Met l yX4_isPlace wsX4_isPlace rX4_isPlace (gP D (tyl cI cJ cG) [.int x, .int y] (R) sz) (gQi D (tyl cI cJ cG) (R) sz (fun r (_ : Unit) => r = bI (inB x 16 && inB y 16)) (fun _ => R)) 0 0 (va_A (R) sz) := by
  refine gMet (cc := cX4_isPlace) (maxL := 2) (ret := (some .boolean)) (ls0 := [(0, .int x), (1, .int y)]) (by decide) rfl (Nat.le_of_ble_eq_true rfl) rfl ?_
  intro p e s m below meth c hx hb hr hts hown hlocks hml hname A hA hAe hsz Q hQe H locs hP hK hD hS ls hl
  have hown : s.vm.findClass RX4 = some m.cls := hown
  refine lv_iload_n hx hb dX4_isPlace_0 rfl (lv_at hl 0 rfl) ?_
  refine lv_if_lt (tgt := 24) hx hb dX4_isPlace_1 (by decide) (fun c1 => ?_) (fun c1 => ?_)
  · skip
    refine lv_iconst (v := 0) hx hb dX4_isPlace_24 (by decide) ?_
    subst hQe
    subst hAe
    subst hsz
    exact g_zret hx hb hr hlocks rfl () (by first | (rw [inB_f1 c1]; rfl) | (rw [inB_f2 (n := 16) (by omega) c7]; rfl) | (rw [inB_f1 (x := y) c11, Bool.and_false]; rfl) | (rw [inB_f2 (x := y) (n := 16) (by omega) c17, Bool.and_false]; rfl) | (rw [inB_t (n := 16) (by omega) c1 c7, inB_t (n := 16) (by omega) c11 c17]; rfl)) hP hK hD hS dX4_isPlace_25
  · skip
    refine lv_iload_n hx hb dX4_isPlace_4 rfl (lv_at hl 0 rfl) ?_
    refine lv_bipush (v := 16) hx hb dX4_isPlace_5 (by decide) ?_
    refine lv_icmp_ge (tgt := 24) hx hb dX4_isPlace_7 (by decide) (fun c7 => ?_) (fun c7 => ?_)
    · skip
      refine lv_iconst (v := 0) hx hb dX4_isPlace_24 (by decide) ?_
      subst hQe
      subst hAe
      subst hsz
      exact g_zret hx hb hr hlocks rfl () (by first | (rw [inB_f1 c1]; rfl) | (rw [inB_f2 (n := 16) (by omega) c7]; rfl) | (rw [inB_f1 (x := y) c11, Bool.and_false]; rfl) | (rw [inB_f2 (x := y) (n := 16) (by omega) c17, Bool.and_false]; rfl) | (rw [inB_t (n := 16) (by omega) c1 c7, inB_t (n := 16) (by omega) c11 c17]; rfl)) hP hK hD hS dX4_isPlace_25
    · skip
      refine lv_iload_n hx hb dX4_isPlace_10 rfl (lv_at hl 1 rfl) ?_
      refine lv_if_lt (tgt := 24) hx hb dX4_isPlace_11 (by decide) (fun c11 => ?_) (fun c11 => ?_)
      · skip
        refine lv_iconst (v := 0) hx hb dX4_isPlace_24 (by decide) ?_
        subst hQe
        subst hAe
        subst hsz
        exact g_zret hx hb hr hlocks rfl () (by first | (rw [inB_f1 c1]; rfl) | (rw [inB_f2 (n := 16) (by omega) c7]; rfl) | (rw [inB_f1 (x := y) c11, Bool.and_false]; rfl) | (rw [inB_f2 (x := y) (n := 16) (by omega) c17, Bool.and_false]; rfl) | (rw [inB_t (n := 16) (by omega) c1 c7, inB_t (n := 16) (by omega) c11 c17]; rfl)) hP hK hD hS dX4_isPlace_25
      · skip
        refine lv_iload_n hx hb dX4_isPlace_14 rfl (lv_at hl 1 rfl) ?_
        refine lv_bipush (v := 16) hx hb dX4_isPlace_15 (by decide) ?_
        refine lv_icmp_ge (tgt := 24) hx hb dX4_isPlace_17 (by decide) (fun c17 => ?_) (fun c17 => ?_)
        · skip
          refine lv_iconst (v := 0) hx hb dX4_isPlace_24 (by decide) ?_
          subst hQe
          subst hAe
          subst hsz
          exact g_zret hx hb hr hlocks rfl () (by first | (rw [inB_f1 c1]; rfl) | (rw [inB_f2 (n := 16) (by omega) c7]; rfl) | (rw [inB_f1 (x := y) c11, Bool.and_false]; rfl) | (rw [inB_f2 (x := y) (n := 16) (by omega) c17, Bool.and_false]; rfl) | (rw [inB_t (n := 16) (by omega) c1 c7, inB_t (n := 16) (by omega) c11 c17]; rfl)) hP hK hD hS dX4_isPlace_25
        · skip
          refine lv_iconst (v := 1) hx hb dX4_isPlace_20 (by decide) ?_
          refine lv_goto (tgt := 25) hx hb dX4_isPlace_21 (by decide) ?_
          subst hQe
          subst hAe
          subst hsz
          exact g_zret hx hb hr hlocks rfl () (by first | (rw [inB_f1 c1]; rfl) | (rw [inB_f2 (n := 16) (by omega) c7]; rfl) | (rw [inB_f1 (x := y) c11, Bool.and_false]; rfl) | (rw [inB_f2 (x := y) (n := 16) (by omega) c17, Bool.and_false]; rfl) | (rw [inB_t (n := 16) (by omega) c1 c7, inB_t (n := 16) (by omega) c11 c17]; rfl)) hP hK hD hS dX4_isPlace_25
end
section
abbrev rX1_setWhite : Room := { frames := 0, cells := 0, slots := 0, locals := 0 }
set_option maxHeartbeats 4000000 in
set_option maxRecDepth 100000 in
theorem c_X1_setWhite (l : Launch) (D : va_G) (cI cJ cG : ClassId) (sz : Nat) (R : va_W) (c_ d_ w_ v_ : Nat) (dn wn vn : Nat → Nat) (tk : Int64) (j x : Nat) (hj : j < 8) : Met l yX1_setWhite wsX1_setWhite rX1_setWhite (gP D (tyl cI cJ cG) [.ref c_, .int (nI j), .int (nI x)] ((c_, .inr (2, [.ref d_, .ref w_, .ref v_, .long tk])) :: (d_, .inl (cI, 8, .inl (nf dn))) :: (w_, .inl (cI, 8, .inl (nf wn))) :: (v_, .inl (cI, 8, .inl (nf vn))) :: R) sz) (gQi D (tyl cI cJ cG) ((c_, .inr (2, [.ref d_, .ref w_, .ref v_, .long tk])) :: (d_, .inl (cI, 8, .inl (nf dn))) :: (w_, .inl (cI, 8, .inl (nf wn))) :: (v_, .inl (cI, 8, .inl (nf vn))) :: R) sz (fun r (_ : Unit) => r = 1) (fun _ => ((c_, .inr (2, [.ref d_, .ref w_, .ref v_, .long tk])) :: (d_, .inl (cI, 8, .inl (nf dn))) :: (w_, .inl (cI, 8, .inl (nf (un wn j x)))) :: (v_, .inl (cI, 8, .inl (nf vn))) :: R))) 0 0 (va_A ((c_, .inr (2, [.ref d_, .ref w_, .ref v_, .long tk])) :: (d_, .inl (cI, 8, .inl (nf dn))) :: (w_, .inl (cI, 8, .inl (nf wn))) :: (v_, .inl (cI, 8, .inl (nf vn))) :: R) sz) := by
  refine gMet (cc := cX1_setWhite) (maxL := 3) (ret := (some .boolean)) (ls0 := [(0, .ref c_), (1, .int (nI j)), (2, .int (nI x))]) (by decide) rfl (Nat.le_of_ble_eq_true rfl) rfl ?_
  intro p e s m below meth c hx hb hr hts hown hlocks hml hname A hA hAe hsz Q hQe H locs hP hK hD hS ls hl
  have hown : s.vm.findClass RX1 = some m.cls := hown
  have in_X1 : ∀ w ∈ wsX10, w ∈ wsX1_setWhite := by decide +kernel
  have f_15 := hts (.fieldLink RX1 15 "SpectrumHeads$Channels" "whites" "[I") (by decide +kernel)
  refine lv_aload_n hx hb dX1_setWhite_0 rfl (lv_at hl 0 rfl) ?_
  refine va_get (D := D) (ci := 2) (v := .ref w_) (C := RX1) (T := TX1) (N := 4) hx hb hts in_X1 hown hK hP 0 rfl rfl 1 (by decide) f_15 (fun _ h9 => h9) rfl dX1_setWhite_1 ?_
  refine lv_iload_n hx hb dX1_setWhite_4 rfl (lv_at hl 1 rfl) ?_
  refine lv_iload_n hx hb dX1_setWhite_5 rfl (lv_at hl 2 rfl) ?_
  refine va_iast hx hb hK hP hD hS 2 0 rfl rfl (by first | exact vp_in_nI (by omega) (by omega) | assumption) dX1_setWhite_6 (fun H locs hP hD hS => ?_)
  rw [nI_clamp (by omega)] at hP hD
  have hP : va_P D vwCl ((c_, .inr (2, [.ref d_, .ref w_, .ref v_, .long tk])) :: (d_, .inl (cI, 8, .inl (nf dn))) :: (w_, .inl (cI, 8, .inl (upd (nf wn) j (nI x)))) :: (v_, .inl (cI, 8, .inl (nf vn))) :: R) H := hP
  have hD : va_D A ((c_, .inr (2, [.ref d_, .ref w_, .ref v_, .long tk])) :: (d_, .inl (cI, 8, .inl (nf dn))) :: (w_, .inl (cI, 8, .inl (upd (nf wn) j (nI x)))) :: (v_, .inl (cI, 8, .inl (nf vn))) :: R) := hD
  have hW_ : upd (nf wn) j (nI x) = nf (un wn j x) := by exact nf_upd _ _ _
  rw [hW_] at hP hD
  have hP : va_P D vwCl ((c_, .inr (2, [.ref d_, .ref w_, .ref v_, .long tk])) :: (d_, .inl (cI, 8, .inl (nf dn))) :: (w_, .inl (cI, 8, .inl (nf (un wn j x)))) :: (v_, .inl (cI, 8, .inl (nf vn))) :: R) H := hP
  have hD : va_D A ((c_, .inr (2, [.ref d_, .ref w_, .ref v_, .long tk])) :: (d_, .inl (cI, 8, .inl (nf dn))) :: (w_, .inl (cI, 8, .inl (nf (un wn j x)))) :: (v_, .inl (cI, 8, .inl (nf vn))) :: R) := hD
  refine lv_iconst (v := 1) hx hb dX1_setWhite_7 (by decide) ?_
  subst hQe
  subst hAe
  subst hsz
  exact g_zret hx hb hr hlocks rfl () rfl hP hK hD hS dX1_setWhite_8
abbrev rX1_setDark : Room := { frames := 0, cells := 0, slots := 0, locals := 0 }
set_option maxHeartbeats 4000000 in
set_option maxRecDepth 100000 in
theorem c_X1_setDark (l : Launch) (D : va_G) (cI cJ cG : ClassId) (sz : Nat) (R : va_W) (c_ d_ w_ v_ : Nat) (dn wn vn : Nat → Nat) (tk : Int64) (j x : Nat) (hj : j < 8) : Met l yX1_setDark wsX1_setDark rX1_setDark (gP D (tyl cI cJ cG) [.ref c_, .int (nI j), .int (nI x)] ((c_, .inr (2, [.ref d_, .ref w_, .ref v_, .long tk])) :: (d_, .inl (cI, 8, .inl (nf dn))) :: (w_, .inl (cI, 8, .inl (nf wn))) :: (v_, .inl (cI, 8, .inl (nf vn))) :: R) sz) (gQi D (tyl cI cJ cG) ((c_, .inr (2, [.ref d_, .ref w_, .ref v_, .long tk])) :: (d_, .inl (cI, 8, .inl (nf dn))) :: (w_, .inl (cI, 8, .inl (nf wn))) :: (v_, .inl (cI, 8, .inl (nf vn))) :: R) sz (fun r (_ : Unit) => r = 1) (fun _ => ((c_, .inr (2, [.ref d_, .ref w_, .ref v_, .long tk])) :: (d_, .inl (cI, 8, .inl (nf (un dn j x)))) :: (w_, .inl (cI, 8, .inl (nf wn))) :: (v_, .inl (cI, 8, .inl (nf vn))) :: R))) 0 0 (va_A ((c_, .inr (2, [.ref d_, .ref w_, .ref v_, .long tk])) :: (d_, .inl (cI, 8, .inl (nf dn))) :: (w_, .inl (cI, 8, .inl (nf wn))) :: (v_, .inl (cI, 8, .inl (nf vn))) :: R) sz) := by
  refine gMet (cc := cX1_setDark) (maxL := 3) (ret := (some .boolean)) (ls0 := [(0, .ref c_), (1, .int (nI j)), (2, .int (nI x))]) (by decide) rfl (Nat.le_of_ble_eq_true rfl) rfl ?_
  intro p e s m below meth c hx hb hr hts hown hlocks hml hname A hA hAe hsz Q hQe H locs hP hK hD hS ls hl
  have hown : s.vm.findClass RX1 = some m.cls := hown
  have in_X1 : ∀ w ∈ wsX10, w ∈ wsX1_setDark := by decide +kernel
  have f_9 := hts (.fieldLink RX1 9 "SpectrumHeads$Channels" "darks" "[I") (by decide +kernel)
  refine lv_aload_n hx hb dX1_setDark_0 rfl (lv_at hl 0 rfl) ?_
  refine va_get (D := D) (ci := 2) (v := .ref d_) (C := RX1) (T := TX1) (N := 4) hx hb hts in_X1 hown hK hP 0 rfl rfl 0 (by decide) f_9 (fun _ h9 => h9) rfl dX1_setDark_1 ?_
  refine lv_iload_n hx hb dX1_setDark_4 rfl (lv_at hl 1 rfl) ?_
  refine lv_iload_n hx hb dX1_setDark_5 rfl (lv_at hl 2 rfl) ?_
  refine va_iast hx hb hK hP hD hS 1 0 rfl rfl (by first | exact vp_in_nI (by omega) (by omega) | assumption) dX1_setDark_6 (fun H locs hP hD hS => ?_)
  rw [nI_clamp (by omega)] at hP hD
  have hP : va_P D vwCl ((c_, .inr (2, [.ref d_, .ref w_, .ref v_, .long tk])) :: (d_, .inl (cI, 8, .inl (upd (nf dn) j (nI x)))) :: (w_, .inl (cI, 8, .inl (nf wn))) :: (v_, .inl (cI, 8, .inl (nf vn))) :: R) H := hP
  have hD : va_D A ((c_, .inr (2, [.ref d_, .ref w_, .ref v_, .long tk])) :: (d_, .inl (cI, 8, .inl (upd (nf dn) j (nI x)))) :: (w_, .inl (cI, 8, .inl (nf wn))) :: (v_, .inl (cI, 8, .inl (nf vn))) :: R) := hD
  have hW_ : upd (nf dn) j (nI x) = nf (un dn j x) := by exact nf_upd _ _ _
  rw [hW_] at hP hD
  have hP : va_P D vwCl ((c_, .inr (2, [.ref d_, .ref w_, .ref v_, .long tk])) :: (d_, .inl (cI, 8, .inl (nf (un dn j x)))) :: (w_, .inl (cI, 8, .inl (nf wn))) :: (v_, .inl (cI, 8, .inl (nf vn))) :: R) H := hP
  have hD : va_D A ((c_, .inr (2, [.ref d_, .ref w_, .ref v_, .long tk])) :: (d_, .inl (cI, 8, .inl (nf (un dn j x)))) :: (w_, .inl (cI, 8, .inl (nf wn))) :: (v_, .inl (cI, 8, .inl (nf vn))) :: R) := hD
  refine lv_iconst (v := 1) hx hb dX1_setDark_7 (by decide) ?_
  subst hQe
  subst hAe
  subst hsz
  exact g_zret hx hb hr hlocks rfl () rfl hP hK hD hS dX1_setDark_8
abbrev rX1_setValue : Room := { frames := 0, cells := 0, slots := 0, locals := 0 }
set_option maxHeartbeats 4000000 in
set_option maxRecDepth 100000 in
theorem c_X1_setValue (l : Launch) (D : va_G) (cI cJ cG : ClassId) (sz : Nat) (R : va_W) (c_ d_ w_ v_ : Nat) (dn wn vn : Nat → Nat) (tk : Int64) (j x : Nat) (hj : j < 8) : Met l yX1_setValue wsX1_setValue rX1_setValue (gP D (tyl cI cJ cG) [.ref c_, .int (nI j), .int (nI x)] ((c_, .inr (2, [.ref d_, .ref w_, .ref v_, .long tk])) :: (d_, .inl (cI, 8, .inl (nf dn))) :: (w_, .inl (cI, 8, .inl (nf wn))) :: (v_, .inl (cI, 8, .inl (nf vn))) :: R) sz) (gQi D (tyl cI cJ cG) ((c_, .inr (2, [.ref d_, .ref w_, .ref v_, .long tk])) :: (d_, .inl (cI, 8, .inl (nf dn))) :: (w_, .inl (cI, 8, .inl (nf wn))) :: (v_, .inl (cI, 8, .inl (nf vn))) :: R) sz (fun r (_ : Unit) => r = 1) (fun _ => ((c_, .inr (2, [.ref d_, .ref w_, .ref v_, .long tk])) :: (d_, .inl (cI, 8, .inl (nf dn))) :: (w_, .inl (cI, 8, .inl (nf wn))) :: (v_, .inl (cI, 8, .inl (nf (un vn j x)))) :: R))) 0 0 (va_A ((c_, .inr (2, [.ref d_, .ref w_, .ref v_, .long tk])) :: (d_, .inl (cI, 8, .inl (nf dn))) :: (w_, .inl (cI, 8, .inl (nf wn))) :: (v_, .inl (cI, 8, .inl (nf vn))) :: R) sz) := by
  refine gMet (cc := cX1_setValue) (maxL := 3) (ret := (some .boolean)) (ls0 := [(0, .ref c_), (1, .int (nI j)), (2, .int (nI x))]) (by decide) rfl (Nat.le_of_ble_eq_true rfl) rfl ?_
  intro p e s m below meth c hx hb hr hts hown hlocks hml hname A hA hAe hsz Q hQe H locs hP hK hD hS ls hl
  have hown : s.vm.findClass RX1 = some m.cls := hown
  have in_X1 : ∀ w ∈ wsX10, w ∈ wsX1_setValue := by decide +kernel
  have f_18 := hts (.fieldLink RX1 18 "SpectrumHeads$Channels" "values" "[I") (by decide +kernel)
  refine lv_aload_n hx hb dX1_setValue_0 rfl (lv_at hl 0 rfl) ?_
  refine va_get (D := D) (ci := 2) (v := .ref v_) (C := RX1) (T := TX1) (N := 4) hx hb hts in_X1 hown hK hP 0 rfl rfl 2 (by decide) f_18 (fun _ h9 => h9) rfl dX1_setValue_1 ?_
  refine lv_iload_n hx hb dX1_setValue_4 rfl (lv_at hl 1 rfl) ?_
  refine lv_iload_n hx hb dX1_setValue_5 rfl (lv_at hl 2 rfl) ?_
  refine va_iast hx hb hK hP hD hS 3 0 rfl rfl (by first | exact vp_in_nI (by omega) (by omega) | assumption) dX1_setValue_6 (fun H locs hP hD hS => ?_)
  rw [nI_clamp (by omega)] at hP hD
  have hP : va_P D vwCl ((c_, .inr (2, [.ref d_, .ref w_, .ref v_, .long tk])) :: (d_, .inl (cI, 8, .inl (nf dn))) :: (w_, .inl (cI, 8, .inl (nf wn))) :: (v_, .inl (cI, 8, .inl (upd (nf vn) j (nI x)))) :: R) H := hP
  have hD : va_D A ((c_, .inr (2, [.ref d_, .ref w_, .ref v_, .long tk])) :: (d_, .inl (cI, 8, .inl (nf dn))) :: (w_, .inl (cI, 8, .inl (nf wn))) :: (v_, .inl (cI, 8, .inl (upd (nf vn) j (nI x)))) :: R) := hD
  have hW_ : upd (nf vn) j (nI x) = nf (un vn j x) := by exact nf_upd _ _ _
  rw [hW_] at hP hD
  have hP : va_P D vwCl ((c_, .inr (2, [.ref d_, .ref w_, .ref v_, .long tk])) :: (d_, .inl (cI, 8, .inl (nf dn))) :: (w_, .inl (cI, 8, .inl (nf wn))) :: (v_, .inl (cI, 8, .inl (nf (un vn j x)))) :: R) H := hP
  have hD : va_D A ((c_, .inr (2, [.ref d_, .ref w_, .ref v_, .long tk])) :: (d_, .inl (cI, 8, .inl (nf dn))) :: (w_, .inl (cI, 8, .inl (nf wn))) :: (v_, .inl (cI, 8, .inl (nf (un vn j x)))) :: R) := hD
  refine lv_iconst (v := 1) hx hb dX1_setValue_7 (by decide) ?_
  subst hQe
  subst hAe
  subst hsz
  exact g_zret hx hb hr hlocks rfl () rfl hP hK hD hS dX1_setValue_8
abbrev rX1_setWhiteAt : Room := { frames := 1, cells := 0, slots := 0, locals := 22 }
set_option maxHeartbeats 4000000 in
set_option maxRecDepth 100000 in
theorem c_X1_setWhiteAt (l : Launch) (D : va_G) (cI cJ cG : ClassId) (sz : Nat) (R : va_W) (c_ d_ w_ v_ : Nat) (dn wn vn : Nat → Nat) (tk : Int64) (j x : Nat) (t : Int64) (hj : j < 8) : Met l yX1_setWhiteAt wsX1_setWhiteAt rX1_setWhiteAt (gP D (tyl cI cJ cG) [.ref c_, .int (nI j), .int (nI x), .long t] ((c_, .inr (2, [.ref d_, .ref w_, .ref v_, .long tk])) :: (d_, .inl (cI, 8, .inl (nf dn))) :: (w_, .inl (cI, 8, .inl (nf wn))) :: (v_, .inl (cI, 8, .inl (nf vn))) :: R) sz) (gQi D (tyl cI cJ cG) ((c_, .inr (2, [.ref d_, .ref w_, .ref v_, .long tk])) :: (d_, .inl (cI, 8, .inl (nf dn))) :: (w_, .inl (cI, 8, .inl (nf wn))) :: (v_, .inl (cI, 8, .inl (nf vn))) :: R) sz (fun r (u : (Nat → Nat) × Int64) => r = bI (decide (tk < t)) ∧ u = if tk < t then (un wn j x, t) else (wn, tk)) (fun u => ((c_, .inr (2, [.ref d_, .ref w_, .ref v_, .long u.2])) :: (d_, .inl (cI, 8, .inl (nf dn))) :: (w_, .inl (cI, 8, .inl (nf u.1))) :: (v_, .inl (cI, 8, .inl (nf vn))) :: R))) 0 0 (va_A ((c_, .inr (2, [.ref d_, .ref w_, .ref v_, .long tk])) :: (d_, .inl (cI, 8, .inl (nf dn))) :: (w_, .inl (cI, 8, .inl (nf wn))) :: (v_, .inl (cI, 8, .inl (nf vn))) :: R) sz) := by
  refine gMet (cc := cX1_setWhiteAt) (maxL := 5) (ret := (some .boolean)) (ls0 := [(0, .ref c_), (1, .int (nI j)), (2, .int (nI x)), (3, .long t)]) (by decide) rfl (Nat.le_of_ble_eq_true rfl) rfl ?_
  intro p e s m below meth c hx hb hr hts hown hlocks hml hname A hA hAe hsz Q hQe H locs hP hK hD hS ls hl
  have hown : s.vm.findClass RX1 = some m.cls := hown
  have in_X1 : ∀ w ∈ wsX10, w ∈ wsX1_setWhiteAt := by decide +kernel
  have f_27 := hts (.fieldLink RX1 27 "SpectrumHeads$Channels" "lastTick" "J") (by decide +kernel)
  refine lv_lload_n hx hb dX1_setWhiteAt_0 rfl (lv_at hl 3 rfl) ?_
  refine lv_aload_n hx hb dX1_setWhiteAt_1 rfl (lv_at hl 0 rfl) ?_
  refine va_get (D := D) (ci := 2) (v := .long tk) (C := RX1) (T := TX1) (N := 4) hx hb hts in_X1 hown hK hP 0 rfl rfl 3 (by decide) f_27 (fun _ h9 => h9) rfl dX1_setWhiteAt_2 ?_
  refine W.lcmp hx hb dX1_setWhiteAt_5 ?_
  refine lv_if_gt (tgt := 11) hx hb dX1_setWhiteAt_6 (by decide) (fun c6 => ?_) (fun c6 => ?_)
  · skip
    have ct : tk < t := (lg_cmp_gt _ _).mp c6
    refine lv_aload_n hx hb dX1_setWhiteAt_11 rfl (lv_at hl 0 rfl) ?_
    refine lv_lload_n hx hb dX1_setWhiteAt_12 rfl (lv_at hl 3 rfl) ?_
    refine va_put (D := D) (ci := 2) (v := .long t) (ty := .long) (C := RX1) (T := TX1) (N := 4) hx hb hts in_X1 tyX1 tyX1_ok nmX1 hown hK hP hD hS 0 rfl rfl 3 (by decide) f_27 (fun _ h9 => h9) rfl (by decide +kernel) rfl rfl (Nat.le_of_ble_eq_true rfl) dX1_setWhiteAt_13 (fun H locs hP hD hS => ?_)
    have hP : va_P D vwCl ((c_, .inr (2, [.ref d_, .ref w_, .ref v_, .long t])) :: (d_, .inl (cI, 8, .inl (nf dn))) :: (w_, .inl (cI, 8, .inl (nf wn))) :: (v_, .inl (cI, 8, .inl (nf vn))) :: R) H := hP
    have hD : va_D A ((c_, .inr (2, [.ref d_, .ref w_, .ref v_, .long t])) :: (d_, .inl (cI, 8, .inl (nf dn))) :: (w_, .inl (cI, 8, .inl (nf wn))) :: (v_, .inl (cI, 8, .inl (nf vn))) :: R) := hD
    refine lv_aload_n hx hb dX1_setWhiteAt_16 rfl (lv_at hl 0 rfl) ?_
    refine lv_iload_n hx hb dX1_setWhiteAt_17 rfl (lv_at hl 1 rfl) ?_
    refine lv_iload_n hx hb dX1_setWhiteAt_18 rfl (lv_at hl 2 rfl) ?_
    refine gc_Vi (As := [.int (nI j), .int (nI x)]) (rest := []) (ci := 2) (q0 := 0) ⟨hx, hb, hml, hown, hts⟩ (c_X1_setWhite l D cI cJ cG H.size R c_ d_ w_ v_ dn wn vn t j x hj) (cwV 2 hts gX1_setWhiteAt_X1_setWhite rfl rfl rfl (by decide +kernel) ⟨Nat.le_of_ble_eq_true rfl, Nat.le_of_ble_eq_true rfl⟩) rfl rfl rfl hK hP hD hS hA rfl hl.1 rfl (Nat.le_of_ble_eq_true rfl) dX1_setWhiteAt_19 ⟨Nat.le_of_ble_eq_true rfl, Nat.le_of_ble_eq_true rfl⟩ (fun r19 u19 H locs h19 hP hD hS => ?_)
    subst h19
    have hP : va_P D vwCl ((c_, .inr (2, [.ref d_, .ref w_, .ref v_, .long t])) :: (d_, .inl (cI, 8, .inl (nf dn))) :: (w_, .inl (cI, 8, .inl (nf (un wn j x)))) :: (v_, .inl (cI, 8, .inl (nf vn))) :: R) H := hP
    have hD : va_D A ((c_, .inr (2, [.ref d_, .ref w_, .ref v_, .long t])) :: (d_, .inl (cI, 8, .inl (nf dn))) :: (w_, .inl (cI, 8, .inl (nf (un wn j x)))) :: (v_, .inl (cI, 8, .inl (nf vn))) :: R) := hD
    subst hQe
    subst hAe
    subst hsz
    exact g_zret hx hb hr hlocks rfl (un wn j x, t) ⟨by simp [bI, ct], (if_pos ct).symm⟩ hP hK hD hS dX1_setWhiteAt_22
  · skip
    have ct : ¬ tk < t := fun h => c6 ((lg_cmp_gt _ _).mpr h)
    refine lv_iconst (v := 0) hx hb dX1_setWhiteAt_9 (by decide) ?_
    subst hQe
    subst hAe
    subst hsz
    exact g_zret hx hb hr hlocks rfl (wn, tk) ⟨by simp [bI, ct], (if_neg ct).symm⟩ hP hK hD hS dX1_setWhiteAt_10
abbrev rX1_evened : Room := { frames := 1, cells := 0, slots := 0, locals := 21 }
set_option maxHeartbeats 4000000 in
set_option maxRecDepth 100000 in
theorem c_X1_evened (l : Launch) (D : va_G) (cI cJ cG : ClassId) (sz : Nat) (R : va_W) (c_ d_ w_ v_ : Nat) (dn wn vn : Nat → Nat) (tk : Int64) (j : Nat) (hj : j < 8) (hd : ∀ k, dn k ≤ 255) (hw : ∀ k, wn k ≤ 255) (hv : ∀ k, vn k ≤ 255) : Met l yX1_evened wsX1_evened rX1_evened (gP D (tyl cI cJ cG) [.ref c_, .int (nI j)] ((c_, .inr (2, [.ref d_, .ref w_, .ref v_, .long tk])) :: (d_, .inl (cI, 8, .inl (nf dn))) :: (w_, .inl (cI, 8, .inl (nf wn))) :: (v_, .inl (cI, 8, .inl (nf vn))) :: R) sz) (gQi D (tyl cI cJ cG) ((c_, .inr (2, [.ref d_, .ref w_, .ref v_, .long tk])) :: (d_, .inl (cI, 8, .inl (nf dn))) :: (w_, .inl (cI, 8, .inl (nf wn))) :: (v_, .inl (cI, 8, .inl (nf vn))) :: R) sz (fun r (_ : Unit) => r = nI (evN (dn j) (wn j) (vn j))) (fun _ => ((c_, .inr (2, [.ref d_, .ref w_, .ref v_, .long tk])) :: (d_, .inl (cI, 8, .inl (nf dn))) :: (w_, .inl (cI, 8, .inl (nf wn))) :: (v_, .inl (cI, 8, .inl (nf vn))) :: R))) 0 0 (va_A ((c_, .inr (2, [.ref d_, .ref w_, .ref v_, .long tk])) :: (d_, .inl (cI, 8, .inl (nf dn))) :: (w_, .inl (cI, 8, .inl (nf wn))) :: (v_, .inl (cI, 8, .inl (nf vn))) :: R) sz) := by
  refine gMet (cc := cX1_evened) (maxL := 4) (ret := (some .int)) (ls0 := [(0, .ref c_), (1, .int (nI j))]) (by decide) rfl (Nat.le_of_ble_eq_true rfl) rfl ?_
  intro p e s m below meth c hx hb hr hts hown hlocks hml hname A hA hAe hsz Q hQe H locs hP hK hD hS ls hl
  have hown : s.vm.findClass RX1 = some m.cls := hown
  have in_X1 : ∀ w ∈ wsX10, w ∈ wsX1_evened := by decide +kernel
  have f_15 := hts (.fieldLink RX1 15 "SpectrumHeads$Channels" "whites" "[I") (by decide +kernel)
  have f_9 := hts (.fieldLink RX1 9 "SpectrumHeads$Channels" "darks" "[I") (by decide +kernel)
  have f_18 := hts (.fieldLink RX1 18 "SpectrumHeads$Channels" "values" "[I") (by decide +kernel)
  have hd1 := hd j
  have hw1 := hw j
  have hv1 := hv j
  refine lv_aload_n hx hb dX1_evened_0 rfl (lv_at hl 0 rfl) ?_
  refine va_get (D := D) (ci := 2) (v := .ref w_) (C := RX1) (T := TX1) (N := 4) hx hb hts in_X1 hown hK hP 0 rfl rfl 1 (by decide) f_15 (fun _ h9 => h9) rfl dX1_evened_1 ?_
  refine lv_iload_n hx hb dX1_evened_4 rfl (lv_at hl 1 rfl) ?_
  refine va_iald hx hb hK hP (2) 0 rfl rfl (by first | exact vp_in_nI (by omega) (by omega) | assumption) dX1_evened_5 ?_
  refine lv_topi (fun x5 ex5 => ?_)
  rw [nI_clamp (by omega)] at ex5
  obtain rfl : x5 = nI (wn j) := by exact ex5
  refine lv_aload_n hx hb dX1_evened_6 rfl (lv_at hl 0 rfl) ?_
  refine va_get (D := D) (ci := 2) (v := .ref d_) (C := RX1) (T := TX1) (N := 4) hx hb hts in_X1 hown hK hP 0 rfl rfl 0 (by decide) f_9 (fun _ h9 => h9) rfl dX1_evened_7 ?_
  refine lv_iload_n hx hb dX1_evened_10 rfl (lv_at hl 1 rfl) ?_
  refine va_iald hx hb hK hP (1) 0 rfl rfl (by first | exact vp_in_nI (by omega) (by omega) | assumption) dX1_evened_11 ?_
  refine lv_topi (fun x11 ex11 => ?_)
  rw [nI_clamp (by omega)] at ex11
  obtain rfl : x11 = nI (dn j) := by exact ex11
  refine lv_isub hx hb dX1_evened_12 ?_
  refine lv_topi (fun x12 ex12 => ?_)
  refine lv_istore_n (lv' := [(2, .int x12), (0, .ref c_), (1, .int (nI j))]) hx hb dX1_evened_13 rfl hl (by decide) rfl (fun ls hl => ?_)
  refine lv_aload_n hx hb dX1_evened_14 rfl (lv_at hl 1 rfl) ?_
  refine va_get (D := D) (ci := 2) (v := .ref v_) (C := RX1) (T := TX1) (N := 4) hx hb hts in_X1 hown hK hP 0 rfl rfl 2 (by decide) f_18 (fun _ h9 => h9) rfl dX1_evened_15 ?_
  refine lv_iload_n hx hb dX1_evened_18 rfl (lv_at hl 2 rfl) ?_
  refine va_iald hx hb hK hP (3) 0 rfl rfl (by first | exact vp_in_nI (by omega) (by omega) | assumption) dX1_evened_19 ?_
  refine lv_topi (fun x19 ex19 => ?_)
  rw [nI_clamp (by omega)] at ex19
  obtain rfl : x19 = nI (vn j) := by exact ex19
  refine lv_aload_n hx hb dX1_evened_20 rfl (lv_at hl 1 rfl) ?_
  refine va_get (D := D) (ci := 2) (v := .ref d_) (C := RX1) (T := TX1) (N := 4) hx hb hts in_X1 hown hK hP 0 rfl rfl 0 (by decide) f_9 (fun _ h9 => h9) rfl dX1_evened_21 ?_
  refine lv_iload_n hx hb dX1_evened_24 rfl (lv_at hl 2 rfl) ?_
  refine va_iald hx hb hK hP (1) 0 rfl rfl (by first | exact vp_in_nI (by omega) (by omega) | assumption) dX1_evened_25 ?_
  refine lv_topi (fun x25 ex25 => ?_)
  rw [nI_clamp (by omega)] at ex25
  obtain rfl : x25 = nI (dn j) := by exact ex25
  refine lv_isub hx hb dX1_evened_26 ?_
  refine lv_topi (fun x26 ex26 => ?_)
  refine lv_istore_n (lv' := [(3, .int x26), (2, .int x12), (0, .ref c_), (1, .int (nI j))]) hx hb dX1_evened_27 rfl hl (by decide) rfl (fun ls hl => ?_)
  refine lv_iload_n hx hb dX1_evened_28 rfl (lv_at hl 1 rfl) ?_
  refine lv_if_le (tgt := 36) hx hb dX1_evened_29 (by decide) (fun c29 => ?_) (fun c29 => ?_)
  · skip
    have c1 : wn j ≤ dn j := (sub_le0 (by omega) (by omega)).mp (ex12 ▸ c29)
    refine lv_iconst (v := 0) hx hb dX1_evened_36 (by decide) ?_
    subst hQe
    subst hAe
    subst hsz
    exact g_iret hx hb hr hlocks () (by first | (simp [evN, c1, nI_0]; done) | (simp [evN, c2, nI_0]; done)) hP hK hD hS dX1_evened_37
  · skip
    have c1 : dn j < wn j := by
      rw [ex12, sub_le0 (by omega) (by omega)] at c29; omega
    refine lv_iload_n hx hb dX1_evened_32 rfl (lv_at hl 0 rfl) ?_
    refine lv_if_gt (tgt := 38) hx hb dX1_evened_33 (by decide) (fun c33 => ?_) (fun c33 => ?_)
    · skip
      have c2 : dn j < vn j := (sub_gt0 (by omega) (by omega)).mp (ex26 ▸ c33)
      obtain rfl : x12 = nI (wn j - dn j) := by rw [ex12]; exact pk_sub (by omega)
      obtain rfl : x26 = nI (vn j - dn j) := by rw [ex26]; exact pk_sub (by omega)
      refine lv_sipush (v := 255) hx hb dX1_evened_38 (by decide) ?_
      refine lv_sipush (v := 256) hx hb dX1_evened_41 (by decide) ?_
      refine lv_iload_n hx hb dX1_evened_44 rfl (lv_at hl 0 rfl) ?_
      refine lv_imul hx hb dX1_evened_45 ?_
      refine lv_topi (fun x45 ex45 => ?_)
      obtain rfl : x45 = nI (256 * (vn j - dn j)) := by rw [ex45]; exact pk_mul 256 _
      refine lv_iload_n hx hb dX1_evened_46 rfl (lv_at hl 1 rfl) ?_
      refine lv_idiv hx hb dX1_evened_47 (nI_ne0 (by omega) (by omega)) ?_
      refine lv_topi (fun x47 ex47 => ?_)
      obtain rfl : x47 = nI (256 * (vn j - dn j) / (wn j - dn j)) := by rw [ex47]; exact pk_div (by omega) (by omega) (by omega)
      refine va_mmin hx hb (by rw [hml]; exact hl.1.symm) hown (hts (.methodLink RX1 39 Lib.Math.min.name) (by decide +kernel)) (hts (.static Lib.Math.min.name) (by decide +kernel)) (hts (.initialized "java/lang/Math") (by decide +kernel)) (hts (.code Lib.Math.min.name Lib.Math.min.code 2 (some .int)) (by decide +kernel)) (Nat.le_of_ble_eq_true rfl) (Nat.le_of_ble_eq_true rfl) (Nat.zero_le _) (Nat.zero_le _) dX1_evened_48 ?_
      refine lv_topi (fun x48 ex48 => ?_)
      subst hQe
      subst hAe
      subst hsz
      exact g_iret hx hb hr hlocks () (by rw [ex48]; exact evN_min c1 c2 (by omega)) hP hK hD hS dX1_evened_51
    · skip
      have c2 : vn j ≤ dn j := by
        rw [ex26, sub_gt0 (by omega) (by omega)] at c33; omega
      refine lv_iconst (v := 0) hx hb dX1_evened_36 (by decide) ?_
      subst hQe
      subst hAe
      subst hsz
      exact g_iret hx hb hr hlocks () (by first | (simp [evN, c1, nI_0]; done) | (simp [evN, c2, nI_0]; done)) hP hK hD hS dX1_evened_37
abbrev rX1_fillRow : Room := { frames := 2, cells := 0, slots := 0, locals := 44 }
set_option maxHeartbeats 4000000 in
set_option maxRecDepth 100000 in
theorem c_X1_fillRow (l : Launch) (D : va_G) (cI cJ cG : ClassId) (sz : Nat) (R : va_W) (c_ d_ w_ v_ : Nat) (dn wn vn : Nat → Nat) (tk : Int64) (r_ : Nat) (f : Nat → Nat) (hd : ∀ k, dn k ≤ 255) (hw : ∀ k, wn k ≤ 255) (hv : ∀ k, vn k ≤ 255) : Met l yX1_fillRow wsX1_fillRow rX1_fillRow (gP D (tyl cI cJ cG) [.ref c_, .ref r_] ((c_, .inr (2, [.ref d_, .ref w_, .ref v_, .long tk])) :: (d_, .inl (cI, 8, .inl (nf dn))) :: (w_, .inl (cI, 8, .inl (nf wn))) :: (v_, .inl (cI, 8, .inl (nf vn))) :: (r_, .inl (cI, 8, .inl (nf f))) :: R) sz) (gQv D (tyl cI cJ cG) ((c_, .inr (2, [.ref d_, .ref w_, .ref v_, .long tk])) :: (d_, .inl (cI, 8, .inl (nf dn))) :: (w_, .inl (cI, 8, .inl (nf wn))) :: (v_, .inl (cI, 8, .inl (nf vn))) :: (r_, .inl (cI, 8, .inl (nf f))) :: R) sz (fun (_ : Unit) => True) (fun _ => ((c_, .inr (2, [.ref d_, .ref w_, .ref v_, .long tk])) :: (d_, .inl (cI, 8, .inl (nf dn))) :: (w_, .inl (cI, 8, .inl (nf wn))) :: (v_, .inl (cI, 8, .inl (nf vn))) :: (r_, .inl (cI, 8, .inl (nf (fu (rwN dn wn vn) f 8)))) :: R))) 0 0 (va_A ((c_, .inr (2, [.ref d_, .ref w_, .ref v_, .long tk])) :: (d_, .inl (cI, 8, .inl (nf dn))) :: (w_, .inl (cI, 8, .inl (nf wn))) :: (v_, .inl (cI, 8, .inl (nf vn))) :: (r_, .inl (cI, 8, .inl (nf f))) :: R) sz) := by
  refine gMet (cc := cX1_fillRow) (maxL := 3) (ret := none) (ls0 := [(0, .ref c_), (1, .ref r_)]) (by decide) rfl (Nat.le_of_ble_eq_true rfl) rfl ?_
  intro p e s m below meth c hx hb hr hts hown hlocks hml hname A hA hAe hsz Q hQe H locs hP hK hD hS ls hl
  have hown : s.vm.findClass RX1 = some m.cls := hown
  rw [← fu_0 (g := rwN dn wn vn) (f := f)] at hP hD
  refine lv_iconst (v := 0) hx hb dX1_fillRow_0 (by decide) ?_
  refine lv_istore_n (lv' := [(2, .int 0), (0, .ref c_), (1, .ref r_)]) hx hb dX1_fillRow_1 rfl hl (by decide) rfl (fun ls hl => ?_)
  have L_2 : ∀ (n_2 : Nat) (i : Nat) (hi : i ≤ 8), 8 - i < n_2 → ∀ (H : Heap) (locs : List Loc) (ls : Array Slot), va_P D vwCl ((c_, .inr (2, [.ref d_, .ref w_, .ref v_, .long tk])) :: (d_, .inl (cI, 8, .inl (nf dn))) :: (w_, .inl (cI, 8, .inl (nf wn))) :: (v_, .inl (cI, 8, .inl (nf vn))) :: (r_, .inl (cI, 8, .inl (nf (fu (rwN dn wn vn) f i)))) :: R) H → va_D A ((c_, .inr (2, [.ref d_, .ref w_, .ref v_, .long tk])) :: (d_, .inl (cI, 8, .inl (nf dn))) :: (w_, .inl (cI, 8, .inl (nf wn))) :: (v_, .inl (cI, 8, .inl (nf vn))) :: (r_, .inl (cI, 8, .inl (nf (fu (rwN dn wn vn) f i)))) :: R) → va_S A s.heap H locs → lv_has ls 3 [(2, .int (nI i)), (0, .ref c_), (1, .ref r_)] → W p l e (headSpec wsX1_fillRow rX1_fillRow).room s m ([.ref c_, .ref r_] : List Value).toArray below meth c H locs 0 0 Q (F0 m 2 ls []) := by
    intro n_2
    induction n_2 with
    | zero => intro i hi hn_; exact absurd hn_ (Nat.not_lt_zero _)
    | succ n_2 ih_2 =>
      intro i hi hn_2 H locs ls hP hD hS hl
      refine lv_iload_n hx hb dX1_fillRow_2 rfl (lv_at hl 0 rfl) ?_
      refine lv_bipush (v := 8) hx hb dX1_fillRow_3 (by decide) ?_
      refine lv_icmp_ge (tgt := 22) hx hb dX1_fillRow_5 (by decide) (fun c5 => ?_) (fun c5 => ?_)
      · skip
        have hi8 := lp_e (n := 8) c5 hi
        subst hi8
        subst hQe
        subst hAe
        subst hsz
        exact g_vret hx hb hr hlocks () trivial hP hK hD hS dX1_fillRow_22
      · skip
        have hi8 := lp_l (n := 8) c5 hi
        refine lv_aload_n hx hb dX1_fillRow_8 rfl (lv_at hl 2 rfl) ?_
        refine lv_iload_n hx hb dX1_fillRow_9 rfl (lv_at hl 0 rfl) ?_
        refine lv_aload_n hx hb dX1_fillRow_10 rfl (lv_at hl 1 rfl) ?_
        refine lv_iload_n hx hb dX1_fillRow_11 rfl (lv_at hl 0 rfl) ?_
        refine gc_Vi (As := [.int (nI i)]) (rest := [.int (nI i), .ref r_]) (ci := 2) (q0 := 0) ⟨hx, hb, hml, hown, hts⟩ (c_X1_evened l D cI cJ cG H.size ((r_, .inl (cI, 8, .inl (nf (fu (rwN dn wn vn) f i)))) :: R) c_ d_ w_ v_ dn wn vn tk i hi8 hd hw hv) (cwV 1 hts gX1_fillRow_X1_evened rfl rfl rfl (by decide +kernel) ⟨Nat.le_of_ble_eq_true rfl, Nat.le_of_ble_eq_true rfl⟩) rfl rfl rfl hK hP hD hS hA rfl hl.1 rfl (Nat.le_of_ble_eq_true rfl) dX1_fillRow_12 ⟨Nat.le_of_ble_eq_true rfl, Nat.le_of_ble_eq_true rfl⟩ (fun r12 u12 H locs h12 hP hD hS => ?_)
        subst h12
        have hP : va_P D vwCl ((c_, .inr (2, [.ref d_, .ref w_, .ref v_, .long tk])) :: (d_, .inl (cI, 8, .inl (nf dn))) :: (w_, .inl (cI, 8, .inl (nf wn))) :: (v_, .inl (cI, 8, .inl (nf vn))) :: (r_, .inl (cI, 8, .inl (nf (fu (rwN dn wn vn) f i)))) :: R) H := hP
        have hD : va_D A ((c_, .inr (2, [.ref d_, .ref w_, .ref v_, .long tk])) :: (d_, .inl (cI, 8, .inl (nf dn))) :: (w_, .inl (cI, 8, .inl (nf wn))) :: (v_, .inl (cI, 8, .inl (nf vn))) :: (r_, .inl (cI, 8, .inl (nf (fu (rwN dn wn vn) f i)))) :: R) := hD
        refine va_iast hx hb hK hP hD hS 4 0 rfl rfl (by first | exact vp_in_nI (by omega) (by omega) | assumption) dX1_fillRow_15 (fun H locs hP hD hS => ?_)
        rw [nI_clamp (by omega)] at hP hD
        have hP : va_P D vwCl ((c_, .inr (2, [.ref d_, .ref w_, .ref v_, .long tk])) :: (d_, .inl (cI, 8, .inl (nf dn))) :: (w_, .inl (cI, 8, .inl (nf wn))) :: (v_, .inl (cI, 8, .inl (nf vn))) :: (r_, .inl (cI, 8, .inl (upd (nf (fu (rwN dn wn vn) f i)) i (nI (evN (dn i) (wn i) (vn i)))))) :: R) H := hP
        have hD : va_D A ((c_, .inr (2, [.ref d_, .ref w_, .ref v_, .long tk])) :: (d_, .inl (cI, 8, .inl (nf dn))) :: (w_, .inl (cI, 8, .inl (nf wn))) :: (v_, .inl (cI, 8, .inl (nf vn))) :: (r_, .inl (cI, 8, .inl (upd (nf (fu (rwN dn wn vn) f i)) i (nI (evN (dn i) (wn i) (vn i)))))) :: R) := hD
        have hW_ : upd (nf (fu (rwN dn wn vn) f i)) i (nI (evN (dn i) (wn i) (vn i))) = nf (fu (rwN dn wn vn) f (i + 1)) := by rw [nf_upd]; exact congrArg nf fu_s
        rw [hW_] at hP hD
        have hP : va_P D vwCl ((c_, .inr (2, [.ref d_, .ref w_, .ref v_, .long tk])) :: (d_, .inl (cI, 8, .inl (nf dn))) :: (w_, .inl (cI, 8, .inl (nf wn))) :: (v_, .inl (cI, 8, .inl (nf vn))) :: (r_, .inl (cI, 8, .inl (nf (fu (rwN dn wn vn) f (i + 1))))) :: R) H := hP
        have hD : va_D A ((c_, .inr (2, [.ref d_, .ref w_, .ref v_, .long tk])) :: (d_, .inl (cI, 8, .inl (nf dn))) :: (w_, .inl (cI, 8, .inl (nf wn))) :: (v_, .inl (cI, 8, .inl (nf vn))) :: (r_, .inl (cI, 8, .inl (nf (fu (rwN dn wn vn) f (i + 1))))) :: R) := hD
        obtain ⟨x16, ex16⟩ : ∃ y : Int32, y = (nI i) + 1 := ⟨_, rfl⟩
        refine lv_iinc (v := x16) (lv' := [(2, .int x16), (0, .ref c_), (1, .ref r_)]) hx hb dX1_fillRow_16 hl (k := 0) rfl (by rw [ex16]; rfl) (by decide) rfl (fun ls hl => ?_)
        obtain rfl : x16 = nI (i + 1) := by rw [ex16]; exact nI_1 _
        refine lv_goto (tgt := 2) hx hb dX1_fillRow_19 (by decide) ?_
        exact ih_2 (i + 1) (by omega) (by omega) H locs ls hP hD hS (lv_sub hl [0, 1, 2] rfl)
  exact L_2 _ 0 (Nat.zero_le _) (Nat.lt_succ_self _) H locs ls hP hD hS (lv_sub hl [0, 1, 2] rfl)
end
section
theorem ce_num {a b : Nat} (h : b ≤ 255) : nI a - nI b + 256 = nI (a + 256 - b) := by
  rw [Int32.sub_eq_add_neg, Int32.add_assoc, Int32.add_comm (-nI b), ← Int32.sub_eq_add_neg, show (256 : Int32) = nI 256 from rfl, pk_sub (by omega), nI_add]
  exact congrArg nI (by omega)
theorem cpy_row {F Mt : Nat → Nat} {first : Nat} (h : first < 2 ^ 31) : va_cpy (nf F) (nf Mt) (nI first).toNatClampNeg (0 : Int32).toNatClampNeg (8 : Int32).toNatClampNeg = nf (fu (fun k => F (first + k)) Mt 8) := by
  rw [nI_clamp h, show (0 : Int32).toNatClampNeg = 0 from rfl, show (8 : Int32).toNatClampNeg = 8 from rfl]
  funext k
  show (if 0 ≤ k ∧ k < 0 + 8 then nI (F (first + (k - 0))) else nI (Mt k)) = nI (if k < 8 then F (first + k) else Mt k)
  by_cases hk : k < 8
  · rw [if_pos ⟨Nat.zero_le _, by omega⟩, if_pos hk, Nat.sub_zero]
  · rw [if_neg (by omega), if_neg hk]
theorem fu_le {F Mt : Nat → Nat} {first n m : Nat} (hF : ∀ k, F k ≤ m) (hM : ∀ k, Mt k ≤ m) : ∀ k, fu (fun k => F (first + k)) Mt n k ≤ m := fun k => by
  unfold fu; split
  · exact hF _
  · exact hM k
theorem cnt_s {P : Nat → Bool} {i : Nat} (h : P i = true) : cnt P (i + 1) = cnt P i + 1 := by
  show cnt P i + (if P i then 1 else 0) = _
  rw [if_pos h]
theorem cnt_n {P : Nat → Bool} {i : Nat} (h : P i = false) : cnt P i = cnt P (i + 1) := by
  show _ = cnt P i + (if P i then 1 else 0)
  rw [h]; rfl
theorem okR_t {kn : Nat → Nat} {kd : Nat} {w : Int32} {i : Nat} (h1 : kn i = kd) (h2 : ¬ nI i = w) : okR kn kd w i = true := by
  simp [okR, h1, h2]
theorem okR_f1 {kn : Nat → Nat} {kd : Nat} {w : Int32} {i : Nat} (h1 : ¬ kn i = kd) : okR kn kd w i = false := by
  simp [okR, h1]
theorem okR_f2 {kn : Nat → Nat} {kd : Nat} {w : Int32} {i : Nat} (h2 : nI i = w) : okR kn kd w i = false := by
  simp [okR, h2]
/-- the counts of equal cells, up to the row i -/
def alk (kn : Nat → Nat) (C : Nat → Nat → Nat) (fc al : Nat → Nat) (kd : Nat) (w : Int32) (i : Nat) : Nat → Nat := fu (fun k => cnt (samR kn C fc kd w k) i) al 7
theorem alk_0 {kn : Nat → Nat} {C : Nat → Nat → Nat} {fc al : Nat → Nat} {kd : Nat} {w : Int32} : fu (fun _ => (0 : Int32)) (nf al) 7 = nf (alk kn C fc al kd w 0) := by
  funext k
  show (if k < 7 then (0 : Int32) else nI (al k)) = nI (if k < 7 then 0 else al k)
  split <;> rfl
theorem alk_n {kn : Nat → Nat} {C : Nat → Nat → Nat} {fc al : Nat → Nat} {kd : Nat} {w : Int32} {i : Nat} (h : okR kn kd w i = false) : alk kn C fc al kd w i = alk kn C fc al kd w (i + 1) := by
  unfold alk
  congr 1
  funext k
  exact cnt_n (by simp [samR, h])
theorem alk_s {kn : Nat → Nat} {C : Nat → Nat → Nat} {fc al : Nat → Nat} {kd : Nat} {w : Int32} {i : Nat} (h : okR kn kd w i = true) : fu (fun k => alk kn C fc al kd w i k + (if fc k = C i k then 1 else 0)) (alk kn C fc al kd w i) 7 = alk kn C fc al kd w (i + 1) := by
  funext k
  unfold alk fu
  by_cases hk : k < 7
  · simp only [hk, if_true]
    show _ = cnt (samR kn C fc kd w k) i + (if samR kn C fc kd w k i then 1 else 0)
    simp [samR, h]
  · simp [hk]
theorem alk_at {kn : Nat → Nat} {C : Nat → Nat → Nat} {fc al : Nat → Nat} {kd : Nat} {w : Int32} {i k : Nat} (hk : k < 7) : alk kn C fc al kd w i k = cnt (samR kn C fc kd w k) i := fu_lt hk
/-- the sum's part up to k -/
def sumK (kn : Nat → Nat) (C : Nat → Nat → Nat) (fc : Nat → Nat) (kd : Nat) (w : Int32) (n k : Nat) : Nat := sumN (fun k => if cnt (okR kn kd w) n = 0 then 0 else cnt (samR kn C fc kd w k) n * 1000 / cnt (okR kn kd w) n) k
theorem sumK_s {kn : Nat → Nat} {C : Nat → Nat → Nat} {fc : Nat → Nat} {kd : Nat} {w : Int32} {n k : Nat} (h : ¬ cnt (okR kn kd w) n = 0) : sumK kn C fc kd w n k + cnt (samR kn C fc kd w k) n * 1000 / cnt (okR kn kd w) n = sumK kn C fc kd w n (k + 1) := by
  show _ = sumK kn C fc kd w n k + (if cnt (okR kn kd w) n = 0 then 0 else cnt (samR kn C fc kd w k) n * 1000 / cnt (okR kn kd w) n)
  rw [if_neg h]
theorem SUM_0 {kn : Nat → Nat} {C : Nat → Nat → Nat} {fc : Nat → Nat} {kd : Nat} {w : Int32} {n : Nat} (h : cnt (okR kn kd w) n = 0) : SUM kn C fc kd w n = 0 := by
  unfold SUM
  simp [h, sumN]
theorem samR_le {kn : Nat → Nat} {C : Nat → Nat → Nat} {fc : Nat → Nat} {kd : Nat} {w : Int32} {k n : Nat} : cnt (samR kn C fc kd w k) n ≤ n := cnt_le _ _
/-- a packed byte is below 256 -/
theorem pbN_le {K n : Nat} {kn : Nat → Nat} {M : Nat → Nat → Nat} (hK : K ≤ 255) (hn : n ≤ 255) (hk : ∀ i, kn i ≤ 255) (hM : ∀ i k, M i k ≤ 255) (i : Nat) : pbN K n kn M i ≤ 255 := by
  unfold pbN
  split
  · exact hK
  · split
    · exact hn
    · split
      · exact hk _
      · exact hM _ _
end
section
abbrev rX2_fillCells : Room := { frames := 0, cells := 0, slots := 0, locals := 0 }
set_option maxHeartbeats 4000000 in
set_option maxRecDepth 100000 in
theorem c_X2_fillCells (l : Launch) (D : va_G) (cI cJ cG : ClassId) (sz : Nat) (wl : va_W) (a_ b_ qa qb : Nat) (f g : Nat → Nat) (hqa : wl[qa]? = some (a_, .inl (cI, 8, .inl (nf f)))) (hqb : wl[qb]? = some (b_, .inl (cI, 7, .inl (nf g)))) (hq : qb ≠ qa) (hf : ∀ k, f k ≤ 255) : Met l yX2_fillCells wsX2_fillCells rX2_fillCells (gP D (tyl cI cJ cG) [.ref a_, .ref b_] (wl) sz) (gQv D (tyl cI cJ cG) (wl) sz (fun (_ : Unit) => True) (fun _ => ((wl.set qb (b_, .inl (cI, 7, .inl (nf (fu (ceN f) g 7)))))))) 0 0 (va_A (wl) sz) := by
  refine gMet (cc := cX2_fillCells) (maxL := 3) (ret := none) (ls0 := [(0, .ref a_), (1, .ref b_)]) (by decide) rfl (Nat.le_of_ble_eq_true rfl) rfl ?_
  intro p e s m below meth c hx hb hr hts hown hlocks hml hname A hA hAe hsz Q hQe H locs hP hK hD hS ls hl
  have hown : s.vm.findClass RX2 = some m.cls := hown
  have hqb0 : wl[qb]? = some (b_, .inl (cI, 7, .inl (nf (fu (ceN f) g 0)))) := by rw [fu_0]; exact hqb
  rw [← sl_self hqb0] at hP hD
  refine lv_iconst (v := 0) hx hb dX2_fillCells_0 (by decide) ?_
  refine lv_istore_n (lv' := [(2, .int 0), (0, .ref a_), (1, .ref b_)]) hx hb dX2_fillCells_1 rfl hl (by decide) rfl (fun ls hl => ?_)
  have L_2 : ∀ (n_2 : Nat) (i : Nat) (hi : i ≤ 7), 7 - i < n_2 → ∀ (H : Heap) (locs : List Loc) (ls : Array Slot), va_P D vwCl ((wl.set qb (b_, .inl (cI, 7, .inl (nf (fu (ceN f) g i)))))) H → va_D A ((wl.set qb (b_, .inl (cI, 7, .inl (nf (fu (ceN f) g i)))))) → va_S A s.heap H locs → lv_has ls 3 [(2, .int (nI i)), (0, .ref a_), (1, .ref b_)] → W p l e (headSpec wsX2_fillCells rX2_fillCells).room s m ([.ref a_, .ref b_] : List Value).toArray below meth c H locs 0 0 Q (F0 m 2 ls []) := by
    intro n_2
    induction n_2 with
    | zero => intro i hi hn_; exact absurd hn_ (Nat.not_lt_zero _)
    | succ n_2 ih_2 =>
      intro i hi hn_2 H locs ls hP hD hS hl
      refine lv_iload_n hx hb dX2_fillCells_2 rfl (lv_at hl 0 rfl) ?_
      refine lv_bipush (v := 7) hx hb dX2_fillCells_3 (by decide) ?_
      refine lv_icmp_ge (tgt := 33) hx hb dX2_fillCells_5 (by decide) (fun c5 => ?_) (fun c5 => ?_)
      · skip
        have hi8 := lp_e (n := 7) c5 hi
        subst hi8
        subst hQe
        subst hAe
        subst hsz
        exact g_vret hx hb hr hlocks () trivial hP hK hD hS dX2_fillCells_33
      · skip
        have hi8 := lp_l (n := 7) c5 hi
        have hf0 := hf i
        have hf1 := hf (i + 1)
        refine lv_aload_n hx hb dX2_fillCells_8 rfl (lv_at hl 2 rfl) ?_
        refine lv_iload_n hx hb dX2_fillCells_9 rfl (lv_at hl 0 rfl) ?_
        refine lv_aload_n hx hb dX2_fillCells_10 rfl (lv_at hl 1 rfl) ?_
        refine lv_iload_n hx hb dX2_fillCells_11 rfl (lv_at hl 0 rfl) ?_
        refine lv_iconst (v := 1) hx hb dX2_fillCells_12 (by decide) ?_
        refine lv_iadd hx hb dX2_fillCells_13 ?_
        refine lv_topi (fun x13 ex13 => ?_)
        obtain rfl : x13 = nI (i + 1) := by rw [ex13]; exact nI_1 _
        refine va_iald hx hb hK hP (qa) 0 (sl_ne hq hqa) rfl (by first | exact vp_in_nI (by omega) (by omega) | assumption) dX2_fillCells_14 ?_
        refine lv_topi (fun x14 ex14 => ?_)
        rw [nI_clamp (by omega)] at ex14
        obtain rfl : x14 = nI (f (i + 1)) := by exact ex14
        refine lv_aload_n hx hb dX2_fillCells_15 rfl (lv_at hl 1 rfl) ?_
        refine lv_iload_n hx hb dX2_fillCells_16 rfl (lv_at hl 0 rfl) ?_
        refine va_iald hx hb hK hP (qa) 0 (sl_ne hq hqa) rfl (by first | exact vp_in_nI (by omega) (by omega) | assumption) dX2_fillCells_17 ?_
        refine lv_topi (fun x17 ex17 => ?_)
        rw [nI_clamp (by omega)] at ex17
        obtain rfl : x17 = nI (f i) := by exact ex17
        refine lv_isub hx hb dX2_fillCells_18 ?_
        refine lv_topi (fun x18 ex18 => ?_)
        refine lv_sipush (v := 256) hx hb dX2_fillCells_19 (by decide) ?_
        refine lv_iadd hx hb dX2_fillCells_22 ?_
        refine lv_topi (fun x22 ex22 => ?_)
        obtain rfl : x22 = nI (f (i + 1) + 256 - f i) := by rw [ex22, ex18]; exact ce_num hf0
        refine lv_bipush (v := 64) hx hb dX2_fillCells_23 (by decide) ?_
        refine lv_idiv hx hb dX2_fillCells_25 (by decide) ?_
        refine lv_topi (fun x25 ex25 => ?_)
        obtain rfl : x25 = nI (ceN f i) := by rw [ex25]; exact pk_div (a := f (i + 1) + 256 - f i) (d := 64) (by omega) (by omega) (by omega)
        refine va_iast hx hb hK hP hD hS qb 0 (sl_eq hqb) rfl (vp_in_nI (by omega) (by omega)) dX2_fillCells_26 (fun H locs hP hD hS => ?_)
        rw [nI_clamp (by omega), List.set_set, nf_upd] at hP hD
        rw [show un (fu (ceN f) g i) i (ceN f i) = fu (ceN f) g (i + 1) from fu_s] at hP hD
        obtain ⟨x27, ex27⟩ : ∃ y : Int32, y = (nI i) + 1 := ⟨_, rfl⟩
        refine lv_iinc (v := x27) (lv' := [(2, .int x27), (0, .ref a_), (1, .ref b_)]) hx hb dX2_fillCells_27 hl (k := 0) rfl (by rw [ex27]; rfl) (by decide) rfl (fun ls hl => ?_)
        obtain rfl : x27 = nI (i + 1) := by rw [ex27]; exact nI_1 _
        refine lv_goto (tgt := 2) hx hb dX2_fillCells_30 (by decide) ?_
        exact ih_2 (i + 1) (by omega) (by omega) H locs ls hP hD hS (lv_sub hl [0, 1, 2] rfl)
  exact L_2 _ 0 (Nat.zero_le _) (Nat.lt_succ_self _) H locs ls hP hD hS (lv_sub hl [0, 1, 2] rfl)
abbrev rX2_size : Room := { frames := 0, cells := 0, slots := 0, locals := 0 }
set_option maxHeartbeats 4000000 in
set_option maxRecDepth 100000 in
theorem c_X2_size (l : Launch) (D : va_G) (cI cJ cG : ClassId) (sz : Nat) (R : va_W) (t_ rk_ ro_ rc_ al_ : Nat) (ar ac : Nat → Nat) (K n : Nat) (kn : Nat → Nat) (M C : Nat → Nat → Nat) (al : Nat → Nat) : Met l yX2_size wsX2_size rX2_size (gP D (tyl cI cJ cG) [.ref t_] ((t_, .inr (3, [.int (nI K), .ref rk_, .ref ro_, .ref rc_, .ref al_, .int (nI n)])) :: (rk_, .inl (cI, 40, .inl (nf kn))) :: (ro_, .inl (cG, 40, .inr (.inr (.inr (.inr (og ar)))))) :: (rc_, .inl (cG, 40, .inr (.inr (.inr (.inr (og ac)))))) :: (al_, .inl (cI, 7, .inl (nf al))) :: (pr cI ar M ++ (pq cI ac C ++ R))) sz) (gQi D (tyl cI cJ cG) ((t_, .inr (3, [.int (nI K), .ref rk_, .ref ro_, .ref rc_, .ref al_, .int (nI n)])) :: (rk_, .inl (cI, 40, .inl (nf kn))) :: (ro_, .inl (cG, 40, .inr (.inr (.inr (.inr (og ar)))))) :: (rc_, .inl (cG, 40, .inr (.inr (.inr (.inr (og ac)))))) :: (al_, .inl (cI, 7, .inl (nf al))) :: (pr cI ar M ++ (pq cI ac C ++ R))) sz (fun r (_ : Unit) => r = nI n) (fun _ => ((t_, .inr (3, [.int (nI K), .ref rk_, .ref ro_, .ref rc_, .ref al_, .int (nI n)])) :: (rk_, .inl (cI, 40, .inl (nf kn))) :: (ro_, .inl (cG, 40, .inr (.inr (.inr (.inr (og ar)))))) :: (rc_, .inl (cG, 40, .inr (.inr (.inr (.inr (og ac)))))) :: (al_, .inl (cI, 7, .inl (nf al))) :: (pr cI ar M ++ (pq cI ac C ++ R))))) 0 0 (va_A ((t_, .inr (3, [.int (nI K), .ref rk_, .ref ro_, .ref rc_, .ref al_, .int (nI n)])) :: (rk_, .inl (cI, 40, .inl (nf kn))) :: (ro_, .inl (cG, 40, .inr (.inr (.inr (.inr (og ar)))))) :: (rc_, .inl (cG, 40, .inr (.inr (.inr (.inr (og ac)))))) :: (al_, .inl (cI, 7, .inl (nf al))) :: (pr cI ar M ++ (pq cI ac C ++ R))) sz) := by
  refine gMet (cc := cX2_size) (maxL := 1) (ret := (some .int)) (ls0 := [(0, .ref t_)]) (by decide) rfl (Nat.le_of_ble_eq_true rfl) rfl ?_
  intro p e s m below meth c hx hb hr hts hown hlocks hml hname A hA hAe hsz Q hQe H locs hP hK hD hS ls hl
  have hown : s.vm.findClass RX2 = some m.cls := hown
  have in_X2 : ∀ w ∈ wsX20, w ∈ wsX2_size := by decide +kernel
  have f_30 := hts (.fieldLink RX2 30 "SpectrumHeads$Table" "count" "I") (by decide +kernel)
  refine lv_aload_n hx hb dX2_size_0 rfl (lv_at hl 0 rfl) ?_
  refine va_get (D := D) (ci := 3) (v := .int (nI n)) (C := RX2) (T := TX2) (N := 6) hx hb hts in_X2 hown hK hP 0 rfl rfl 5 (by decide) f_30 (fun _ h9 => h9) rfl dX2_size_1 ?_
  subst hQe
  subst hAe
  subst hsz
  exact g_iret hx hb hr hlocks () rfl hP hK hD hS dX2_size_4
abbrev rX2_has : Room := { frames := 0, cells := 0, slots := 0, locals := 0 }
set_option maxHeartbeats 4000000 in
set_option maxRecDepth 100000 in
theorem c_X2_has (l : Launch) (D : va_G) (cI cJ cG : ClassId) (sz : Nat) (R : va_W) (t_ rk_ ro_ rc_ al_ : Nat) (ar ac : Nat → Nat) (K n : Nat) (kn : Nat → Nat) (M C : Nat → Nat → Nat) (al : Nat → Nat) (x : Int32) (hn : n ≤ 40) : Met l yX2_has wsX2_has rX2_has (gP D (tyl cI cJ cG) [.ref t_, .int x] ((t_, .inr (3, [.int (nI K), .ref rk_, .ref ro_, .ref rc_, .ref al_, .int (nI n)])) :: (rk_, .inl (cI, 40, .inl (nf kn))) :: (ro_, .inl (cG, 40, .inr (.inr (.inr (.inr (og ar)))))) :: (rc_, .inl (cG, 40, .inr (.inr (.inr (.inr (og ac)))))) :: (al_, .inl (cI, 7, .inl (nf al))) :: (pr cI ar M ++ (pq cI ac C ++ R))) sz) (gQi D (tyl cI cJ cG) ((t_, .inr (3, [.int (nI K), .ref rk_, .ref ro_, .ref rc_, .ref al_, .int (nI n)])) :: (rk_, .inl (cI, 40, .inl (nf kn))) :: (ro_, .inl (cG, 40, .inr (.inr (.inr (.inr (og ar)))))) :: (rc_, .inl (cG, 40, .inr (.inr (.inr (.inr (og ac)))))) :: (al_, .inl (cI, 7, .inl (nf al))) :: (pr cI ar M ++ (pq cI ac C ++ R))) sz (fun r (_ : Unit) => r = bI (inB x n)) (fun _ => ((t_, .inr (3, [.int (nI K), .ref rk_, .ref ro_, .ref rc_, .ref al_, .int (nI n)])) :: (rk_, .inl (cI, 40, .inl (nf kn))) :: (ro_, .inl (cG, 40, .inr (.inr (.inr (.inr (og ar)))))) :: (rc_, .inl (cG, 40, .inr (.inr (.inr (.inr (og ac)))))) :: (al_, .inl (cI, 7, .inl (nf al))) :: (pr cI ar M ++ (pq cI ac C ++ R))))) 0 0 (va_A ((t_, .inr (3, [.int (nI K), .ref rk_, .ref ro_, .ref rc_, .ref al_, .int (nI n)])) :: (rk_, .inl (cI, 40, .inl (nf kn))) :: (ro_, .inl (cG, 40, .inr (.inr (.inr (.inr (og ar)))))) :: (rc_, .inl (cG, 40, .inr (.inr (.inr (.inr (og ac)))))) :: (al_, .inl (cI, 7, .inl (nf al))) :: (pr cI ar M ++ (pq cI ac C ++ R))) sz) := by
  refine gMet (cc := cX2_has) (maxL := 2) (ret := (some .boolean)) (ls0 := [(0, .ref t_), (1, .int x)]) (by decide) rfl (Nat.le_of_ble_eq_true rfl) rfl ?_
  intro p e s m below meth c hx hb hr hts hown hlocks hml hname A hA hAe hsz Q hQe H locs hP hK hD hS ls hl
  have hown : s.vm.findClass RX2 = some m.cls := hown
  have in_X2 : ∀ w ∈ wsX20, w ∈ wsX2_has := by decide +kernel
  have f_30 := hts (.fieldLink RX2 30 "SpectrumHeads$Table" "count" "I") (by decide +kernel)
  refine lv_iload_n hx hb dX2_has_0 rfl (lv_at hl 1 rfl) ?_
  refine lv_if_lt (tgt := 16) hx hb dX2_has_1 (by decide) (fun c1 => ?_) (fun c1 => ?_)
  · skip
    refine lv_iconst (v := 0) hx hb dX2_has_16 (by decide) ?_
    subst hQe
    subst hAe
    subst hsz
    exact g_zret hx hb hr hlocks rfl () (by first | (rw [inB_f1 c1]; rfl) | (rw [inB_f2 (n := n) (by omega) c9]; rfl) | (rw [inB_t (n := n) (by omega) c1 c9]; rfl)) hP hK hD hS dX2_has_17
  · skip
    refine lv_iload_n hx hb dX2_has_4 rfl (lv_at hl 1 rfl) ?_
    refine lv_aload_n hx hb dX2_has_5 rfl (lv_at hl 0 rfl) ?_
    refine va_get (D := D) (ci := 3) (v := .int (nI n)) (C := RX2) (T := TX2) (N := 6) hx hb hts in_X2 hown hK hP 0 rfl rfl 5 (by decide) f_30 (fun _ h9 => h9) rfl dX2_has_6 ?_
    refine lv_icmp_ge (tgt := 16) hx hb dX2_has_9 (by decide) (fun c9 => ?_) (fun c9 => ?_)
    · skip
      refine lv_iconst (v := 0) hx hb dX2_has_16 (by decide) ?_
      subst hQe
      subst hAe
      subst hsz
      exact g_zret hx hb hr hlocks rfl () (by first | (rw [inB_f1 c1]; rfl) | (rw [inB_f2 (n := n) (by omega) c9]; rfl) | (rw [inB_t (n := n) (by omega) c1 c9]; rfl)) hP hK hD hS dX2_has_17
    · skip
      refine lv_iconst (v := 1) hx hb dX2_has_12 (by decide) ?_
      refine lv_goto (tgt := 17) hx hb dX2_has_13 (by decide) ?_
      subst hQe
      subst hAe
      subst hsz
      exact g_zret hx hb hr hlocks rfl () (by first | (rw [inB_f1 c1]; rfl) | (rw [inB_f2 (n := n) (by omega) c9]; rfl) | (rw [inB_t (n := n) (by omega) c1 c9]; rfl)) hP hK hD hS dX2_has_17
abbrev rX2_kindOf : Room := { frames := 0, cells := 0, slots := 0, locals := 0 }
set_option maxHeartbeats 4000000 in
set_option maxRecDepth 100000 in
theorem c_X2_kindOf (l : Launch) (D : va_G) (cI cJ cG : ClassId) (sz : Nat) (R : va_W) (t_ rk_ ro_ rc_ al_ : Nat) (ar ac : Nat → Nat) (K n : Nat) (kn : Nat → Nat) (M C : Nat → Nat → Nat) (al : Nat → Nat) (i : Nat) (hi : i < 40) : Met l yX2_kindOf wsX2_kindOf rX2_kindOf (gP D (tyl cI cJ cG) [.ref t_, .int (nI i)] ((t_, .inr (3, [.int (nI K), .ref rk_, .ref ro_, .ref rc_, .ref al_, .int (nI n)])) :: (rk_, .inl (cI, 40, .inl (nf kn))) :: (ro_, .inl (cG, 40, .inr (.inr (.inr (.inr (og ar)))))) :: (rc_, .inl (cG, 40, .inr (.inr (.inr (.inr (og ac)))))) :: (al_, .inl (cI, 7, .inl (nf al))) :: (pr cI ar M ++ (pq cI ac C ++ R))) sz) (gQi D (tyl cI cJ cG) ((t_, .inr (3, [.int (nI K), .ref rk_, .ref ro_, .ref rc_, .ref al_, .int (nI n)])) :: (rk_, .inl (cI, 40, .inl (nf kn))) :: (ro_, .inl (cG, 40, .inr (.inr (.inr (.inr (og ar)))))) :: (rc_, .inl (cG, 40, .inr (.inr (.inr (.inr (og ac)))))) :: (al_, .inl (cI, 7, .inl (nf al))) :: (pr cI ar M ++ (pq cI ac C ++ R))) sz (fun r (_ : Unit) => r = nI (kn i)) (fun _ => ((t_, .inr (3, [.int (nI K), .ref rk_, .ref ro_, .ref rc_, .ref al_, .int (nI n)])) :: (rk_, .inl (cI, 40, .inl (nf kn))) :: (ro_, .inl (cG, 40, .inr (.inr (.inr (.inr (og ar)))))) :: (rc_, .inl (cG, 40, .inr (.inr (.inr (.inr (og ac)))))) :: (al_, .inl (cI, 7, .inl (nf al))) :: (pr cI ar M ++ (pq cI ac C ++ R))))) 0 0 (va_A ((t_, .inr (3, [.int (nI K), .ref rk_, .ref ro_, .ref rc_, .ref al_, .int (nI n)])) :: (rk_, .inl (cI, 40, .inl (nf kn))) :: (ro_, .inl (cG, 40, .inr (.inr (.inr (.inr (og ar)))))) :: (rc_, .inl (cG, 40, .inr (.inr (.inr (.inr (og ac)))))) :: (al_, .inl (cI, 7, .inl (nf al))) :: (pr cI ar M ++ (pq cI ac C ++ R))) sz) := by
  refine gMet (cc := cX2_kindOf) (maxL := 2) (ret := (some .int)) (ls0 := [(0, .ref t_), (1, .int (nI i))]) (by decide) rfl (Nat.le_of_ble_eq_true rfl) rfl ?_
  intro p e s m below meth c hx hb hr hts hown hlocks hml hname A hA hAe hsz Q hQe H locs hP hK hD hS ls hl
  have hown : s.vm.findClass RX2 = some m.cls := hown
  have in_X2 : ∀ w ∈ wsX20, w ∈ wsX2_kindOf := by decide +kernel
  have f_9 := hts (.fieldLink RX2 9 "SpectrumHeads$Table" "rowKinds" "[I") (by decide +kernel)
  refine lv_aload_n hx hb dX2_kindOf_0 rfl (lv_at hl 0 rfl) ?_
  refine va_get (D := D) (ci := 3) (v := .ref rk_) (C := RX2) (T := TX2) (N := 6) hx hb hts in_X2 hown hK hP 0 rfl rfl 1 (by decide) f_9 (fun _ h9 => h9) rfl dX2_kindOf_1 ?_
  refine lv_iload_n hx hb dX2_kindOf_4 rfl (lv_at hl 1 rfl) ?_
  refine va_iald hx hb hK hP (1) 0 rfl rfl (by first | exact vp_in_nI (by omega) (by omega) | assumption) dX2_kindOf_5 ?_
  refine lv_topi (fun x5 ex5 => ?_)
  rw [nI_clamp (by omega)] at ex5
  subst hQe
  subst hAe
  subst hsz
  exact g_iret hx hb hr hlocks () ex5 hP hK hD hS dX2_kindOf_6
abbrev rX2_cellsOf : Room := { frames := 0, cells := 0, slots := 0, locals := 0 }
set_option maxHeartbeats 4000000 in
set_option maxRecDepth 100000 in
theorem c_X2_cellsOf (l : Launch) (D : va_G) (cI cJ cG : ClassId) (sz : Nat) (R : va_W) (t_ rk_ ro_ rc_ al_ : Nat) (ar ac : Nat → Nat) (K n : Nat) (kn : Nat → Nat) (M C : Nat → Nat → Nat) (al : Nat → Nat) (i : Nat) (hi : i < 40) : Met l yX2_cellsOf wsX2_cellsOf rX2_cellsOf (gP D (tyl cI cJ cG) [.ref t_, .int (nI i)] ((t_, .inr (3, [.int (nI K), .ref rk_, .ref ro_, .ref rc_, .ref al_, .int (nI n)])) :: (rk_, .inl (cI, 40, .inl (nf kn))) :: (ro_, .inl (cG, 40, .inr (.inr (.inr (.inr (og ar)))))) :: (rc_, .inl (cG, 40, .inr (.inr (.inr (.inr (og ac)))))) :: (al_, .inl (cI, 7, .inl (nf al))) :: (pr cI ar M ++ (pq cI ac C ++ R))) sz) (gQr D (tyl cI cJ cG) ((t_, .inr (3, [.int (nI K), .ref rk_, .ref ro_, .ref rc_, .ref al_, .int (nI n)])) :: (rk_, .inl (cI, 40, .inl (nf kn))) :: (ro_, .inl (cG, 40, .inr (.inr (.inr (.inr (og ar)))))) :: (rc_, .inl (cG, 40, .inr (.inr (.inr (.inr (og ac)))))) :: (al_, .inl (cI, 7, .inl (nf al))) :: (pr cI ar M ++ (pq cI ac C ++ R))) sz (fun (_ : Unit) => True) (fun _ => ((t_, .inr (3, [.int (nI K), .ref rk_, .ref ro_, .ref rc_, .ref al_, .int (nI n)])) :: (rk_, .inl (cI, 40, .inl (nf kn))) :: (ro_, .inl (cG, 40, .inr (.inr (.inr (.inr (og ar)))))) :: (rc_, .inl (cG, 40, .inr (.inr (.inr (.inr (og ac)))))) :: (al_, .inl (cI, 7, .inl (nf al))) :: (pr cI ar M ++ (pq cI ac C ++ R)))) (fun _ => ac i)) 0 0 (va_A ((t_, .inr (3, [.int (nI K), .ref rk_, .ref ro_, .ref rc_, .ref al_, .int (nI n)])) :: (rk_, .inl (cI, 40, .inl (nf kn))) :: (ro_, .inl (cG, 40, .inr (.inr (.inr (.inr (og ar)))))) :: (rc_, .inl (cG, 40, .inr (.inr (.inr (.inr (og ac)))))) :: (al_, .inl (cI, 7, .inl (nf al))) :: (pr cI ar M ++ (pq cI ac C ++ R))) sz) := by
  refine gMet (cc := cX2_cellsOf) (maxL := 2) (ret := (some (.array .int))) (ls0 := [(0, .ref t_), (1, .int (nI i))]) (by decide) rfl (Nat.le_of_ble_eq_true rfl) rfl ?_
  intro p e s m below meth c hx hb hr hts hown hlocks hml hname A hA hAe hsz Q hQe H locs hP hK hD hS ls hl
  have hown : s.vm.findClass RX2 = some m.cls := hown
  have in_X2 : ∀ w ∈ wsX20, w ∈ wsX2_cellsOf := by decide +kernel
  have f_20 := hts (.fieldLink RX2 20 "SpectrumHeads$Table" "rowCells" "[[I") (by decide +kernel)
  refine lv_aload_n hx hb dX2_cellsOf_0 rfl (lv_at hl 0 rfl) ?_
  refine va_get (D := D) (ci := 3) (v := .ref rc_) (C := RX2) (T := TX2) (N := 6) hx hb hts in_X2 hown hK hP 0 rfl rfl 3 (by decide) f_20 (fun _ h9 => h9) rfl dX2_cellsOf_1 ?_
  refine lv_iload_n hx hb dX2_cellsOf_4 rfl (lv_at hl 1 rfl) ?_
  refine g_aald (v := (ac i)) hx hb hK hP 3 2 rfl rfl (by first | exact vp_in_nI (by omega) (by omega) | assumption) (og_nI hi) dX2_cellsOf_5 ?_
  subst hQe
  subst hAe
  subst hsz
  exact g_aret hx hb hr (Or.inr ⟨_, rfl⟩) hlocks () trivial rfl hP hK hD hS dX2_cellsOf_6
abbrev rX2_setKind : Room := { frames := 0, cells := 0, slots := 0, locals := 0 }
set_option maxHeartbeats 4000000 in
set_option maxRecDepth 100000 in
theorem c_X2_setKind (l : Launch) (D : va_G) (cI cJ cG : ClassId) (sz : Nat) (R : va_W) (t_ rk_ ro_ rc_ al_ : Nat) (ar ac : Nat → Nat) (K n : Nat) (kn : Nat → Nat) (M C : Nat → Nat → Nat) (al : Nat → Nat) (i x : Nat) (hi : i < 40) : Met l yX2_setKind wsX2_setKind rX2_setKind (gP D (tyl cI cJ cG) [.ref t_, .int (nI i), .int (nI x)] ((t_, .inr (3, [.int (nI K), .ref rk_, .ref ro_, .ref rc_, .ref al_, .int (nI n)])) :: (rk_, .inl (cI, 40, .inl (nf kn))) :: (ro_, .inl (cG, 40, .inr (.inr (.inr (.inr (og ar)))))) :: (rc_, .inl (cG, 40, .inr (.inr (.inr (.inr (og ac)))))) :: (al_, .inl (cI, 7, .inl (nf al))) :: (pr cI ar M ++ (pq cI ac C ++ R))) sz) (gQv D (tyl cI cJ cG) ((t_, .inr (3, [.int (nI K), .ref rk_, .ref ro_, .ref rc_, .ref al_, .int (nI n)])) :: (rk_, .inl (cI, 40, .inl (nf kn))) :: (ro_, .inl (cG, 40, .inr (.inr (.inr (.inr (og ar)))))) :: (rc_, .inl (cG, 40, .inr (.inr (.inr (.inr (og ac)))))) :: (al_, .inl (cI, 7, .inl (nf al))) :: (pr cI ar M ++ (pq cI ac C ++ R))) sz (fun (_ : Unit) => True) (fun _ => ((t_, .inr (3, [.int (nI K), .ref rk_, .ref ro_, .ref rc_, .ref al_, .int (nI n)])) :: (rk_, .inl (cI, 40, .inl (nf (un kn i x)))) :: (ro_, .inl (cG, 40, .inr (.inr (.inr (.inr (og ar)))))) :: (rc_, .inl (cG, 40, .inr (.inr (.inr (.inr (og ac)))))) :: (al_, .inl (cI, 7, .inl (nf al))) :: (pr cI ar M ++ (pq cI ac C ++ R))))) 0 0 (va_A ((t_, .inr (3, [.int (nI K), .ref rk_, .ref ro_, .ref rc_, .ref al_, .int (nI n)])) :: (rk_, .inl (cI, 40, .inl (nf kn))) :: (ro_, .inl (cG, 40, .inr (.inr (.inr (.inr (og ar)))))) :: (rc_, .inl (cG, 40, .inr (.inr (.inr (.inr (og ac)))))) :: (al_, .inl (cI, 7, .inl (nf al))) :: (pr cI ar M ++ (pq cI ac C ++ R))) sz) := by
  refine gMet (cc := cX2_setKind) (maxL := 3) (ret := none) (ls0 := [(0, .ref t_), (1, .int (nI i)), (2, .int (nI x))]) (by decide) rfl (Nat.le_of_ble_eq_true rfl) rfl ?_
  intro p e s m below meth c hx hb hr hts hown hlocks hml hname A hA hAe hsz Q hQe H locs hP hK hD hS ls hl
  have hown : s.vm.findClass RX2 = some m.cls := hown
  have in_X2 : ∀ w ∈ wsX20, w ∈ wsX2_setKind := by decide +kernel
  have f_9 := hts (.fieldLink RX2 9 "SpectrumHeads$Table" "rowKinds" "[I") (by decide +kernel)
  refine lv_aload_n hx hb dX2_setKind_0 rfl (lv_at hl 0 rfl) ?_
  refine va_get (D := D) (ci := 3) (v := .ref rk_) (C := RX2) (T := TX2) (N := 6) hx hb hts in_X2 hown hK hP 0 rfl rfl 1 (by decide) f_9 (fun _ h9 => h9) rfl dX2_setKind_1 ?_
  refine lv_iload_n hx hb dX2_setKind_4 rfl (lv_at hl 1 rfl) ?_
  refine lv_iload_n hx hb dX2_setKind_5 rfl (lv_at hl 2 rfl) ?_
  refine va_iast hx hb hK hP hD hS 1 0 rfl rfl (by first | exact vp_in_nI (by omega) (by omega) | assumption) dX2_setKind_6 (fun H locs hP hD hS => ?_)
  rw [nI_clamp (by omega)] at hP hD
  have hP : va_P D vwCl ((t_, .inr (3, [.int (nI K), .ref rk_, .ref ro_, .ref rc_, .ref al_, .int (nI n)])) :: (rk_, .inl (cI, 40, .inl (upd (nf kn) i (nI x)))) :: (ro_, .inl (cG, 40, .inr (.inr (.inr (.inr (og ar)))))) :: (rc_, .inl (cG, 40, .inr (.inr (.inr (.inr (og ac)))))) :: (al_, .inl (cI, 7, .inl (nf al))) :: (pr cI ar M ++ (pq cI ac C ++ R))) H := hP
  have hD : va_D A ((t_, .inr (3, [.int (nI K), .ref rk_, .ref ro_, .ref rc_, .ref al_, .int (nI n)])) :: (rk_, .inl (cI, 40, .inl (upd (nf kn) i (nI x)))) :: (ro_, .inl (cG, 40, .inr (.inr (.inr (.inr (og ar)))))) :: (rc_, .inl (cG, 40, .inr (.inr (.inr (.inr (og ac)))))) :: (al_, .inl (cI, 7, .inl (nf al))) :: (pr cI ar M ++ (pq cI ac C ++ R))) := hD
  have hW_ : upd (nf kn) i (nI x) = nf (un kn i x) := by exact nf_upd _ _ _
  rw [hW_] at hP hD
  have hP : va_P D vwCl ((t_, .inr (3, [.int (nI K), .ref rk_, .ref ro_, .ref rc_, .ref al_, .int (nI n)])) :: (rk_, .inl (cI, 40, .inl (nf (un kn i x)))) :: (ro_, .inl (cG, 40, .inr (.inr (.inr (.inr (og ar)))))) :: (rc_, .inl (cG, 40, .inr (.inr (.inr (.inr (og ac)))))) :: (al_, .inl (cI, 7, .inl (nf al))) :: (pr cI ar M ++ (pq cI ac C ++ R))) H := hP
  have hD : va_D A ((t_, .inr (3, [.int (nI K), .ref rk_, .ref ro_, .ref rc_, .ref al_, .int (nI n)])) :: (rk_, .inl (cI, 40, .inl (nf (un kn i x)))) :: (ro_, .inl (cG, 40, .inr (.inr (.inr (.inr (og ar)))))) :: (rc_, .inl (cG, 40, .inr (.inr (.inr (.inr (og ac)))))) :: (al_, .inl (cI, 7, .inl (nf al))) :: (pr cI ar M ++ (pq cI ac C ++ R))) := hD
  subst hQe
  subst hAe
  subst hsz
  exact g_vret hx hb hr hlocks () trivial hP hK hD hS dX2_setKind_7
abbrev rX2_put : Room := { frames := 1, cells := 0, slots := 0, locals := 60 }
set_option maxHeartbeats 4000000 in
set_option maxRecDepth 100000 in
theorem c_X2_put (l : Launch) (D : va_G) (cI cJ cG : ClassId) (sz : Nat) (R : va_W) (t_ rk_ ro_ rc_ al_ : Nat) (ar ac : Nat → Nat) (K n : Nat) (kn : Nat → Nat) (M C : Nat → Nat → Nat) (al : Nat → Nat) (fr_ nF : Nat) (F : Nat → Nat) (t kd first : Nat) (ht : t < 40) (hfi : first + 8 ≤ nF) (hnF : nF < 2 ^ 31) (hM : ∀ k, M t k ≤ 255) (hF : ∀ k, F k ≤ 255) : Met l yX2_put wsX2_put rX2_put (gP D (tyl cI cJ cG) [.ref t_, .int (nI t), .int (nI kd), .ref fr_, .int (nI first)] ((t_, .inr (3, [.int (nI K), .ref rk_, .ref ro_, .ref rc_, .ref al_, .int (nI n)])) :: (rk_, .inl (cI, 40, .inl (nf kn))) :: (ro_, .inl (cG, 40, .inr (.inr (.inr (.inr (og ar)))))) :: (rc_, .inl (cG, 40, .inr (.inr (.inr (.inr (og ac)))))) :: (al_, .inl (cI, 7, .inl (nf al))) :: (fr_, .inl (cI, nF, .inl (nf F))) :: (pr cI ar M ++ (pq cI ac C ++ R))) sz) (gQv D (tyl cI cJ cG) ((t_, .inr (3, [.int (nI K), .ref rk_, .ref ro_, .ref rc_, .ref al_, .int (nI n)])) :: (rk_, .inl (cI, 40, .inl (nf kn))) :: (ro_, .inl (cG, 40, .inr (.inr (.inr (.inr (og ar)))))) :: (rc_, .inl (cG, 40, .inr (.inr (.inr (.inr (og ac)))))) :: (al_, .inl (cI, 7, .inl (nf al))) :: (fr_, .inl (cI, nF, .inl (nf F))) :: (pr cI ar M ++ (pq cI ac C ++ R))) sz (fun (_ : Unit) => True) (fun _ => ((t_, .inr (3, [.int (nI K), .ref rk_, .ref ro_, .ref rc_, .ref al_, .int (nI n)])) :: (rk_, .inl (cI, 40, .inl (nf (un kn t kd)))) :: (ro_, .inl (cG, 40, .inr (.inr (.inr (.inr (og ar)))))) :: (rc_, .inl (cG, 40, .inr (.inr (.inr (.inr (og ac)))))) :: (al_, .inl (cI, 7, .inl (nf al))) :: (fr_, .inl (cI, nF, .inl (nf F))) :: (pr cI ar (un M t (fu (fun k => F (first + k)) (M t) 8)) ++ (pq cI ac (un C t (fu (ceN (fu (fun k => F (first + k)) (M t) 8)) (C t) 7)) ++ R))))) 0 0 (va_A ((t_, .inr (3, [.int (nI K), .ref rk_, .ref ro_, .ref rc_, .ref al_, .int (nI n)])) :: (rk_, .inl (cI, 40, .inl (nf kn))) :: (ro_, .inl (cG, 40, .inr (.inr (.inr (.inr (og ar)))))) :: (rc_, .inl (cG, 40, .inr (.inr (.inr (.inr (og ac)))))) :: (al_, .inl (cI, 7, .inl (nf al))) :: (fr_, .inl (cI, nF, .inl (nf F))) :: (pr cI ar M ++ (pq cI ac C ++ R))) sz) := by
  refine gMet (cc := cX2_put) (maxL := 5) (ret := none) (ls0 := [(0, .ref t_), (1, .int (nI t)), (2, .int (nI kd)), (3, .ref fr_), (4, .int (nI first))]) (by decide) rfl (Nat.le_of_ble_eq_true rfl) rfl ?_
  intro p e s m below meth c hx hb hr hts hown hlocks hml hname A hA hAe hsz Q hQe H locs hP hK hD hS ls hl
  have hown : s.vm.findClass RX2 = some m.cls := hown
  have in_X2 : ∀ w ∈ wsX20, w ∈ wsX2_put := by decide +kernel
  have f_9 := hts (.fieldLink RX2 9 "SpectrumHeads$Table" "rowKinds" "[I") (by decide +kernel)
  have f_17 := hts (.fieldLink RX2 17 "SpectrumHeads$Table" "rows" "[[I") (by decide +kernel)
  have f_20 := hts (.fieldLink RX2 20 "SpectrumHeads$Table" "rowCells" "[[I") (by decide +kernel)
  refine lv_aload_n hx hb dX2_put_0 rfl (lv_at hl 0 rfl) ?_
  refine va_get (D := D) (ci := 3) (v := .ref rk_) (C := RX2) (T := TX2) (N := 6) hx hb hts in_X2 hown hK hP 0 rfl rfl 1 (by decide) f_9 (fun _ h9 => h9) rfl dX2_put_1 ?_
  refine lv_iload_n hx hb dX2_put_4 rfl (lv_at hl 1 rfl) ?_
  refine lv_iload_n hx hb dX2_put_5 rfl (lv_at hl 2 rfl) ?_
  refine va_iast hx hb hK hP hD hS 1 0 rfl rfl (by first | exact vp_in_nI (by omega) (by omega) | assumption) dX2_put_6 (fun H locs hP hD hS => ?_)
  rw [nI_clamp (by omega)] at hP hD
  have hP : va_P D vwCl ((t_, .inr (3, [.int (nI K), .ref rk_, .ref ro_, .ref rc_, .ref al_, .int (nI n)])) :: (rk_, .inl (cI, 40, .inl (upd (nf kn) t (nI kd)))) :: (ro_, .inl (cG, 40, .inr (.inr (.inr (.inr (og ar)))))) :: (rc_, .inl (cG, 40, .inr (.inr (.inr (.inr (og ac)))))) :: (al_, .inl (cI, 7, .inl (nf al))) :: (fr_, .inl (cI, nF, .inl (nf F))) :: (pr cI ar M ++ (pq cI ac C ++ R))) H := hP
  have hD : va_D A ((t_, .inr (3, [.int (nI K), .ref rk_, .ref ro_, .ref rc_, .ref al_, .int (nI n)])) :: (rk_, .inl (cI, 40, .inl (upd (nf kn) t (nI kd)))) :: (ro_, .inl (cG, 40, .inr (.inr (.inr (.inr (og ar)))))) :: (rc_, .inl (cG, 40, .inr (.inr (.inr (.inr (og ac)))))) :: (al_, .inl (cI, 7, .inl (nf al))) :: (fr_, .inl (cI, nF, .inl (nf F))) :: (pr cI ar M ++ (pq cI ac C ++ R))) := hD
  have hW_ : upd (nf kn) t (nI kd) = nf (un kn t kd) := by exact nf_upd _ _ _
  rw [hW_] at hP hD
  have hP : va_P D vwCl ((t_, .inr (3, [.int (nI K), .ref rk_, .ref ro_, .ref rc_, .ref al_, .int (nI n)])) :: (rk_, .inl (cI, 40, .inl (nf (un kn t kd)))) :: (ro_, .inl (cG, 40, .inr (.inr (.inr (.inr (og ar)))))) :: (rc_, .inl (cG, 40, .inr (.inr (.inr (.inr (og ac)))))) :: (al_, .inl (cI, 7, .inl (nf al))) :: (fr_, .inl (cI, nF, .inl (nf F))) :: (pr cI ar M ++ (pq cI ac C ++ R))) H := hP
  have hD : va_D A ((t_, .inr (3, [.int (nI K), .ref rk_, .ref ro_, .ref rc_, .ref al_, .int (nI n)])) :: (rk_, .inl (cI, 40, .inl (nf (un kn t kd)))) :: (ro_, .inl (cG, 40, .inr (.inr (.inr (.inr (og ar)))))) :: (rc_, .inl (cG, 40, .inr (.inr (.inr (.inr (og ac)))))) :: (al_, .inl (cI, 7, .inl (nf al))) :: (fr_, .inl (cI, nF, .inl (nf F))) :: (pr cI ar M ++ (pq cI ac C ++ R))) := hD
  refine lv_aload_n hx hb dX2_put_7 rfl (lv_at hl 3 rfl) ?_
  refine lv_iload hx hb dX2_put_8 (lv_at hl 4 rfl) ?_
  refine lv_aload_n hx hb dX2_put_10 rfl (lv_at hl 0 rfl) ?_
  refine va_get (D := D) (ci := 3) (v := .ref ro_) (C := RX2) (T := TX2) (N := 6) hx hb hts in_X2 hown hK hP 0 rfl rfl 2 (by decide) f_17 (fun _ h9 => h9) rfl dX2_put_11 ?_
  refine lv_iload_n hx hb dX2_put_14 rfl (lv_at hl 1 rfl) ?_
  refine g_aald (v := (ar t)) hx hb hK hP 2 2 rfl rfl (by first | exact vp_in_nI (by omega) (by omega) | assumption) (og_nI ht) dX2_put_15 ?_
  refine lv_iconst (v := 0) hx hb dX2_put_16 (by decide) ?_
  refine lv_bipush (v := 8) hx hb dX2_put_17 (by decide) ?_
  refine va_copyi (a := ar t) (a0 := fr_) (c0 := cI) (c1 := cI) (n0 := nF) (n1 := 8) (f := nf F) (g := nf (M t)) (ty := .int) hx hb (by rw [hml]; exact hl.1.symm) hown (hts (.methodLink RX2 37 arraycopyName) (by decide +kernel)) (hts (.native arraycopyName) (by decide +kernel)) (hts (.static arraycopyName) (by decide +kernel)) (hts (.initialized "java/lang/System") (by decide +kernel)) hK hP hD hS 5 (t + 6) 0 0 rfl (pr_get ht) rfl rfl rfl (sp := nI first) (dp := 0) (n := 8) (nI_pos (by omega)) (by decide) (by decide) (by rw [nI_clamp (by omega)]; exact hfi) (by decide) (fun _ _ => rfl) (Nat.le_of_ble_eq_true rfl) (Nat.le_of_ble_eq_true rfl) dX2_put_19 (fun H locs hP hD hS => ?_)
  rw [show va_cpy (nf F) (nf (M t)) (nI first).toNatClampNeg (0 : Int32).toNatClampNeg (8 : Int32).toNatClampNeg = nf (fu (fun k => F (first + k)) (M t) 8) from cpy_row (by omega)] at hP hD
  have hP : va_P D vwCl ((t_, .inr (3, [.int (nI K), .ref rk_, .ref ro_, .ref rc_, .ref al_, .int (nI n)])) :: (rk_, .inl (cI, 40, .inl (nf (un kn t kd)))) :: (ro_, .inl (cG, 40, .inr (.inr (.inr (.inr (og ar)))))) :: (rc_, .inl (cG, 40, .inr (.inr (.inr (.inr (og ac)))))) :: (al_, .inl (cI, 7, .inl (nf al))) :: (fr_, .inl (cI, nF, .inl (nf F))) :: (pr cI ar M ++ (pq cI ac C ++ R)).set t (ar t, .inl (cI, 8, .inl (nf (fu (fun k => F (first + k)) (M t) 8))))) H := hP
  have hD : va_D A ((t_, .inr (3, [.int (nI K), .ref rk_, .ref ro_, .ref rc_, .ref al_, .int (nI n)])) :: (rk_, .inl (cI, 40, .inl (nf (un kn t kd)))) :: (ro_, .inl (cG, 40, .inr (.inr (.inr (.inr (og ar)))))) :: (rc_, .inl (cG, 40, .inr (.inr (.inr (.inr (og ac)))))) :: (al_, .inl (cI, 7, .inl (nf al))) :: (fr_, .inl (cI, nF, .inl (nf F))) :: (pr cI ar M ++ (pq cI ac C ++ R)).set t (ar t, .inl (cI, 8, .inl (nf (fu (fun k => F (first + k)) (M t) 8))))) := hD
  rw [pr_set ht] at hP hD
  have hP : va_P D vwCl ((t_, .inr (3, [.int (nI K), .ref rk_, .ref ro_, .ref rc_, .ref al_, .int (nI n)])) :: (rk_, .inl (cI, 40, .inl (nf (un kn t kd)))) :: (ro_, .inl (cG, 40, .inr (.inr (.inr (.inr (og ar)))))) :: (rc_, .inl (cG, 40, .inr (.inr (.inr (.inr (og ac)))))) :: (al_, .inl (cI, 7, .inl (nf al))) :: (fr_, .inl (cI, nF, .inl (nf F))) :: (pr cI ar (un M t (fu (fun k => F (first + k)) (M t) 8)) ++ (pq cI ac C ++ R))) H := hP
  have hD : va_D A ((t_, .inr (3, [.int (nI K), .ref rk_, .ref ro_, .ref rc_, .ref al_, .int (nI n)])) :: (rk_, .inl (cI, 40, .inl (nf (un kn t kd)))) :: (ro_, .inl (cG, 40, .inr (.inr (.inr (.inr (og ar)))))) :: (rc_, .inl (cG, 40, .inr (.inr (.inr (.inr (og ac)))))) :: (al_, .inl (cI, 7, .inl (nf al))) :: (fr_, .inl (cI, nF, .inl (nf F))) :: (pr cI ar (un M t (fu (fun k => F (first + k)) (M t) 8)) ++ (pq cI ac C ++ R))) := hD
  refine lv_aload_n hx hb dX2_put_22 rfl (lv_at hl 0 rfl) ?_
  refine va_get (D := D) (ci := 3) (v := .ref ro_) (C := RX2) (T := TX2) (N := 6) hx hb hts in_X2 hown hK hP 0 rfl rfl 2 (by decide) f_17 (fun _ h9 => h9) rfl dX2_put_23 ?_
  refine lv_iload_n hx hb dX2_put_26 rfl (lv_at hl 1 rfl) ?_
  refine g_aald (v := (ar t)) hx hb hK hP 2 2 rfl rfl (by first | exact vp_in_nI (by omega) (by omega) | assumption) (og_nI ht) dX2_put_27 ?_
  refine lv_aload_n hx hb dX2_put_28 rfl (lv_at hl 0 rfl) ?_
  refine va_get (D := D) (ci := 3) (v := .ref rc_) (C := RX2) (T := TX2) (N := 6) hx hb hts in_X2 hown hK hP 0 rfl rfl 3 (by decide) f_20 (fun _ h9 => h9) rfl dX2_put_29 ?_
  refine lv_iload_n hx hb dX2_put_32 rfl (lv_at hl 1 rfl) ?_
  refine g_aald (v := (ac t)) hx hb hK hP 3 2 rfl rfl (by first | exact vp_in_nI (by omega) (by omega) | assumption) (og_nI ht) dX2_put_33 ?_
  refine gc_Sv (As := [.ref (ar t), .ref (ac t)]) (rest := []) ⟨hx, hb, hml, hown, hts⟩ (c_X2_fillCells l D cI cJ cG H.size ((t_, .inr (3, [.int (nI K), .ref rk_, .ref ro_, .ref rc_, .ref al_, .int (nI n)])) :: (rk_, .inl (cI, 40, .inl (nf (un kn t kd)))) :: (ro_, .inl (cG, 40, .inr (.inr (.inr (.inr (og ar)))))) :: (rc_, .inl (cG, 40, .inr (.inr (.inr (.inr (og ac)))))) :: (al_, .inl (cI, 7, .inl (nf al))) :: (fr_, .inl (cI, nF, .inl (nf F))) :: (pr cI ar (un M t (fu (fun k => F (first + k)) (M t) 8)) ++ (pq cI ac C ++ R))) (ar t) (ac t) (t + 6) (t + 46) (fu (fun k => F (first + k)) (M t) 8) (C t) ((pr_get ht).trans (by rw [un_s])) (pq_get ht) (by omega) (fu_le hF hM)) (va_cwS 2 hts gX2_put_X2_fillCells rfl rfl rfl (by decide +kernel) ⟨Nat.le_of_ble_eq_true rfl, Nat.le_of_ble_eq_true rfl⟩) hK hP hD hS hA rfl hl.1 rfl (Nat.le_of_ble_eq_true rfl) dX2_put_34 ⟨Nat.le_of_ble_eq_true rfl, Nat.le_of_ble_eq_true rfl⟩ (fun u34 H locs h34 hP hD hS => ?_)
  have hP : va_P D vwCl ((t_, .inr (3, [.int (nI K), .ref rk_, .ref ro_, .ref rc_, .ref al_, .int (nI n)])) :: (rk_, .inl (cI, 40, .inl (nf (un kn t kd)))) :: (ro_, .inl (cG, 40, .inr (.inr (.inr (.inr (og ar)))))) :: (rc_, .inl (cG, 40, .inr (.inr (.inr (.inr (og ac)))))) :: (al_, .inl (cI, 7, .inl (nf al))) :: (fr_, .inl (cI, nF, .inl (nf F))) :: (pr cI ar (un M t (fu (fun k => F (first + k)) (M t) 8)) ++ (pq cI ac C ++ R)).set (t + 40) (ac t, .inl (cI, 7, .inl (nf (fu (ceN (fu (fun k => F (first + k)) (M t) 8)) (C t) 7))))) H := hP
  have hD : va_D A ((t_, .inr (3, [.int (nI K), .ref rk_, .ref ro_, .ref rc_, .ref al_, .int (nI n)])) :: (rk_, .inl (cI, 40, .inl (nf (un kn t kd)))) :: (ro_, .inl (cG, 40, .inr (.inr (.inr (.inr (og ar)))))) :: (rc_, .inl (cG, 40, .inr (.inr (.inr (.inr (og ac)))))) :: (al_, .inl (cI, 7, .inl (nf al))) :: (fr_, .inl (cI, nF, .inl (nf F))) :: (pr cI ar (un M t (fu (fun k => F (first + k)) (M t) 8)) ++ (pq cI ac C ++ R)).set (t + 40) (ac t, .inl (cI, 7, .inl (nf (fu (ceN (fu (fun k => F (first + k)) (M t) 8)) (C t) 7))))) := hD
  rw [pq_set ht] at hP hD
  have hP : va_P D vwCl ((t_, .inr (3, [.int (nI K), .ref rk_, .ref ro_, .ref rc_, .ref al_, .int (nI n)])) :: (rk_, .inl (cI, 40, .inl (nf (un kn t kd)))) :: (ro_, .inl (cG, 40, .inr (.inr (.inr (.inr (og ar)))))) :: (rc_, .inl (cG, 40, .inr (.inr (.inr (.inr (og ac)))))) :: (al_, .inl (cI, 7, .inl (nf al))) :: (fr_, .inl (cI, nF, .inl (nf F))) :: (pr cI ar (un M t (fu (fun k => F (first + k)) (M t) 8)) ++ (pq cI ac (un C t (fu (ceN (fu (fun k => F (first + k)) (M t) 8)) (C t) 7)) ++ R))) H := hP
  have hD : va_D A ((t_, .inr (3, [.int (nI K), .ref rk_, .ref ro_, .ref rc_, .ref al_, .int (nI n)])) :: (rk_, .inl (cI, 40, .inl (nf (un kn t kd)))) :: (ro_, .inl (cG, 40, .inr (.inr (.inr (.inr (og ar)))))) :: (rc_, .inl (cG, 40, .inr (.inr (.inr (.inr (og ac)))))) :: (al_, .inl (cI, 7, .inl (nf al))) :: (fr_, .inl (cI, nF, .inl (nf F))) :: (pr cI ar (un M t (fu (fun k => F (first + k)) (M t) 8)) ++ (pq cI ac (un C t (fu (ceN (fu (fun k => F (first + k)) (M t) 8)) (C t) 7)) ++ R))) := hD
  subst hQe
  subst hAe
  subst hsz
  exact g_vret hx hb hr hlocks () trivial hP hK hD hS dX2_put_37
abbrev rX2_add : Room := { frames := 2, cells := 0, slots := 0, locals := 84 }
set_option maxHeartbeats 4000000 in
set_option maxRecDepth 100000 in
theorem c_X2_add (l : Launch) (D : va_G) (cI cJ cG : ClassId) (sz : Nat) (R : va_W) (t_ rk_ ro_ rc_ al_ : Nat) (ar ac : Nat → Nat) (K n : Nat) (kn : Nat → Nat) (M C : Nat → Nat → Nat) (al : Nat → Nat) (fr_ : Nat) (F : Nat → Nat) (kd : Nat) (hn : n ≤ 40) (hM : ∀ i k, M i k ≤ 255) (hF : ∀ k, F k ≤ 255) : Met l yX2_add wsX2_add rX2_add (gP D (tyl cI cJ cG) [.ref t_, .int (nI kd), .ref fr_] ((t_, .inr (3, [.int (nI K), .ref rk_, .ref ro_, .ref rc_, .ref al_, .int (nI n)])) :: (rk_, .inl (cI, 40, .inl (nf kn))) :: (ro_, .inl (cG, 40, .inr (.inr (.inr (.inr (og ar)))))) :: (rc_, .inl (cG, 40, .inr (.inr (.inr (.inr (og ac)))))) :: (al_, .inl (cI, 7, .inl (nf al))) :: (fr_, .inl (cI, 8, .inl (nf F))) :: (pr cI ar M ++ (pq cI ac C ++ R))) sz) (gQi D (tyl cI cJ cG) ((t_, .inr (3, [.int (nI K), .ref rk_, .ref ro_, .ref rc_, .ref al_, .int (nI n)])) :: (rk_, .inl (cI, 40, .inl (nf kn))) :: (ro_, .inl (cG, 40, .inr (.inr (.inr (.inr (og ar)))))) :: (rc_, .inl (cG, 40, .inr (.inr (.inr (.inr (og ac)))))) :: (al_, .inl (cI, 7, .inl (nf al))) :: (fr_, .inl (cI, 8, .inl (nf F))) :: (pr cI ar M ++ (pq cI ac C ++ R))) sz (fun r (u : Nat × (Nat → Nat) × (Nat → Nat → Nat) × (Nat → Nat → Nat)) => (n = 40 ∧ r = -1 ∧ u = (n, kn, M, C)) ∨ (n < 40 ∧ r = nI n ∧ u = (n + 1, un kn n kd, un M n (fu (fun k => F (0 + k)) (M n) 8), un C n (fu (ceN (fu (fun k => F (0 + k)) (M n) 8)) (C n) 7)))) (fun u => ((t_, .inr (3, [.int (nI K), .ref rk_, .ref ro_, .ref rc_, .ref al_, .int (nI u.1)])) :: (rk_, .inl (cI, 40, .inl (nf u.2.1))) :: (ro_, .inl (cG, 40, .inr (.inr (.inr (.inr (og ar)))))) :: (rc_, .inl (cG, 40, .inr (.inr (.inr (.inr (og ac)))))) :: (al_, .inl (cI, 7, .inl (nf al))) :: (fr_, .inl (cI, 8, .inl (nf F))) :: (pr cI ar u.2.2.1 ++ (pq cI ac u.2.2.2 ++ R))))) 0 0 (va_A ((t_, .inr (3, [.int (nI K), .ref rk_, .ref ro_, .ref rc_, .ref al_, .int (nI n)])) :: (rk_, .inl (cI, 40, .inl (nf kn))) :: (ro_, .inl (cG, 40, .inr (.inr (.inr (.inr (og ar)))))) :: (rc_, .inl (cG, 40, .inr (.inr (.inr (.inr (og ac)))))) :: (al_, .inl (cI, 7, .inl (nf al))) :: (fr_, .inl (cI, 8, .inl (nf F))) :: (pr cI ar M ++ (pq cI ac C ++ R))) sz) := by
  refine gMet (cc := cX2_add) (maxL := 4) (ret := (some .int)) (ls0 := [(0, .ref t_), (1, .int (nI kd)), (2, .ref fr_)]) (by decide) rfl (Nat.le_of_ble_eq_true rfl) rfl ?_
  intro p e s m below meth c hx hb hr hts hown hlocks hml hname A hA hAe hsz Q hQe H locs hP hK hD hS ls hl
  have hown : s.vm.findClass RX2 = some m.cls := hown
  have in_X2 : ∀ w ∈ wsX20, w ∈ wsX2_add := by decide +kernel
  have f_30 := hts (.fieldLink RX2 30 "SpectrumHeads$Table" "count" "I") (by decide +kernel)
  refine lv_aload_n hx hb dX2_add_0 rfl (lv_at hl 0 rfl) ?_
  refine va_get (D := D) (ci := 3) (v := .int (nI n)) (C := RX2) (T := TX2) (N := 6) hx hb hts in_X2 hown hK hP 0 rfl rfl 5 (by decide) f_30 (fun _ h9 => h9) rfl dX2_add_1 ?_
  refine lv_bipush (v := 40) hx hb dX2_add_4 (by decide) ?_
  refine lv_icmp_lt (tgt := 11) hx hb dX2_add_6 (by decide) (fun c6 => ?_) (fun c6 => ?_)
  · skip
    have hn4 : n < 40 := (nI_ltI (b := 40) (by omega) (by omega)).mp c6
    refine lv_aload_n hx hb dX2_add_11 rfl (lv_at hl 0 rfl) ?_
    refine va_get (D := D) (ci := 3) (v := .int (nI n)) (C := RX2) (T := TX2) (N := 6) hx hb hts in_X2 hown hK hP 0 rfl rfl 5 (by decide) f_30 (fun _ h9 => h9) rfl dX2_add_12 ?_
    refine lv_istore_n (lv' := [(3, .int (nI n)), (0, .ref t_), (1, .int (nI kd)), (2, .ref fr_)]) hx hb dX2_add_15 rfl hl (by decide) rfl (fun ls hl => ?_)
    refine lv_aload_n hx hb dX2_add_16 rfl (lv_at hl 1 rfl) ?_
    refine lv_iload_n hx hb dX2_add_17 rfl (lv_at hl 0 rfl) ?_
    refine lv_iload_n hx hb dX2_add_18 rfl (lv_at hl 2 rfl) ?_
    refine lv_aload_n hx hb dX2_add_19 rfl (lv_at hl 3 rfl) ?_
    refine lv_iconst (v := 0) hx hb dX2_add_20 (by decide) ?_
    refine gc_Vv (As := [.int (nI n), .int (nI kd), .ref fr_, .int 0]) (rest := []) (ci := 3) (q0 := 0) ⟨hx, hb, hml, hown, hts⟩ (c_X2_put l D cI cJ cG H.size R t_ rk_ ro_ rc_ al_ ar ac K n kn M C al fr_ 8 F n kd 0 hn4 (by omega) (by omega) (hM n) hF) (cwV 4 hts gX2_add_X2_put rfl rfl rfl (by decide +kernel) ⟨Nat.le_of_ble_eq_true rfl, Nat.le_of_ble_eq_true rfl⟩) rfl rfl rfl hK hP hD hS hA rfl hl.1 rfl (Nat.le_of_ble_eq_true rfl) dX2_add_21 ⟨Nat.le_of_ble_eq_true rfl, Nat.le_of_ble_eq_true rfl⟩ (fun u21 H locs h21 hP hD hS => ?_)
    have hP : va_P D vwCl ((t_, .inr (3, [.int (nI K), .ref rk_, .ref ro_, .ref rc_, .ref al_, .int (nI n)])) :: (rk_, .inl (cI, 40, .inl (nf (un kn n kd)))) :: (ro_, .inl (cG, 40, .inr (.inr (.inr (.inr (og ar)))))) :: (rc_, .inl (cG, 40, .inr (.inr (.inr (.inr (og ac)))))) :: (al_, .inl (cI, 7, .inl (nf al))) :: (fr_, .inl (cI, 8, .inl (nf F))) :: (pr cI ar (un M n (fu (fun k => F (0 + k)) (M n) 8)) ++ (pq cI ac (un C n (fu (ceN (fu (fun k => F (0 + k)) (M n) 8)) (C n) 7)) ++ R))) H := hP
    have hD : va_D A ((t_, .inr (3, [.int (nI K), .ref rk_, .ref ro_, .ref rc_, .ref al_, .int (nI n)])) :: (rk_, .inl (cI, 40, .inl (nf (un kn n kd)))) :: (ro_, .inl (cG, 40, .inr (.inr (.inr (.inr (og ar)))))) :: (rc_, .inl (cG, 40, .inr (.inr (.inr (.inr (og ac)))))) :: (al_, .inl (cI, 7, .inl (nf al))) :: (fr_, .inl (cI, 8, .inl (nf F))) :: (pr cI ar (un M n (fu (fun k => F (0 + k)) (M n) 8)) ++ (pq cI ac (un C n (fu (ceN (fu (fun k => F (0 + k)) (M n) 8)) (C n) 7)) ++ R))) := hD
    refine lv_aload_n hx hb dX2_add_24 rfl (lv_at hl 1 rfl) ?_
    refine lv_dup hx hb dX2_add_25 rfl ?_
    refine va_get (D := D) (ci := 3) (v := .int (nI n)) (C := RX2) (T := TX2) (N := 6) hx hb hts in_X2 hown hK hP 0 rfl rfl 5 (by decide) f_30 (fun _ h9 => h9) rfl dX2_add_26 ?_
    refine lv_iconst (v := 1) hx hb dX2_add_29 (by decide) ?_
    refine lv_iadd hx hb dX2_add_30 ?_
    refine lv_topi (fun x30 ex30 => ?_)
    obtain rfl : x30 = nI (n + 1) := by rw [ex30]; exact nI_1 _
    refine va_put (D := D) (ci := 3) (v := .int (nI (n + 1))) (ty := .int) (C := RX2) (T := TX2) (N := 6) hx hb hts in_X2 tyX2 tyX2_ok nmX2 hown hK hP hD hS 0 rfl rfl 5 (by decide) f_30 (fun _ h9 => h9) rfl (by decide +kernel) rfl rfl (Nat.le_of_ble_eq_true rfl) dX2_add_31 (fun H locs hP hD hS => ?_)
    have hP : va_P D vwCl ((t_, .inr (3, [.int (nI K), .ref rk_, .ref ro_, .ref rc_, .ref al_, .int (nI (n + 1))])) :: (rk_, .inl (cI, 40, .inl (nf (un kn n kd)))) :: (ro_, .inl (cG, 40, .inr (.inr (.inr (.inr (og ar)))))) :: (rc_, .inl (cG, 40, .inr (.inr (.inr (.inr (og ac)))))) :: (al_, .inl (cI, 7, .inl (nf al))) :: (fr_, .inl (cI, 8, .inl (nf F))) :: (pr cI ar (un M n (fu (fun k => F (0 + k)) (M n) 8)) ++ (pq cI ac (un C n (fu (ceN (fu (fun k => F (0 + k)) (M n) 8)) (C n) 7)) ++ R))) H := hP
    have hD : va_D A ((t_, .inr (3, [.int (nI K), .ref rk_, .ref ro_, .ref rc_, .ref al_, .int (nI (n + 1))])) :: (rk_, .inl (cI, 40, .inl (nf (un kn n kd)))) :: (ro_, .inl (cG, 40, .inr (.inr (.inr (.inr (og ar)))))) :: (rc_, .inl (cG, 40, .inr (.inr (.inr (.inr (og ac)))))) :: (al_, .inl (cI, 7, .inl (nf al))) :: (fr_, .inl (cI, 8, .inl (nf F))) :: (pr cI ar (un M n (fu (fun k => F (0 + k)) (M n) 8)) ++ (pq cI ac (un C n (fu (ceN (fu (fun k => F (0 + k)) (M n) 8)) (C n) 7)) ++ R))) := hD
    refine lv_iload_n hx hb dX2_add_34 rfl (lv_at hl 0 rfl) ?_
    subst hQe
    subst hAe
    subst hsz
    exact g_iret hx hb hr hlocks (n + 1, un kn n kd, un M n (fu (fun k => F (0 + k)) (M n) 8), un C n (fu (ceN (fu (fun k => F (0 + k)) (M n) 8)) (C n) 7)) (Or.inr ⟨hn4, rfl, rfl⟩) hP hK hD hS dX2_add_35
  · skip
    have hn4 : n = 40 := by have := mt (nI_ltI (a := n) (b := 40) (by omega) (by omega)).mpr c6; omega
    refine lv_iconst (v := -1) hx hb dX2_add_9 (by decide) ?_
    subst hQe
    subst hAe
    subst hsz
    exact g_iret hx hb hr hlocks (n, kn, M, C) (Or.inl ⟨hn4, rfl, rfl⟩) hP hK hD hS dX2_add_10
abbrev rX2_countAlike : Room := { frames := 0, cells := 0, slots := 0, locals := 0 }
set_option maxHeartbeats 4000000 in
set_option maxRecDepth 100000 in
theorem c_X2_countAlike (l : Launch) (D : va_G) (cI cJ cG : ClassId) (sz : Nat) (T : va_W) (t_ rk_ ro_ rc_ al_ K n : Nat) (al fa fb : Nat → Nat) (a_ b_ qa qb : Nat) (hqa : T[qa]? = some (a_, .inl (cI, 7, .inl (nf fa)))) (hqb : T[qb]? = some (b_, .inl (cI, 7, .inl (nf fb)))) (hfa : ∀ k, fa k < 8) (hfb : ∀ k, fb k < 8) : Met l yX2_countAlike wsX2_countAlike rX2_countAlike (gP D (tyl cI cJ cG) [.ref t_, .ref a_, .ref b_] ((t_, .inr (3, [.int (nI K), .ref rk_, .ref ro_, .ref rc_, .ref al_, .int (nI n)])) :: (al_, .inl (cI, 7, .inl (nf al))) :: T) sz) (gQv D (tyl cI cJ cG) ((t_, .inr (3, [.int (nI K), .ref rk_, .ref ro_, .ref rc_, .ref al_, .int (nI n)])) :: (al_, .inl (cI, 7, .inl (nf al))) :: T) sz (fun (_ : Unit) => True) (fun _ => ((t_, .inr (3, [.int (nI K), .ref rk_, .ref ro_, .ref rc_, .ref al_, .int (nI n)])) :: (al_, .inl (cI, 7, .inl (nf (fu (fun k => al k + (if fa k = fb k then 1 else 0)) al 7)))) :: T))) 0 0 (va_A ((t_, .inr (3, [.int (nI K), .ref rk_, .ref ro_, .ref rc_, .ref al_, .int (nI n)])) :: (al_, .inl (cI, 7, .inl (nf al))) :: T) sz) := by
  refine gMet (cc := cX2_countAlike) (maxL := 4) (ret := none) (ls0 := [(0, .ref t_), (1, .ref a_), (2, .ref b_)]) (by decide) rfl (Nat.le_of_ble_eq_true rfl) rfl ?_
  intro p e s m below meth c hx hb hr hts hown hlocks hml hname A hA hAe hsz Q hQe H locs hP hK hD hS ls hl
  have hown : s.vm.findClass RX2 = some m.cls := hown
  have in_X2 : ∀ w ∈ wsX20, w ∈ wsX2_countAlike := by decide +kernel
  have f_23 := hts (.fieldLink RX2 23 "SpectrumHeads$Table" "alike" "[I") (by decide +kernel)
  rw [← fu_0 (g := (fun k => al k + (if fa k = fb k then 1 else 0))) (f := al)] at hP hD
  refine lv_iconst (v := 0) hx hb dX2_countAlike_0 (by decide) ?_
  refine lv_istore_n (lv' := [(3, .int 0), (0, .ref t_), (1, .ref a_), (2, .ref b_)]) hx hb dX2_countAlike_1 rfl hl (by decide) rfl (fun ls hl => ?_)
  have L_2 : ∀ (n_2 : Nat) (i : Nat) (hi : i ≤ 7), 7 - i < n_2 → ∀ (H : Heap) (locs : List Loc) (ls : Array Slot), va_P D vwCl ((t_, .inr (3, [.int (nI K), .ref rk_, .ref ro_, .ref rc_, .ref al_, .int (nI n)])) :: (al_, .inl (cI, 7, .inl (nf (fu (fun k => al k + (if fa k = fb k then 1 else 0)) al i)))) :: T) H → va_D A ((t_, .inr (3, [.int (nI K), .ref rk_, .ref ro_, .ref rc_, .ref al_, .int (nI n)])) :: (al_, .inl (cI, 7, .inl (nf (fu (fun k => al k + (if fa k = fb k then 1 else 0)) al i)))) :: T) → va_S A s.heap H locs → lv_has ls 4 [(3, .int (nI i)), (0, .ref t_), (1, .ref a_), (2, .ref b_)] → W p l e (headSpec wsX2_countAlike rX2_countAlike).room s m ([.ref t_, .ref a_, .ref b_] : List Value).toArray below meth c H locs 0 0 Q (F0 m 2 ls []) := by
    intro n_2
    induction n_2 with
    | zero => intro i hi hn_; exact absurd hn_ (Nat.not_lt_zero _)
    | succ n_2 ih_2 =>
      intro i hi hn_2 H locs ls hP hD hS hl
      refine lv_iload_n hx hb dX2_countAlike_2 rfl (lv_at hl 0 rfl) ?_
      refine lv_bipush (v := 7) hx hb dX2_countAlike_3 (by decide) ?_
      refine lv_icmp_ge (tgt := 33) hx hb dX2_countAlike_5 (by decide) (fun c5 => ?_) (fun c5 => ?_)
      · skip
        have hi8 := lp_e (n := 7) c5 hi
        subst hi8
        subst hQe
        subst hAe
        subst hsz
        exact g_vret hx hb hr hlocks () trivial hP hK hD hS dX2_countAlike_33
      · skip
        have hi8 := lp_l (n := 7) c5 hi
        have hfa0 := hfa i
        have hfb0 := hfb i
        refine lv_aload_n hx hb dX2_countAlike_8 rfl (lv_at hl 2 rfl) ?_
        refine lv_iload_n hx hb dX2_countAlike_9 rfl (lv_at hl 0 rfl) ?_
        refine va_iald hx hb hK hP (qa + 2) 0 hqa rfl (by first | exact vp_in_nI (by omega) (by omega) | assumption) dX2_countAlike_10 ?_
        refine lv_topi (fun x10 ex10 => ?_)
        rw [nI_clamp (by omega)] at ex10
        obtain rfl : x10 = nI (fa i) := by exact ex10
        refine lv_aload_n hx hb dX2_countAlike_11 rfl (lv_at hl 3 rfl) ?_
        refine lv_iload_n hx hb dX2_countAlike_12 rfl (lv_at hl 0 rfl) ?_
        refine va_iald hx hb hK hP (qb + 2) 0 hqb rfl (by first | exact vp_in_nI (by omega) (by omega) | assumption) dX2_countAlike_13 ?_
        refine lv_topi (fun x13 ex13 => ?_)
        rw [nI_clamp (by omega)] at ex13
        obtain rfl : x13 = nI (fb i) := by exact ex13
        refine lv_icmp_ne (tgt := 27) hx hb dX2_countAlike_14 (by decide) (fun c14 => ?_) (fun c14 => ?_)
        · skip
          have hne : fa i ≠ fb i := fun h => c14 (by rw [h])
          rw [← fu_same (g := (fun k => al k + (if fa k = fb k then 1 else 0))) (f := al) (n := i) (by simp [hne])] at hP hD
          obtain ⟨x27, ex27⟩ : ∃ y : Int32, y = (nI i) + 1 := ⟨_, rfl⟩
          refine lv_iinc (v := x27) (lv' := [(3, .int x27), (0, .ref t_), (1, .ref a_), (2, .ref b_)]) hx hb dX2_countAlike_27 hl (k := 0) rfl (by rw [ex27]; rfl) (by decide) rfl (fun ls hl => ?_)
          obtain rfl : x27 = nI (i + 1) := by rw [ex27]; exact nI_1 _
          refine lv_goto (tgt := 2) hx hb dX2_countAlike_30 (by decide) ?_
          exact ih_2 (i + 1) (by omega) (by omega) H locs ls hP hD hS (lv_sub hl [0, 1, 2, 3] rfl)
        · skip
          have heq : fa i = fb i := (nI_eq (by omega) (by omega)).mp c14
          refine lv_aload_n hx hb dX2_countAlike_17 rfl (lv_at hl 1 rfl) ?_
          refine va_get (D := D) (ci := 3) (v := .ref al_) (C := RX2) (T := TX2) (N := 6) hx hb hts in_X2 hown hK hP 0 rfl rfl 4 (by decide) f_23 (fun _ h9 => h9) rfl dX2_countAlike_18 ?_
          refine lv_iload_n hx hb dX2_countAlike_21 rfl (lv_at hl 0 rfl) ?_
          refine lv_dup2_11 hx hb dX2_countAlike_22 rfl rfl ?_
          refine va_iald hx hb hK hP (1) 0 rfl rfl (by first | exact vp_in_nI (by omega) (by omega) | assumption) dX2_countAlike_23 ?_
          refine lv_topi (fun x23 ex23 => ?_)
          rw [nI_clamp (by omega)] at ex23
          obtain rfl : x23 = nI (al i) := by rw [ex23]; exact congrArg nI (fu_ge (Nat.le_refl _))
          refine lv_iconst (v := 1) hx hb dX2_countAlike_24 (by decide) ?_
          refine lv_iadd hx hb dX2_countAlike_25 ?_
          refine lv_topi (fun x25 ex25 => ?_)
          obtain rfl : x25 = nI ((fun k => al k + (if fa k = fb k then 1 else 0)) i) := by rw [ex25, nI_1]; simp [heq]
          refine va_iast hx hb hK hP hD hS 1 0 rfl rfl (by first | exact vp_in_nI (by omega) (by omega) | assumption) dX2_countAlike_26 (fun H locs hP hD hS => ?_)
          rw [nI_clamp (by omega)] at hP hD
          have hP : va_P D vwCl ((t_, .inr (3, [.int (nI K), .ref rk_, .ref ro_, .ref rc_, .ref al_, .int (nI n)])) :: (al_, .inl (cI, 7, .inl (upd (nf (fu (fun k => al k + (if fa k = fb k then 1 else 0)) al i)) i (nI ((fun k => al k + (if fa k = fb k then 1 else 0)) i))))) :: T) H := hP
          have hD : va_D A ((t_, .inr (3, [.int (nI K), .ref rk_, .ref ro_, .ref rc_, .ref al_, .int (nI n)])) :: (al_, .inl (cI, 7, .inl (upd (nf (fu (fun k => al k + (if fa k = fb k then 1 else 0)) al i)) i (nI ((fun k => al k + (if fa k = fb k then 1 else 0)) i))))) :: T) := hD
          have hW_ : upd (nf (fu (fun k => al k + (if fa k = fb k then 1 else 0)) al i)) i (nI ((fun k => al k + (if fa k = fb k then 1 else 0)) i)) = nf (fu (fun k => al k + (if fa k = fb k then 1 else 0)) al (i + 1)) := by rw [nf_upd]; exact congrArg nf (fu_s (g := (fun k => al k + (if fa k = fb k then 1 else 0))))
          rw [hW_] at hP hD
          have hP : va_P D vwCl ((t_, .inr (3, [.int (nI K), .ref rk_, .ref ro_, .ref rc_, .ref al_, .int (nI n)])) :: (al_, .inl (cI, 7, .inl (nf (fu (fun k => al k + (if fa k = fb k then 1 else 0)) al (i + 1))))) :: T) H := hP
          have hD : va_D A ((t_, .inr (3, [.int (nI K), .ref rk_, .ref ro_, .ref rc_, .ref al_, .int (nI n)])) :: (al_, .inl (cI, 7, .inl (nf (fu (fun k => al k + (if fa k = fb k then 1 else 0)) al (i + 1))))) :: T) := hD
          obtain ⟨x27, ex27⟩ : ∃ y : Int32, y = (nI i) + 1 := ⟨_, rfl⟩
          refine lv_iinc (v := x27) (lv' := [(3, .int x27), (0, .ref t_), (1, .ref a_), (2, .ref b_)]) hx hb dX2_countAlike_27 hl (k := 0) rfl (by rw [ex27]; rfl) (by decide) rfl (fun ls hl => ?_)
          obtain rfl : x27 = nI (i + 1) := by rw [ex27]; exact nI_1 _
          refine lv_goto (tgt := 2) hx hb dX2_countAlike_30 (by decide) ?_
          exact ih_2 (i + 1) (by omega) (by omega) H locs ls hP hD hS (lv_sub hl [0, 1, 2, 3] rfl)
  exact L_2 _ 0 (Nat.zero_le _) (Nat.lt_succ_self _) H locs ls hP hD hS (lv_sub hl [0, 1, 2, 3] rfl)
theorem pm_4_0_1_2_3_P {D : va_G} {cl : List vw_C} {H : Heap} {x0 x1 x2 x3 x4 : Nat × va_E} {T : va_W} (h : va_P D cl (x0 :: x1 :: x2 :: x3 :: x4 :: T) H) : va_P D cl (x4 :: x0 :: x1 :: x2 :: x3 :: T) H := va_P.part (X := [x0, x1, x2, x3, x4]) (pl := T) (cx := [x4, x0, x1, x2, x3]) h [4, 0, 1, 2, 3] rfl
theorem pm_4_0_1_2_3_D {A : Nat → Prop} {x0 x1 x2 x3 x4 : Nat × va_E} {T : va_W} (h : va_D A (x0 :: x1 :: x2 :: x3 :: x4 :: T)) : va_D A (x4 :: x0 :: x1 :: x2 :: x3 :: T) := va_D.part (X := [x0, x1, x2, x3, x4]) (pl := T) (cx := [x4, x0, x1, x2, x3]) h [4, 0, 1, 2, 3] (by decide) rfl
theorem pm_1_2_3_4_0_P {D : va_G} {cl : List vw_C} {H : Heap} {x0 x1 x2 x3 x4 : Nat × va_E} {T : va_W} (h : va_P D cl (x0 :: x1 :: x2 :: x3 :: x4 :: T) H) : va_P D cl (x1 :: x2 :: x3 :: x4 :: x0 :: T) H := va_P.part (X := [x0, x1, x2, x3, x4]) (pl := T) (cx := [x1, x2, x3, x4, x0]) h [1, 2, 3, 4, 0] rfl
theorem pm_1_2_3_4_0_D {A : Nat → Prop} {x0 x1 x2 x3 x4 : Nat × va_E} {T : va_W} (h : va_D A (x0 :: x1 :: x2 :: x3 :: x4 :: T)) : va_D A (x1 :: x2 :: x3 :: x4 :: x0 :: T) := va_D.part (X := [x0, x1, x2, x3, x4]) (pl := T) (cx := [x1, x2, x3, x4, x0]) h [1, 2, 3, 4, 0] (by decide) rfl
theorem pm_0_4_1_2_3_P {D : va_G} {cl : List vw_C} {H : Heap} {x0 x1 x2 x3 x4 : Nat × va_E} {T : va_W} (h : va_P D cl (x0 :: x1 :: x2 :: x3 :: x4 :: T) H) : va_P D cl (x0 :: x4 :: x1 :: x2 :: x3 :: T) H := va_P.part (X := [x0, x1, x2, x3, x4]) (pl := T) (cx := [x0, x4, x1, x2, x3]) h [0, 4, 1, 2, 3] rfl
theorem pm_0_4_1_2_3_D {A : Nat → Prop} {x0 x1 x2 x3 x4 : Nat × va_E} {T : va_W} (h : va_D A (x0 :: x1 :: x2 :: x3 :: x4 :: T)) : va_D A (x0 :: x4 :: x1 :: x2 :: x3 :: T) := va_D.part (X := [x0, x1, x2, x3, x4]) (pl := T) (cx := [x0, x4, x1, x2, x3]) h [0, 4, 1, 2, 3] (by decide) rfl
theorem pm_0_2_3_4_1_P {D : va_G} {cl : List vw_C} {H : Heap} {x0 x1 x2 x3 x4 : Nat × va_E} {T : va_W} (h : va_P D cl (x0 :: x1 :: x2 :: x3 :: x4 :: T) H) : va_P D cl (x0 :: x2 :: x3 :: x4 :: x1 :: T) H := va_P.part (X := [x0, x1, x2, x3, x4]) (pl := T) (cx := [x0, x2, x3, x4, x1]) h [0, 2, 3, 4, 1] rfl
theorem pm_0_2_3_4_1_D {A : Nat → Prop} {x0 x1 x2 x3 x4 : Nat × va_E} {T : va_W} (h : va_D A (x0 :: x1 :: x2 :: x3 :: x4 :: T)) : va_D A (x0 :: x2 :: x3 :: x4 :: x1 :: T) := va_D.part (X := [x0, x1, x2, x3, x4]) (pl := T) (cx := [x0, x2, x3, x4, x1]) h [0, 2, 3, 4, 1] (by decide) rfl
abbrev rX2_sumOf : Room := { frames := 1, cells := 0, slots := 0, locals := 23 }
set_option maxHeartbeats 4000000 in
set_option maxRecDepth 100000 in
theorem c_X2_sumOf (l : Launch) (D : va_G) (cI cJ cG : ClassId) (sz : Nat) (R : va_W) (t_ rk_ ro_ rc_ al_ : Nat) (ar ac : Nat → Nat) (K n : Nat) (kn : Nat → Nat) (M C : Nat → Nat → Nat) (al : Nat → Nat) (fc : Nat → Nat) (ca_ qc kd : Nat) (w : Int32) (hqc : (pr cI ar M ++ (pq cI ac C ++ R))[qc]? = some (ca_, .inl (cI, 7, .inl (nf fc)))) (hn : n ≤ 40) (hC : ∀ i k, C i k < 8) (hfc : ∀ k, fc k < 8) (hkn : ∀ i, kn i ≤ 255) (hkd : kd ≤ 255) : Met l yX2_sumOf wsX2_sumOf rX2_sumOf (gP D (tyl cI cJ cG) [.ref t_, .int (nI kd), .ref ca_, .int w] ((t_, .inr (3, [.int (nI K), .ref rk_, .ref ro_, .ref rc_, .ref al_, .int (nI n)])) :: (rk_, .inl (cI, 40, .inl (nf kn))) :: (ro_, .inl (cG, 40, .inr (.inr (.inr (.inr (og ar)))))) :: (rc_, .inl (cG, 40, .inr (.inr (.inr (.inr (og ac)))))) :: (al_, .inl (cI, 7, .inl (nf al))) :: (pr cI ar M ++ (pq cI ac C ++ R))) sz) (gQl D (tyl cI cJ cG) ((t_, .inr (3, [.int (nI K), .ref rk_, .ref ro_, .ref rc_, .ref al_, .int (nI n)])) :: (rk_, .inl (cI, 40, .inl (nf kn))) :: (ro_, .inl (cG, 40, .inr (.inr (.inr (.inr (og ar)))))) :: (rc_, .inl (cG, 40, .inr (.inr (.inr (.inr (og ac)))))) :: (al_, .inl (cI, 7, .inl (nf al))) :: (pr cI ar M ++ (pq cI ac C ++ R))) sz (fun r (_ : Unit) => r = lN (SUM kn C fc kd w n)) (fun _ => ((t_, .inr (3, [.int (nI K), .ref rk_, .ref ro_, .ref rc_, .ref al_, .int (nI n)])) :: (rk_, .inl (cI, 40, .inl (nf kn))) :: (ro_, .inl (cG, 40, .inr (.inr (.inr (.inr (og ar)))))) :: (rc_, .inl (cG, 40, .inr (.inr (.inr (.inr (og ac)))))) :: (al_, .inl (cI, 7, .inl (nf (alk kn C fc al kd w n)))) :: (pr cI ar M ++ (pq cI ac C ++ R))))) 0 0 (va_A ((t_, .inr (3, [.int (nI K), .ref rk_, .ref ro_, .ref rc_, .ref al_, .int (nI n)])) :: (rk_, .inl (cI, 40, .inl (nf kn))) :: (ro_, .inl (cG, 40, .inr (.inr (.inr (.inr (og ar)))))) :: (rc_, .inl (cG, 40, .inr (.inr (.inr (.inr (og ac)))))) :: (al_, .inl (cI, 7, .inl (nf al))) :: (pr cI ar M ++ (pq cI ac C ++ R))) sz) := by
  refine gMet (cc := cX2_sumOf) (maxL := 8) (ret := (some .long)) (ls0 := [(0, .ref t_), (1, .int (nI kd)), (2, .ref ca_), (3, .int w)]) (by decide) rfl (Nat.le_of_ble_eq_true rfl) rfl ?_
  intro p e s m below meth c hx hb hr hts hown hlocks hml hname A hA hAe hsz Q hQe H locs hP hK hD hS ls hl
  have hown : s.vm.findClass RX2 = some m.cls := hown
  have in_X2 : ∀ w ∈ wsX20, w ∈ wsX2_sumOf := by decide +kernel
  have f_23 := hts (.fieldLink RX2 23 "SpectrumHeads$Table" "alike" "[I") (by decide +kernel)
  have f_30 := hts (.fieldLink RX2 30 "SpectrumHeads$Table" "count" "I") (by decide +kernel)
  have f_9 := hts (.fieldLink RX2 9 "SpectrumHeads$Table" "rowKinds" "[I") (by decide +kernel)
  have f_20 := hts (.fieldLink RX2 20 "SpectrumHeads$Table" "rowCells" "[[I") (by decide +kernel)
  refine lv_aload_n hx hb dX2_sumOf_0 rfl (lv_at hl 0 rfl) ?_
  refine va_get (D := D) (ci := 3) (v := .ref al_) (C := RX2) (T := TX2) (N := 6) hx hb hts in_X2 hown hK hP 0 rfl rfl 4 (by decide) f_23 (fun _ h9 => h9) rfl dX2_sumOf_1 ?_
  refine lv_iconst (v := 0) hx hb dX2_sumOf_4 (by decide) ?_
  have hP := pm_4_0_1_2_3_P hP
  have hD := pm_4_0_1_2_3_D hD
  refine gc_Sv (As := [.ref al_, .int 0]) (rest := []) ⟨hx, hb, hml, hown, hts⟩ (c_J7_fill_53178 l D cI cJ cG H.size ((t_, .inr (3, [.int (nI K), .ref rk_, .ref ro_, .ref rc_, .ref al_, .int (nI n)])) :: (rk_, .inl (cI, 40, .inl (nf kn))) :: (ro_, .inl (cG, 40, .inr (.inr (.inr (.inr (og ar)))))) :: (rc_, .inl (cG, 40, .inr (.inr (.inr (.inr (og ac)))))) :: (pr cI ar M ++ (pq cI ac C ++ R))) al_ 7 (nf al) 0 (by omega)) (va_cwS 2 hts gX2_sumOf_J7_fill_53178 rfl rfl rfl (by decide +kernel) ⟨Nat.le_of_ble_eq_true rfl, Nat.le_of_ble_eq_true rfl⟩) hK hP hD hS hA rfl hl.1 rfl (Nat.le_of_ble_eq_true rfl) dX2_sumOf_5 ⟨Nat.le_of_ble_eq_true rfl, Nat.le_of_ble_eq_true rfl⟩ (fun u5 H locs h5 hP hD hS => ?_)
  have hP : va_P D vwCl ((al_, .inl (cI, 7, .inl (fu (fun _ => (0 : Int32)) (nf al) 7))) :: (t_, .inr (3, [.int (nI K), .ref rk_, .ref ro_, .ref rc_, .ref al_, .int (nI n)])) :: (rk_, .inl (cI, 40, .inl (nf kn))) :: (ro_, .inl (cG, 40, .inr (.inr (.inr (.inr (og ar)))))) :: (rc_, .inl (cG, 40, .inr (.inr (.inr (.inr (og ac)))))) :: (pr cI ar M ++ (pq cI ac C ++ R))) H := hP
  have hD : va_D A ((al_, .inl (cI, 7, .inl (fu (fun _ => (0 : Int32)) (nf al) 7))) :: (t_, .inr (3, [.int (nI K), .ref rk_, .ref ro_, .ref rc_, .ref al_, .int (nI n)])) :: (rk_, .inl (cI, 40, .inl (nf kn))) :: (ro_, .inl (cG, 40, .inr (.inr (.inr (.inr (og ar)))))) :: (rc_, .inl (cG, 40, .inr (.inr (.inr (.inr (og ac)))))) :: (pr cI ar M ++ (pq cI ac C ++ R))) := hD
  rw [alk_0 (kn := kn) (C := C) (fc := fc) (kd := kd) (w := w)] at hP hD
  have hP := pm_1_2_3_4_0_P hP
  have hD := pm_1_2_3_4_0_D hD
  have hP : va_P D vwCl ((t_, .inr (3, [.int (nI K), .ref rk_, .ref ro_, .ref rc_, .ref al_, .int (nI n)])) :: (rk_, .inl (cI, 40, .inl (nf kn))) :: (ro_, .inl (cG, 40, .inr (.inr (.inr (.inr (og ar)))))) :: (rc_, .inl (cG, 40, .inr (.inr (.inr (.inr (og ac)))))) :: (al_, .inl (cI, 7, .inl (nf (alk kn C fc al kd w 0)))) :: (pr cI ar M ++ (pq cI ac C ++ R))) H := hP
  have hD : va_D A ((t_, .inr (3, [.int (nI K), .ref rk_, .ref ro_, .ref rc_, .ref al_, .int (nI n)])) :: (rk_, .inl (cI, 40, .inl (nf kn))) :: (ro_, .inl (cG, 40, .inr (.inr (.inr (.inr (og ar)))))) :: (rc_, .inl (cG, 40, .inr (.inr (.inr (.inr (og ac)))))) :: (al_, .inl (cI, 7, .inl (nf (alk kn C fc al kd w 0)))) :: (pr cI ar M ++ (pq cI ac C ++ R))) := hD
  refine lv_iconst (v := 0) hx hb dX2_sumOf_8 (by decide) ?_
  refine lv_istore (lv' := [(4, .int 0), (0, .ref t_), (1, .int (nI kd)), (2, .ref ca_), (3, .int w)]) hx hb dX2_sumOf_9 hl (by decide) rfl (fun ls hl => ?_)
  refine lv_iconst (v := 0) hx hb dX2_sumOf_11 (by decide) ?_
  refine lv_istore (lv' := [(5, .int 0), (4, .int 0), (0, .ref t_), (1, .int (nI kd)), (2, .ref ca_), (3, .int w)]) hx hb dX2_sumOf_12 hl (by decide) rfl (fun ls hl => ?_)
  have L_14 : ∀ (n_14 : Nat) (i : Nat) (hi : i ≤ n), n - i < n_14 → ∀ (H : Heap) (locs : List Loc) (ls : Array Slot), va_P D vwCl ((t_, .inr (3, [.int (nI K), .ref rk_, .ref ro_, .ref rc_, .ref al_, .int (nI n)])) :: (rk_, .inl (cI, 40, .inl (nf kn))) :: (ro_, .inl (cG, 40, .inr (.inr (.inr (.inr (og ar)))))) :: (rc_, .inl (cG, 40, .inr (.inr (.inr (.inr (og ac)))))) :: (al_, .inl (cI, 7, .inl (nf (alk kn C fc al kd w i)))) :: (pr cI ar M ++ (pq cI ac C ++ R))) H → va_D A ((t_, .inr (3, [.int (nI K), .ref rk_, .ref ro_, .ref rc_, .ref al_, .int (nI n)])) :: (rk_, .inl (cI, 40, .inl (nf kn))) :: (ro_, .inl (cG, 40, .inr (.inr (.inr (.inr (og ar)))))) :: (rc_, .inl (cG, 40, .inr (.inr (.inr (.inr (og ac)))))) :: (al_, .inl (cI, 7, .inl (nf (alk kn C fc al kd w i)))) :: (pr cI ar M ++ (pq cI ac C ++ R))) → va_S A s.heap H locs → lv_has ls 8 [(5, .int (nI i)), (4, .int (nI (cnt (okR kn kd w) i))), (0, .ref t_), (1, .int (nI kd)), (2, .ref ca_), (3, .int w)] → W p l e (headSpec wsX2_sumOf rX2_sumOf).room s m ([.ref t_, .int (nI kd), .ref ca_, .int w] : List Value).toArray below meth c H locs 0 0 Q (F0 m 14 ls []) := by
    intro n_14
    induction n_14 with
    | zero => intro i hi hn_; exact absurd hn_ (Nat.not_lt_zero _)
    | succ n_14 ih_14 =>
      intro i hi hn_14 H locs ls hP hD hS hl
      refine lv_iload hx hb dX2_sumOf_14 (lv_at hl 0 rfl) ?_
      refine lv_aload_n hx hb dX2_sumOf_16 rfl (lv_at hl 2 rfl) ?_
      refine va_get (D := D) (ci := 3) (v := .int (nI n)) (C := RX2) (T := TX2) (N := 6) hx hb hts in_X2 hown hK hP 0 rfl rfl 5 (by decide) f_30 (fun _ h9 => h9) rfl dX2_sumOf_17 ?_
      refine lv_icmp_ge (tgt := 61) hx hb dX2_sumOf_20 (by decide) (fun c20 => ?_) (fun c20 => ?_)
      · skip
        have hE20 := lp_e (n := n) c20 hi
        subst hE20
        refine lv_iload hx hb dX2_sumOf_61 (lv_at hl 1 rfl) ?_
        refine lv_if_ne (tgt := 68) hx hb dX2_sumOf_63 (by decide) (fun c63 => ?_) (fun c63 => ?_)
        · skip
          have hcl : cnt (okR kn kd w) n ≤ n := cnt_le _ _
          have hof : ¬ cnt (okR kn kd w) n = 0 := fun h => c63 (by rw [h]; rfl)
          refine lv_lconst (v := 0) hx hb dX2_sumOf_68 (by decide) ?_
          refine lv_lstore (lv' := [(5, .long 0), (4, .int (nI (cnt (okR kn kd w) n))), (0, .ref t_), (1, .int (nI kd)), (2, .ref ca_), (3, .int w)]) hx hb dX2_sumOf_69 hl (by decide) rfl (fun ls hl => ?_)
          refine lv_iconst (v := 0) hx hb dX2_sumOf_71 (by decide) ?_
          refine lv_istore (lv' := [(7, .int 0), (5, .long 0), (4, .int (nI (cnt (okR kn kd w) n))), (0, .ref t_), (1, .int (nI kd)), (2, .ref ca_), (3, .int w)]) hx hb dX2_sumOf_72 hl (by decide) rfl (fun ls hl => ?_)
          have L_74 : ∀ (n_74 : Nat) (k : Nat) (hk : k ≤ 7), 7 - k < n_74 → ∀ (H : Heap) (locs : List Loc) (ls : Array Slot), va_P D vwCl ((t_, .inr (3, [.int (nI K), .ref rk_, .ref ro_, .ref rc_, .ref al_, .int (nI n)])) :: (rk_, .inl (cI, 40, .inl (nf kn))) :: (ro_, .inl (cG, 40, .inr (.inr (.inr (.inr (og ar)))))) :: (rc_, .inl (cG, 40, .inr (.inr (.inr (.inr (og ac)))))) :: (al_, .inl (cI, 7, .inl (nf (alk kn C fc al kd w n)))) :: (pr cI ar M ++ (pq cI ac C ++ R))) H → va_D A ((t_, .inr (3, [.int (nI K), .ref rk_, .ref ro_, .ref rc_, .ref al_, .int (nI n)])) :: (rk_, .inl (cI, 40, .inl (nf kn))) :: (ro_, .inl (cG, 40, .inr (.inr (.inr (.inr (og ar)))))) :: (rc_, .inl (cG, 40, .inr (.inr (.inr (.inr (og ac)))))) :: (al_, .inl (cI, 7, .inl (nf (alk kn C fc al kd w n)))) :: (pr cI ar M ++ (pq cI ac C ++ R))) → va_S A s.heap H locs → lv_has ls 8 [(7, .int (nI k)), (5, .long (lN (sumK kn C fc kd w n k))), (4, .int (nI (cnt (okR kn kd w) n))), (0, .ref t_)] → W p l e (headSpec wsX2_sumOf rX2_sumOf).room s m ([.ref t_, .int (nI kd), .ref ca_, .int w] : List Value).toArray below meth c H locs 0 0 Q (F0 m 74 ls []) := by
            intro n_74
            induction n_74 with
            | zero => intro k hk hn_; exact absurd hn_ (Nat.not_lt_zero _)
            | succ n_74 ih_74 =>
              intro k hk hn_74 H locs ls hP hD hS hl
              refine lv_iload hx hb dX2_sumOf_74 (lv_at hl 0 rfl) ?_
              refine lv_bipush (v := 7) hx hb dX2_sumOf_76 (by decide) ?_
              refine lv_icmp_ge (tgt := 107) hx hb dX2_sumOf_78 (by decide) (fun c78 => ?_) (fun c78 => ?_)
              · skip
                have hE78 := lp_e (n := 7) c78 hk
                subst hE78
                refine lv_lload hx hb dX2_sumOf_107 (lv_at hl 1 rfl) ?_
                subst hQe
                subst hAe
                subst hsz
                exact g_lret hx hb hr hlocks () rfl hP hK hD hS dX2_sumOf_109
              · skip
                have hk8 := lp_l (n := 7) c78 hk
                have hsl : cnt (samR kn C fc kd w k) n ≤ n := cnt_le _ _
                refine lv_lload hx hb dX2_sumOf_81 (lv_at hl 1 rfl) ?_
                refine lv_aload_n hx hb dX2_sumOf_83 rfl (lv_at hl 3 rfl) ?_
                refine va_get (D := D) (ci := 3) (v := .ref al_) (C := RX2) (T := TX2) (N := 6) hx hb hts in_X2 hown hK hP 0 rfl rfl 4 (by decide) f_23 (fun _ h9 => h9) rfl dX2_sumOf_84 ?_
                refine lv_iload hx hb dX2_sumOf_87 (lv_at hl 0 rfl) ?_
                refine va_iald hx hb hK hP (4) 0 rfl rfl (by first | exact vp_in_nI (by omega) (by omega) | assumption) dX2_sumOf_89 ?_
                refine lv_topi (fun x89 ex89 => ?_)
                rw [nI_clamp (by omega)] at ex89
                obtain rfl : x89 = nI (cnt (samR kn C fc kd w k) n) := by rw [ex89]; exact congrArg nI (alk_at hk8)
                refine lv_sipush (v := 1000) hx hb dX2_sumOf_90 (by decide) ?_
                refine lv_imul hx hb dX2_sumOf_93 ?_
                refine lv_topi (fun x93 ex93 => ?_)
                obtain rfl : x93 = nI (cnt (samR kn C fc kd w k) n * 1000) := by rw [ex93]; exact pk_mul _ 1000
                refine lv_iload hx hb dX2_sumOf_94 (lv_at hl 2 rfl) ?_
                refine lv_idiv hx hb dX2_sumOf_96 (nI_ne0 (by omega) (by omega)) ?_
                refine lv_topi (fun x96 ex96 => ?_)
                obtain rfl : x96 = nI (cnt (samR kn C fc kd w k) n * 1000 / cnt (okR kn kd w) n) := by rw [ex96]; exact pk_div (by omega) (by omega) (by omega)
                refine lv_i2l hx hb dX2_sumOf_97 rfl ?_
                refine lv_topl (fun x97 ex97 => ?_)
                obtain rfl : x97 = lN (cnt (samR kn C fc kd w k) n * 1000 / cnt (okR kn kd w) n) := by rw [ex97]; exact nI_l (Nat.lt_of_le_of_lt (Nat.div_le_self _ _) (by omega))
                refine lv_ladd hx hb dX2_sumOf_98 ?_
                refine lv_topl (fun x98 ex98 => ?_)
                obtain rfl : x98 = lN (sumK kn C fc kd w n (k + 1)) := by rw [ex98, lN_add, sumK_s hof]
                refine lv_lstore (lv' := [(5, .long (lN (sumK kn C fc kd w n (k + 1)))), (7, .int (nI k)), (4, .int (nI (cnt (okR kn kd w) n))), (0, .ref t_)]) hx hb dX2_sumOf_99 hl (by decide) rfl (fun ls hl => ?_)
                obtain ⟨x101, ex101⟩ : ∃ y : Int32, y = (nI k) + 1 := ⟨_, rfl⟩
                refine lv_iinc (v := x101) (lv' := [(7, .int x101), (5, .long (lN (sumK kn C fc kd w n (k + 1)))), (4, .int (nI (cnt (okR kn kd w) n))), (0, .ref t_)]) hx hb dX2_sumOf_101 hl (k := 1) rfl (by rw [ex101]; rfl) (by decide) rfl (fun ls hl => ?_)
                obtain rfl : x101 = nI (k + 1) := by rw [ex101]; exact nI_1 _
                refine lv_goto (tgt := 74) hx hb dX2_sumOf_104 (by decide) ?_
                exact ih_74 (k + 1) (by omega) (by omega) H locs ls hP hD hS (lv_sub hl [0, 1, 2, 3] rfl)
          exact L_74 _ 0 (Nat.zero_le _) (Nat.lt_succ_self _) H locs ls hP hD hS (lv_sub hl [0, 1, 2, 3] rfl)
        · skip
          have hcl : cnt (okR kn kd w) n ≤ n := cnt_le _ _
          have hof : cnt (okR kn kd w) n = 0 := (nI_eq (b := 0) (by omega) (by omega)).mp c63
          refine lv_lconst (v := 0) hx hb dX2_sumOf_66 (by decide) ?_
          subst hQe
          subst hAe
          subst hsz
          exact g_lret hx hb hr hlocks () (by rw [SUM_0 hof]; rfl) hP hK hD hS dX2_sumOf_67
      · skip
        have hi8 := lp_l (n := n) c20 hi
        have hkn0 := hkn i
        refine lv_aload_n hx hb dX2_sumOf_23 rfl (lv_at hl 2 rfl) ?_
        refine va_get (D := D) (ci := 3) (v := .ref rk_) (C := RX2) (T := TX2) (N := 6) hx hb hts in_X2 hown hK hP 0 rfl rfl 1 (by decide) f_9 (fun _ h9 => h9) rfl dX2_sumOf_24 ?_
        refine lv_iload hx hb dX2_sumOf_27 (lv_at hl 0 rfl) ?_
        refine va_iald hx hb hK hP (1) 0 rfl rfl (by first | exact vp_in_nI (by omega) (by omega) | assumption) dX2_sumOf_29 ?_
        refine lv_topi (fun x29 ex29 => ?_)
        rw [nI_clamp (by omega)] at ex29
        obtain rfl : x29 = nI (kn i) := by exact ex29
        refine lv_iload_n hx hb dX2_sumOf_30 rfl (lv_at hl 3 rfl) ?_
        refine lv_icmp_ne (tgt := 55) hx hb dX2_sumOf_31 (by decide) (fun c31 => ?_) (fun c31 => ?_)
        · skip
          have hok : okR kn kd w i = false := okR_f1 (fun h => c31 (by rw [h]))
          rw [cnt_n hok] at hl
          rw [alk_n hok] at hP hD
          obtain ⟨x55, ex55⟩ : ∃ y : Int32, y = (nI i) + 1 := ⟨_, rfl⟩
          refine lv_iinc (v := x55) (lv' := [(5, .int x55), (4, .int (nI (cnt (okR kn kd w) (i + 1)))), (0, .ref t_), (1, .int (nI kd)), (2, .ref ca_), (3, .int w)]) hx hb dX2_sumOf_55 hl (k := 0) rfl (by rw [ex55]; rfl) (by decide) rfl (fun ls hl => ?_)
          obtain rfl : x55 = nI (i + 1) := by rw [ex55]; exact nI_1 _
          refine lv_goto (tgt := 14) hx hb dX2_sumOf_58 (by decide) ?_
          exact ih_14 (i + 1) (by omega) (by omega) H locs ls hP hD hS (lv_sub hl [0, 1, 2, 3, 4, 5] rfl)
        · skip
          have hki : kn i = kd := (nI_eq (by omega) (by omega)).mp c31
          refine lv_iload hx hb dX2_sumOf_34 (lv_at hl 0 rfl) ?_
          refine lv_iload_n hx hb dX2_sumOf_36 rfl (lv_at hl 5 rfl) ?_
          refine lv_icmp_eq (tgt := 55) hx hb dX2_sumOf_37 (by decide) (fun c37 => ?_) (fun c37 => ?_)
          · skip
            have hok : okR kn kd w i = false := okR_f2 c37
            rw [cnt_n hok] at hl
            rw [alk_n hok] at hP hD
            obtain ⟨x55, ex55⟩ : ∃ y : Int32, y = (nI i) + 1 := ⟨_, rfl⟩
            refine lv_iinc (v := x55) (lv' := [(5, .int x55), (4, .int (nI (cnt (okR kn kd w) (i + 1)))), (0, .ref t_), (1, .int (nI kd)), (2, .ref ca_), (3, .int w)]) hx hb dX2_sumOf_55 hl (k := 0) rfl (by rw [ex55]; rfl) (by decide) rfl (fun ls hl => ?_)
            obtain rfl : x55 = nI (i + 1) := by rw [ex55]; exact nI_1 _
            refine lv_goto (tgt := 14) hx hb dX2_sumOf_58 (by decide) ?_
            exact ih_14 (i + 1) (by omega) (by omega) H locs ls hP hD hS (lv_sub hl [0, 1, 2, 3, 4, 5] rfl)
          · skip
            have hok : okR kn kd w i = true := okR_t hki c37
            obtain ⟨x40, ex40⟩ : ∃ y : Int32, y = (nI (cnt (okR kn kd w) i)) + 1 := ⟨_, rfl⟩
            refine lv_iinc (v := x40) (lv' := [(4, .int x40), (5, .int (nI i)), (0, .ref t_), (1, .int (nI kd)), (2, .ref ca_), (3, .int w)]) hx hb dX2_sumOf_40 hl (k := 1) rfl (by rw [ex40]; rfl) (by decide) rfl (fun ls hl => ?_)
            obtain rfl : x40 = nI (cnt (okR kn kd w) (i + 1)) := by rw [ex40, nI_1, cnt_s hok]
            refine lv_aload_n hx hb dX2_sumOf_43 rfl (lv_at hl 2 rfl) ?_
            refine lv_aload_n hx hb dX2_sumOf_44 rfl (lv_at hl 4 rfl) ?_
            refine lv_aload_n hx hb dX2_sumOf_45 rfl (lv_at hl 2 rfl) ?_
            refine va_get (D := D) (ci := 3) (v := .ref rc_) (C := RX2) (T := TX2) (N := 6) hx hb hts in_X2 hown hK hP 0 rfl rfl 3 (by decide) f_20 (fun _ h9 => h9) rfl dX2_sumOf_46 ?_
            refine lv_iload hx hb dX2_sumOf_49 (lv_at hl 1 rfl) ?_
            refine g_aald (v := (ac i)) hx hb hK hP 3 2 rfl rfl (by first | exact vp_in_nI (by omega) (by omega) | assumption) (og_nI (by omega)) dX2_sumOf_51 ?_
            have hP := pm_0_4_1_2_3_P hP
            have hD := pm_0_4_1_2_3_D hD
            refine gc_Vv (As := [.ref ca_, .ref (ac i)]) (rest := []) (ci := 3) (q0 := 0) ⟨hx, hb, hml, hown, hts⟩ (c_X2_countAlike l D cI cJ cG H.size ((rk_, .inl (cI, 40, .inl (nf kn))) :: (ro_, .inl (cG, 40, .inr (.inr (.inr (.inr (og ar)))))) :: (rc_, .inl (cG, 40, .inr (.inr (.inr (.inr (og ac)))))) :: (pr cI ar M ++ (pq cI ac C ++ R))) t_ rk_ ro_ rc_ al_ K n (alk kn C fc al kd w i) fc (C i) ca_ (ac i) (qc + 3) (i + 43) hqc (pq_get (by omega)) hfc (hC i)) (cwV 2 hts gX2_sumOf_X2_countAlike rfl rfl rfl (by decide +kernel) ⟨Nat.le_of_ble_eq_true rfl, Nat.le_of_ble_eq_true rfl⟩) rfl rfl rfl hK hP hD hS hA rfl hl.1 rfl (Nat.le_of_ble_eq_true rfl) dX2_sumOf_52 ⟨Nat.le_of_ble_eq_true rfl, Nat.le_of_ble_eq_true rfl⟩ (fun u52 H locs h52 hP hD hS => ?_)
            have hP : va_P D vwCl ((t_, .inr (3, [.int (nI K), .ref rk_, .ref ro_, .ref rc_, .ref al_, .int (nI n)])) :: (al_, .inl (cI, 7, .inl (nf (fu (fun k => alk kn C fc al kd w i k + (if fc k = C i k then 1 else 0)) (alk kn C fc al kd w i) 7)))) :: (rk_, .inl (cI, 40, .inl (nf kn))) :: (ro_, .inl (cG, 40, .inr (.inr (.inr (.inr (og ar)))))) :: (rc_, .inl (cG, 40, .inr (.inr (.inr (.inr (og ac)))))) :: (pr cI ar M ++ (pq cI ac C ++ R))) H := hP
            have hD : va_D A ((t_, .inr (3, [.int (nI K), .ref rk_, .ref ro_, .ref rc_, .ref al_, .int (nI n)])) :: (al_, .inl (cI, 7, .inl (nf (fu (fun k => alk kn C fc al kd w i k + (if fc k = C i k then 1 else 0)) (alk kn C fc al kd w i) 7)))) :: (rk_, .inl (cI, 40, .inl (nf kn))) :: (ro_, .inl (cG, 40, .inr (.inr (.inr (.inr (og ar)))))) :: (rc_, .inl (cG, 40, .inr (.inr (.inr (.inr (og ac)))))) :: (pr cI ar M ++ (pq cI ac C ++ R))) := hD
            rw [alk_s hok] at hP hD
            have hP := pm_0_2_3_4_1_P hP
            have hD := pm_0_2_3_4_1_D hD
            have hP : va_P D vwCl ((t_, .inr (3, [.int (nI K), .ref rk_, .ref ro_, .ref rc_, .ref al_, .int (nI n)])) :: (rk_, .inl (cI, 40, .inl (nf kn))) :: (ro_, .inl (cG, 40, .inr (.inr (.inr (.inr (og ar)))))) :: (rc_, .inl (cG, 40, .inr (.inr (.inr (.inr (og ac)))))) :: (al_, .inl (cI, 7, .inl (nf (alk kn C fc al kd w (i + 1))))) :: (pr cI ar M ++ (pq cI ac C ++ R))) H := hP
            have hD : va_D A ((t_, .inr (3, [.int (nI K), .ref rk_, .ref ro_, .ref rc_, .ref al_, .int (nI n)])) :: (rk_, .inl (cI, 40, .inl (nf kn))) :: (ro_, .inl (cG, 40, .inr (.inr (.inr (.inr (og ar)))))) :: (rc_, .inl (cG, 40, .inr (.inr (.inr (.inr (og ac)))))) :: (al_, .inl (cI, 7, .inl (nf (alk kn C fc al kd w (i + 1))))) :: (pr cI ar M ++ (pq cI ac C ++ R))) := hD
            obtain ⟨x55, ex55⟩ : ∃ y : Int32, y = (nI i) + 1 := ⟨_, rfl⟩
            refine lv_iinc (v := x55) (lv' := [(5, .int x55), (4, .int (nI (cnt (okR kn kd w) (i + 1)))), (0, .ref t_), (1, .int (nI kd)), (2, .ref ca_), (3, .int w)]) hx hb dX2_sumOf_55 hl (k := 1) rfl (by rw [ex55]; rfl) (by decide) rfl (fun ls hl => ?_)
            obtain rfl : x55 = nI (i + 1) := by rw [ex55]; exact nI_1 _
            refine lv_goto (tgt := 14) hx hb dX2_sumOf_58 (by decide) ?_
            exact ih_14 (i + 1) (by omega) (by omega) H locs ls hP hD hS (lv_sub hl [0, 1, 2, 3, 4, 5] rfl)
  exact L_14 _ 0 (Nat.zero_le _) (Nat.lt_succ_self _) H locs ls hP hD hS (lv_sub hl [0, 1, 2, 3, 4, 5] rfl)
end
section
theorem pb_0 {K n : Nat} {kn : Nat → Nat} {M : Nat → Nat → Nat} {i : Nat} (h : i = 0) : pbN K n kn M i = K := by simp [pbN, h]
theorem pb_1 {K n : Nat} {kn : Nat → Nat} {M : Nat → Nat → Nat} {i : Nat} (h : i = 1) : pbN K n kn M i = n := by simp [pbN, h]
theorem pb_k {K n : Nat} {kn : Nat → Nat} {M : Nat → Nat → Nat} {i : Nat} (h : 2 ≤ i) (h2 : (i - 2) % 9 = 0) : pbN K n kn M i = kn ((i - 2) / 9) := by
  unfold pbN; rw [if_neg (by omega), if_neg (by omega), if_pos h2]
theorem pb_m {K n : Nat} {kn : Nat → Nat} {M : Nat → Nat → Nat} {i : Nat} (h : 2 ≤ i) (h2 : ¬ (i - 2) % 9 = 0) : pbN K n kn M i = M ((i - 2) / 9) ((i - 2) % 9 - 1) := by
  unfold pbN; rw [if_neg (by omega), if_neg (by omega), if_neg h2]
theorem pk_lo {K n : Nat} {kn : Nat → Nat} {M : Nat → Nat → Nat} {j : Nat} (hn : n ≤ 40) (h : j < 2 + 9 * n) : nI (pbN K n kn M j) = pkN K n kn M (nI j) := by
  unfold pkN; rw [if_pos (inB_nI (by omega) (by omega)), nI_clamp (by omega), if_pos h]
theorem pk_hi {K n : Nat} {kn : Nat → Nat} {M : Nat → Nat → Nat} {j : Nat} (hn : n ≤ 40) (h : j = 2 + 9 * n) : nI (sumN (pbN K n kn M) (2 + 9 * n) % 256) = pkN K n kn M (nI j) := by
  unfold pkN; rw [if_pos (inB_nI (by omega) (by omega)), nI_clamp (by omega), if_neg (by omega)]
theorem pk_ng {K n : Nat} {kn : Nat → Nat} {M : Nat → Nat → Nat} {x : Int32} (h : x < 0) : -1 = pkN K n kn M x := by
  unfold pkN; rw [inB_f1 h]; rfl
theorem pk_ou {K n : Nat} {kn : Nat → Nat} {M : Nat → Nat → Nat} {x : Int32} (hn : n ≤ 40) (h : ¬ x ≤ nI (2 + 9 * n)) : -1 = pkN K n kn M x := by
  unfold pkN
  rw [Int32.le_iff_toInt_le, nI_toInt (by omega)] at h
  rw [inB_f2 (by omega) (by rw [Int32.le_iff_toInt_le, nI_toInt (by omega)]; omega)]; rfl
/-- rows and cells out of fed bytes -/
def ldM (F : Nat → Nat) (M : Nat → Nat → Nat) : Nat → Nat → Nat := fun t => fu (fun k => F (2 + 9 * t + 1 + k)) (M t) 8
def ldC (F : Nat → Nat) (M C : Nat → Nat → Nat) : Nat → Nat → Nat := fun t => fu (ceN (ldM F M t)) (C t) 7
def ldK (F : Nat → Nat) : Nat → Nat := fun t => F (2 + 9 * t)
theorem ldM_s {F : Nat → Nat} {M : Nat → Nat → Nat} {i : Nat} : un (fu (ldM F M) M i) i (fu (fun k => F (2 + 9 * i + 1 + k)) (fu (ldM F M) M i i) 8) = fu (ldM F M) M (i + 1) := by
  rw [fu_ge (Nat.le_refl i)]
  exact fu_s (g := ldM F M)
theorem ldC_s {F : Nat → Nat} {M C : Nat → Nat → Nat} {i : Nat} : un (fu (ldC F M C) C i) i (fu (ceN (fu (fun k => F (2 + 9 * i + 1 + k)) (fu (ldM F M) M i i) 8)) (fu (ldC F M C) C i i) 7) = fu (ldC F M C) C (i + 1) := by
  rw [fu_ge (f := M) (Nat.le_refl i), fu_ge (f := C) (Nat.le_refl i)]
  exact fu_s (g := ldC F M C)
theorem ldM_le {F : Nat → Nat} {M : Nat → Nat → Nat} (hF : ∀ k, F k ≤ 255) (hM : ∀ i k, M i k ≤ 255) (n : Nat) : ∀ i k, fu (ldM F M) M n i k ≤ 255 := fun i k => by
  unfold fu
  split
  · unfold ldM fu
    dsimp only
    split
    · exact hF _
    · exact hM _ _
  · exact hM _ _
theorem min40 {a : Nat} (h : a ≤ 40) : (if nI a < 40 then nI a else 40) = nI a := by
  by_cases h2 : a < 40
  · exact if_pos ((nI_ltI (b := 40) (by omega) (by omega)).mpr h2)
  · have h3 : ¬ nI a < (40 : Int32) := fun z => h2 ((nI_ltI (b := 40) (by omega) (by omega)).mp z)
    rw [if_neg h3]
    rw [show a = 40 by omega]; rfl
theorem lt2 {i n : Nat} {N : Int32} (c : ¬ N ≤ nI i) (hi : i < 2 ^ 31) (hN : N = nI n := by rfl) (hn : n < 2 ^ 31 := by omega) : i < n := by
  subst hN
  rcases Nat.lt_or_ge i n with h | h
  · exact h
  · exact absurd (nI_le h hi) c
end
section
abbrev rX2_plainByte : Room := { frames := 0, cells := 0, slots := 0, locals := 0 }
set_option maxHeartbeats 4000000 in
set_option maxRecDepth 100000 in
theorem c_X2_plainByte (l : Launch) (D : va_G) (cI cJ cG : ClassId) (sz : Nat) (R : va_W) (t_ rk_ ro_ rc_ al_ : Nat) (ar ac : Nat → Nat) (K n : Nat) (kn : Nat → Nat) (M C : Nat → Nat → Nat) (al : Nat → Nat) (i : Nat) (hi : i < 2 + 9 * n) (hn : n ≤ 40) : Met l yX2_plainByte wsX2_plainByte rX2_plainByte (gP D (tyl cI cJ cG) [.ref t_, .int (nI i)] ((t_, .inr (3, [.int (nI K), .ref rk_, .ref ro_, .ref rc_, .ref al_, .int (nI n)])) :: (rk_, .inl (cI, 40, .inl (nf kn))) :: (ro_, .inl (cG, 40, .inr (.inr (.inr (.inr (og ar)))))) :: (rc_, .inl (cG, 40, .inr (.inr (.inr (.inr (og ac)))))) :: (al_, .inl (cI, 7, .inl (nf al))) :: (pr cI ar M ++ (pq cI ac C ++ R))) sz) (gQi D (tyl cI cJ cG) ((t_, .inr (3, [.int (nI K), .ref rk_, .ref ro_, .ref rc_, .ref al_, .int (nI n)])) :: (rk_, .inl (cI, 40, .inl (nf kn))) :: (ro_, .inl (cG, 40, .inr (.inr (.inr (.inr (og ar)))))) :: (rc_, .inl (cG, 40, .inr (.inr (.inr (.inr (og ac)))))) :: (al_, .inl (cI, 7, .inl (nf al))) :: (pr cI ar M ++ (pq cI ac C ++ R))) sz (fun r (_ : Unit) => r = nI (pbN K n kn M i)) (fun _ => ((t_, .inr (3, [.int (nI K), .ref rk_, .ref ro_, .ref rc_, .ref al_, .int (nI n)])) :: (rk_, .inl (cI, 40, .inl (nf kn))) :: (ro_, .inl (cG, 40, .inr (.inr (.inr (.inr (og ar)))))) :: (rc_, .inl (cG, 40, .inr (.inr (.inr (.inr (og ac)))))) :: (al_, .inl (cI, 7, .inl (nf al))) :: (pr cI ar M ++ (pq cI ac C ++ R))))) 0 0 (va_A ((t_, .inr (3, [.int (nI K), .ref rk_, .ref ro_, .ref rc_, .ref al_, .int (nI n)])) :: (rk_, .inl (cI, 40, .inl (nf kn))) :: (ro_, .inl (cG, 40, .inr (.inr (.inr (.inr (og ar)))))) :: (rc_, .inl (cG, 40, .inr (.inr (.inr (.inr (og ac)))))) :: (al_, .inl (cI, 7, .inl (nf al))) :: (pr cI ar M ++ (pq cI ac C ++ R))) sz) := by
  refine gMet (cc := cX2_plainByte) (maxL := 4) (ret := (some .int)) (ls0 := [(0, .ref t_), (1, .int (nI i))]) (by decide) rfl (Nat.le_of_ble_eq_true rfl) rfl ?_
  intro p e s m below meth c hx hb hr hts hown hlocks hml hname A hA hAe hsz Q hQe H locs hP hK hD hS ls hl
  have hown : s.vm.findClass RX2 = some m.cls := hown
  have in_X2 : ∀ w ∈ wsX20, w ∈ wsX2_plainByte := by decide +kernel
  have f_17 := hts (.fieldLink RX2 17 "SpectrumHeads$Table" "rows" "[[I") (by decide +kernel)
  have f_9 := hts (.fieldLink RX2 9 "SpectrumHeads$Table" "rowKinds" "[I") (by decide +kernel)
  have f_30 := hts (.fieldLink RX2 30 "SpectrumHeads$Table" "count" "I") (by decide +kernel)
  have f_26 := hts (.fieldLink RX2 26 "SpectrumHeads$Table" "kinds" "I") (by decide +kernel)
  refine lv_iload_n hx hb dX2_plainByte_0 rfl (lv_at hl 1 rfl) ?_
  refine lv_iconst (v := 2) hx hb dX2_plainByte_1 (by decide) ?_
  refine lv_icmp_ge (tgt := 21) hx hb dX2_plainByte_2 (by decide) (fun c2 => ?_) (fun c2 => ?_)
  · skip
    have h2 : 2 ≤ i := (nI_leI (a := 2) (by omega) (by omega)).mp c2
    refine lv_iload_n hx hb dX2_plainByte_21 rfl (lv_at hl 1 rfl) ?_
    refine lv_iconst (v := 2) hx hb dX2_plainByte_22 (by decide) ?_
    refine lv_isub hx hb dX2_plainByte_23 ?_
    refine lv_topi (fun x23 ex23 => ?_)
    obtain rfl : x23 = nI (i - 2) := by rw [ex23]; exact pk_sub (b := 2) (by omega)
    refine lv_bipush (v := 9) hx hb dX2_plainByte_24 (by decide) ?_
    refine lv_idiv hx hb dX2_plainByte_26 (by decide) ?_
    refine lv_topi (fun x26 ex26 => ?_)
    obtain rfl : x26 = nI ((i - 2) / 9) := by rw [ex26]; exact pk_div (d := 9) (by omega) (by omega) (by omega)
    refine lv_istore_n (lv' := [(2, .int (nI ((i - 2) / 9))), (0, .ref t_), (1, .int (nI i))]) hx hb dX2_plainByte_27 rfl hl (by decide) rfl (fun ls hl => ?_)
    refine lv_iload_n hx hb dX2_plainByte_28 rfl (lv_at hl 2 rfl) ?_
    refine lv_iconst (v := 2) hx hb dX2_plainByte_29 (by decide) ?_
    refine lv_isub hx hb dX2_plainByte_30 ?_
    refine lv_topi (fun x30 ex30 => ?_)
    obtain rfl : x30 = nI (i - 2) := by rw [ex30]; exact pk_sub (b := 2) (by omega)
    refine lv_bipush (v := 9) hx hb dX2_plainByte_31 (by decide) ?_
    refine lv_irem hx hb dX2_plainByte_33 (by decide) ?_
    refine lv_topi (fun x33 ex33 => ?_)
    obtain rfl : x33 = nI ((i - 2) % 9) := by rw [ex33]; exact pk_rem (d := 9) (by omega) (by omega) (by omega)
    refine lv_istore_n (lv' := [(3, .int (nI ((i - 2) % 9))), (2, .int (nI ((i - 2) / 9))), (0, .ref t_), (1, .int (nI i))]) hx hb dX2_plainByte_34 rfl hl (by decide) rfl (fun ls hl => ?_)
    refine lv_iload_n hx hb dX2_plainByte_35 rfl (lv_at hl 0 rfl) ?_
    refine lv_if_ne (tgt := 48) hx hb dX2_plainByte_36 (by decide) (fun c36 => ?_) (fun c36 => ?_)
    · skip
      have h9 : ¬ (i - 2) % 9 = 0 := fun h => c36 (by rw [h]; rfl)
      refine lv_aload_n hx hb dX2_plainByte_48 rfl (lv_at hl 2 rfl) ?_
      refine va_get (D := D) (ci := 3) (v := .ref ro_) (C := RX2) (T := TX2) (N := 6) hx hb hts in_X2 hown hK hP 0 rfl rfl 2 (by decide) f_17 (fun _ h9 => h9) rfl dX2_plainByte_49 ?_
      refine lv_iload_n hx hb dX2_plainByte_52 rfl (lv_at hl 1 rfl) ?_
      refine g_aald (v := (ar ((i - 2) / 9))) hx hb hK hP 2 2 rfl rfl (by first | exact vp_in_nI (by omega) (by omega) | assumption) (og_nI (by omega)) dX2_plainByte_53 ?_
      refine lv_iload_n hx hb dX2_plainByte_54 rfl (lv_at hl 0 rfl) ?_
      refine lv_iconst (v := 1) hx hb dX2_plainByte_55 (by decide) ?_
      refine lv_isub hx hb dX2_plainByte_56 ?_
      refine lv_topi (fun x56 ex56 => ?_)
      obtain rfl : x56 = nI ((i - 2) % 9 - 1) := by rw [ex56]; exact pk_sub (b := 1) (by omega)
      refine va_iald hx hb hK hP ((i - 2) / 9 + 5) 0 (pr_get (by omega)) rfl (by first | exact vp_in_nI (by omega) (by omega) | assumption) dX2_plainByte_57 ?_
      refine lv_topi (fun x57 ex57 => ?_)
      rw [nI_clamp (by omega)] at ex57
      obtain rfl : x57 = nI (M ((i - 2) / 9) ((i - 2) % 9 - 1)) := by exact ex57
      subst hQe
      subst hAe
      subst hsz
      exact g_iret hx hb hr hlocks () (by first | rw [pb_0 h6] | rw [pb_1 (by omega)] | rw [pb_k h2 h9] | rw [pb_m h2 h9]) hP hK hD hS dX2_plainByte_58
    · skip
      have h9 : (i - 2) % 9 = 0 := (nI_eq (b := 0) (by omega) (by omega)).mp c36
      refine lv_aload_n hx hb dX2_plainByte_39 rfl (lv_at hl 2 rfl) ?_
      refine va_get (D := D) (ci := 3) (v := .ref rk_) (C := RX2) (T := TX2) (N := 6) hx hb hts in_X2 hown hK hP 0 rfl rfl 1 (by decide) f_9 (fun _ h9 => h9) rfl dX2_plainByte_40 ?_
      refine lv_iload_n hx hb dX2_plainByte_43 rfl (lv_at hl 1 rfl) ?_
      refine va_iald hx hb hK hP (1) 0 rfl rfl (by first | exact vp_in_nI (by omega) (by omega) | assumption) dX2_plainByte_44 ?_
      refine lv_topi (fun x44 ex44 => ?_)
      rw [nI_clamp (by omega)] at ex44
      obtain rfl : x44 = nI (kn ((i - 2) / 9)) := by exact ex44
      refine lv_goto (tgt := 58) hx hb dX2_plainByte_45 (by decide) ?_
      subst hQe
      subst hAe
      subst hsz
      exact g_iret hx hb hr hlocks () (by first | rw [pb_0 h6] | rw [pb_1 (by omega)] | rw [pb_k h2 h9] | rw [pb_m h2 h9]) hP hK hD hS dX2_plainByte_58
  · skip
    have h2 : i < 2 := lt2 (n := 2) c2 (by omega)
    refine lv_iload_n hx hb dX2_plainByte_5 rfl (lv_at hl 1 rfl) ?_
    refine lv_if_ne (tgt := 16) hx hb dX2_plainByte_6 (by decide) (fun c6 => ?_) (fun c6 => ?_)
    · skip
      have h6 : ¬ i = 0 := fun h => c6 (by rw [h]; rfl)
      refine lv_aload_n hx hb dX2_plainByte_16 rfl (lv_at hl 0 rfl) ?_
      refine va_get (D := D) (ci := 3) (v := .int (nI n)) (C := RX2) (T := TX2) (N := 6) hx hb hts in_X2 hown hK hP 0 rfl rfl 5 (by decide) f_30 (fun _ h9 => h9) rfl dX2_plainByte_17 ?_
      subst hQe
      subst hAe
      subst hsz
      exact g_iret hx hb hr hlocks () (by first | rw [pb_0 h6] | rw [pb_1 (by omega)] | rw [pb_k h2 h9] | rw [pb_m h2 h9]) hP hK hD hS dX2_plainByte_20
    · skip
      have h6 : i = 0 := (nI_eq (b := 0) (by omega) (by omega)).mp c6
      refine lv_aload_n hx hb dX2_plainByte_9 rfl (lv_at hl 0 rfl) ?_
      refine va_get (D := D) (ci := 3) (v := .int (nI K)) (C := RX2) (T := TX2) (N := 6) hx hb hts in_X2 hown hK hP 0 rfl rfl 0 (by decide) f_26 (fun _ h9 => h9) rfl dX2_plainByte_10 ?_
      refine lv_goto (tgt := 20) hx hb dX2_plainByte_13 (by decide) ?_
      subst hQe
      subst hAe
      subst hsz
      exact g_iret hx hb hr hlocks () (by first | rw [pb_0 h6] | rw [pb_1 (by omega)] | rw [pb_k h2 h9] | rw [pb_m h2 h9]) hP hK hD hS dX2_plainByte_20
abbrev rX2_check : Room := { frames := 1, cells := 0, slots := 0, locals := 23 }
set_option maxHeartbeats 4000000 in
set_option maxRecDepth 100000 in
theorem c_X2_check (l : Launch) (D : va_G) (cI cJ cG : ClassId) (sz : Nat) (R : va_W) (t_ rk_ ro_ rc_ al_ : Nat) (ar ac : Nat → Nat) (K n : Nat) (kn : Nat → Nat) (M C : Nat → Nat → Nat) (al : Nat → Nat) (e_ : Nat) (he : e_ ≤ 2 + 9 * n) (hn : n ≤ 40) (hKb : K ≤ 255) (hkn : ∀ i, kn i ≤ 255) (hM : ∀ i k, M i k ≤ 255) : Met l yX2_check wsX2_check rX2_check (gP D (tyl cI cJ cG) [.ref t_, .int (nI e_)] ((t_, .inr (3, [.int (nI K), .ref rk_, .ref ro_, .ref rc_, .ref al_, .int (nI n)])) :: (rk_, .inl (cI, 40, .inl (nf kn))) :: (ro_, .inl (cG, 40, .inr (.inr (.inr (.inr (og ar)))))) :: (rc_, .inl (cG, 40, .inr (.inr (.inr (.inr (og ac)))))) :: (al_, .inl (cI, 7, .inl (nf al))) :: (pr cI ar M ++ (pq cI ac C ++ R))) sz) (gQi D (tyl cI cJ cG) ((t_, .inr (3, [.int (nI K), .ref rk_, .ref ro_, .ref rc_, .ref al_, .int (nI n)])) :: (rk_, .inl (cI, 40, .inl (nf kn))) :: (ro_, .inl (cG, 40, .inr (.inr (.inr (.inr (og ar)))))) :: (rc_, .inl (cG, 40, .inr (.inr (.inr (.inr (og ac)))))) :: (al_, .inl (cI, 7, .inl (nf al))) :: (pr cI ar M ++ (pq cI ac C ++ R))) sz (fun r (_ : Unit) => r = nI (sumN (pbN K n kn M) e_ % 256)) (fun _ => ((t_, .inr (3, [.int (nI K), .ref rk_, .ref ro_, .ref rc_, .ref al_, .int (nI n)])) :: (rk_, .inl (cI, 40, .inl (nf kn))) :: (ro_, .inl (cG, 40, .inr (.inr (.inr (.inr (og ar)))))) :: (rc_, .inl (cG, 40, .inr (.inr (.inr (.inr (og ac)))))) :: (al_, .inl (cI, 7, .inl (nf al))) :: (pr cI ar M ++ (pq cI ac C ++ R))))) 0 0 (va_A ((t_, .inr (3, [.int (nI K), .ref rk_, .ref ro_, .ref rc_, .ref al_, .int (nI n)])) :: (rk_, .inl (cI, 40, .inl (nf kn))) :: (ro_, .inl (cG, 40, .inr (.inr (.inr (.inr (og ar)))))) :: (rc_, .inl (cG, 40, .inr (.inr (.inr (.inr (og ac)))))) :: (al_, .inl (cI, 7, .inl (nf al))) :: (pr cI ar M ++ (pq cI ac C ++ R))) sz) := by
  refine gMet (cc := cX2_check) (maxL := 4) (ret := (some .int)) (ls0 := [(0, .ref t_), (1, .int (nI e_))]) (by decide) rfl (Nat.le_of_ble_eq_true rfl) rfl ?_
  intro p e s m below meth c hx hb hr hts hown hlocks hml hname A hA hAe hsz Q hQe H locs hP hK hD hS ls hl
  have hown : s.vm.findClass RX2 = some m.cls := hown
  refine lv_iconst (v := 0) hx hb dX2_check_0 (by decide) ?_
  refine lv_istore_n (lv' := [(2, .int 0), (0, .ref t_), (1, .int (nI e_))]) hx hb dX2_check_1 rfl hl (by decide) rfl (fun ls hl => ?_)
  refine lv_iconst (v := 0) hx hb dX2_check_2 (by decide) ?_
  refine lv_istore_n (lv' := [(3, .int 0), (2, .int 0), (0, .ref t_), (1, .int (nI e_))]) hx hb dX2_check_3 rfl hl (by decide) rfl (fun ls hl => ?_)
  have L_4 : ∀ (n_4 : Nat) (i : Nat) (hi : i ≤ e_), e_ - i < n_4 → ∀ (H : Heap) (locs : List Loc) (ls : Array Slot), va_P D vwCl ((t_, .inr (3, [.int (nI K), .ref rk_, .ref ro_, .ref rc_, .ref al_, .int (nI n)])) :: (rk_, .inl (cI, 40, .inl (nf kn))) :: (ro_, .inl (cG, 40, .inr (.inr (.inr (.inr (og ar)))))) :: (rc_, .inl (cG, 40, .inr (.inr (.inr (.inr (og ac)))))) :: (al_, .inl (cI, 7, .inl (nf al))) :: (pr cI ar M ++ (pq cI ac C ++ R))) H → va_D A ((t_, .inr (3, [.int (nI K), .ref rk_, .ref ro_, .ref rc_, .ref al_, .int (nI n)])) :: (rk_, .inl (cI, 40, .inl (nf kn))) :: (ro_, .inl (cG, 40, .inr (.inr (.inr (.inr (og ar)))))) :: (rc_, .inl (cG, 40, .inr (.inr (.inr (.inr (og ac)))))) :: (al_, .inl (cI, 7, .inl (nf al))) :: (pr cI ar M ++ (pq cI ac C ++ R))) → va_S A s.heap H locs → lv_has ls 4 [(3, .int (nI i)), (2, .int (nI (sumN (pbN K n kn M) i))), (0, .ref t_), (1, .int (nI e_))] → W p l e (headSpec wsX2_check rX2_check).room s m ([.ref t_, .int (nI e_)] : List Value).toArray below meth c H locs 0 0 Q (F0 m 4 ls []) := by
    intro n_4
    induction n_4 with
    | zero => intro i hi hn_; exact absurd hn_ (Nat.not_lt_zero _)
    | succ n_4 ih_4 =>
      intro i hi hn_4 H locs ls hP hD hS hl
      refine lv_iload_n hx hb dX2_check_4 rfl (lv_at hl 0 rfl) ?_
      refine lv_iload_n hx hb dX2_check_5 rfl (lv_at hl 3 rfl) ?_
      refine lv_icmp_ge (tgt := 23) hx hb dX2_check_6 (by decide) (fun c6 => ?_) (fun c6 => ?_)
      · skip
        have hE6 := lp_e (n := e_) c6 hi
        subst hE6
        have hsb := sumN_le (pbN_le (n := n) hKb (by omega) hkn hM) e_
        refine lv_iload_n hx hb dX2_check_23 rfl (lv_at hl 1 rfl) ?_
        refine lv_sipush (v := 256) hx hb dX2_check_24 (by decide) ?_
        refine lv_irem hx hb dX2_check_27 (by decide) ?_
        refine lv_topi (fun x27 ex27 => ?_)
        obtain rfl : x27 = nI (sumN (pbN K n kn M) e_ % 256) := by rw [ex27]; exact pk_rem (d := 256) (by omega) (by omega) (by omega)
        subst hQe
        subst hAe
        subst hsz
        exact g_iret hx hb hr hlocks () rfl hP hK hD hS dX2_check_28
      · skip
        have hi8 := lp_l (n := e_) c6 hi
        refine lv_iload_n hx hb dX2_check_9 rfl (lv_at hl 1 rfl) ?_
        refine lv_aload_n hx hb dX2_check_10 rfl (lv_at hl 2 rfl) ?_
        refine lv_iload_n hx hb dX2_check_11 rfl (lv_at hl 0 rfl) ?_
        refine gc_Vi (As := [.int (nI i)]) (rest := [.int (nI (sumN (pbN K n kn M) i))]) (ci := 3) (q0 := 0) ⟨hx, hb, hml, hown, hts⟩ (c_X2_plainByte l D cI cJ cG H.size R t_ rk_ ro_ rc_ al_ ar ac K n kn M C al i (by omega) hn) (cwV 1 hts gX2_check_X2_plainByte rfl rfl rfl (by decide +kernel) ⟨Nat.le_of_ble_eq_true rfl, Nat.le_of_ble_eq_true rfl⟩) rfl rfl rfl hK hP hD hS hA rfl hl.1 rfl (Nat.le_of_ble_eq_true rfl) dX2_check_12 ⟨Nat.le_of_ble_eq_true rfl, Nat.le_of_ble_eq_true rfl⟩ (fun r12 u12 H locs h12 hP hD hS => ?_)
        subst h12
        have hP : va_P D vwCl ((t_, .inr (3, [.int (nI K), .ref rk_, .ref ro_, .ref rc_, .ref al_, .int (nI n)])) :: (rk_, .inl (cI, 40, .inl (nf kn))) :: (ro_, .inl (cG, 40, .inr (.inr (.inr (.inr (og ar)))))) :: (rc_, .inl (cG, 40, .inr (.inr (.inr (.inr (og ac)))))) :: (al_, .inl (cI, 7, .inl (nf al))) :: (pr cI ar M ++ (pq cI ac C ++ R))) H := hP
        have hD : va_D A ((t_, .inr (3, [.int (nI K), .ref rk_, .ref ro_, .ref rc_, .ref al_, .int (nI n)])) :: (rk_, .inl (cI, 40, .inl (nf kn))) :: (ro_, .inl (cG, 40, .inr (.inr (.inr (.inr (og ar)))))) :: (rc_, .inl (cG, 40, .inr (.inr (.inr (.inr (og ac)))))) :: (al_, .inl (cI, 7, .inl (nf al))) :: (pr cI ar M ++ (pq cI ac C ++ R))) := hD
        refine lv_iadd hx hb dX2_check_15 ?_
        refine lv_topi (fun x15 ex15 => ?_)
        obtain rfl : x15 = nI (sumN (pbN K n kn M) (i + 1)) := by rw [ex15]; exact nI_add _ _
        refine lv_istore_n (lv' := [(2, .int (nI (sumN (pbN K n kn M) (i + 1)))), (3, .int (nI i)), (0, .ref t_), (1, .int (nI e_))]) hx hb dX2_check_16 rfl hl (by decide) rfl (fun ls hl => ?_)
        obtain ⟨x17, ex17⟩ : ∃ y : Int32, y = (nI i) + 1 := ⟨_, rfl⟩
        refine lv_iinc (v := x17) (lv' := [(3, .int x17), (2, .int (nI (sumN (pbN K n kn M) (i + 1)))), (0, .ref t_), (1, .int (nI e_))]) hx hb dX2_check_17 hl (k := 1) rfl (by rw [ex17]; rfl) (by decide) rfl (fun ls hl => ?_)
        obtain rfl : x17 = nI (i + 1) := by rw [ex17]; exact nI_1 _
        refine lv_goto (tgt := 4) hx hb dX2_check_20 (by decide) ?_
        exact ih_4 (i + 1) (by omega) (by omega) H locs ls hP hD hS (lv_sub hl [0, 1, 2, 3] rfl)
  exact L_4 _ 0 (Nat.zero_le _) (Nat.lt_succ_self _) H locs ls hP hD hS (lv_sub hl [0, 1, 2, 3] rfl)
abbrev rX2_packedByte : Room := { frames := 2, cells := 0, slots := 0, locals := 46 }
set_option maxHeartbeats 4000000 in
set_option maxRecDepth 100000 in
theorem c_X2_packedByte (l : Launch) (D : va_G) (cI cJ cG : ClassId) (sz : Nat) (R : va_W) (t_ rk_ ro_ rc_ al_ : Nat) (ar ac : Nat → Nat) (K n : Nat) (kn : Nat → Nat) (M C : Nat → Nat → Nat) (al : Nat → Nat) (x : Int32) (hn : n ≤ 40) (hKb : K ≤ 255) (hkn : ∀ i, kn i ≤ 255) (hM : ∀ i k, M i k ≤ 255) : Met l yX2_packedByte wsX2_packedByte rX2_packedByte (gP D (tyl cI cJ cG) [.ref t_, .int x] ((t_, .inr (3, [.int (nI K), .ref rk_, .ref ro_, .ref rc_, .ref al_, .int (nI n)])) :: (rk_, .inl (cI, 40, .inl (nf kn))) :: (ro_, .inl (cG, 40, .inr (.inr (.inr (.inr (og ar)))))) :: (rc_, .inl (cG, 40, .inr (.inr (.inr (.inr (og ac)))))) :: (al_, .inl (cI, 7, .inl (nf al))) :: (pr cI ar M ++ (pq cI ac C ++ R))) sz) (gQi D (tyl cI cJ cG) ((t_, .inr (3, [.int (nI K), .ref rk_, .ref ro_, .ref rc_, .ref al_, .int (nI n)])) :: (rk_, .inl (cI, 40, .inl (nf kn))) :: (ro_, .inl (cG, 40, .inr (.inr (.inr (.inr (og ar)))))) :: (rc_, .inl (cG, 40, .inr (.inr (.inr (.inr (og ac)))))) :: (al_, .inl (cI, 7, .inl (nf al))) :: (pr cI ar M ++ (pq cI ac C ++ R))) sz (fun r (_ : Unit) => r = pkN K n kn M x) (fun _ => ((t_, .inr (3, [.int (nI K), .ref rk_, .ref ro_, .ref rc_, .ref al_, .int (nI n)])) :: (rk_, .inl (cI, 40, .inl (nf kn))) :: (ro_, .inl (cG, 40, .inr (.inr (.inr (.inr (og ar)))))) :: (rc_, .inl (cG, 40, .inr (.inr (.inr (.inr (og ac)))))) :: (al_, .inl (cI, 7, .inl (nf al))) :: (pr cI ar M ++ (pq cI ac C ++ R))))) 0 0 (va_A ((t_, .inr (3, [.int (nI K), .ref rk_, .ref ro_, .ref rc_, .ref al_, .int (nI n)])) :: (rk_, .inl (cI, 40, .inl (nf kn))) :: (ro_, .inl (cG, 40, .inr (.inr (.inr (.inr (og ar)))))) :: (rc_, .inl (cG, 40, .inr (.inr (.inr (.inr (og ac)))))) :: (al_, .inl (cI, 7, .inl (nf al))) :: (pr cI ar M ++ (pq cI ac C ++ R))) sz) := by
  refine gMet (cc := cX2_packedByte) (maxL := 3) (ret := (some .int)) (ls0 := [(0, .ref t_), (1, .int x)]) (by decide) rfl (Nat.le_of_ble_eq_true rfl) rfl ?_
  intro p e s m below meth c hx hb hr hts hown hlocks hml hname A hA hAe hsz Q hQe H locs hP hK hD hS ls hl
  have hown : s.vm.findClass RX2 = some m.cls := hown
  have in_X2 : ∀ w ∈ wsX20, w ∈ wsX2_packedByte := by decide +kernel
  have f_30 := hts (.fieldLink RX2 30 "SpectrumHeads$Table" "count" "I") (by decide +kernel)
  refine lv_iconst (v := 2) hx hb dX2_packedByte_0 (by decide) ?_
  refine lv_bipush (v := 9) hx hb dX2_packedByte_1 (by decide) ?_
  refine lv_aload_n hx hb dX2_packedByte_3 rfl (lv_at hl 0 rfl) ?_
  refine va_get (D := D) (ci := 3) (v := .int (nI n)) (C := RX2) (T := TX2) (N := 6) hx hb hts in_X2 hown hK hP 0 rfl rfl 5 (by decide) f_30 (fun _ h9 => h9) rfl dX2_packedByte_4 ?_
  refine lv_imul hx hb dX2_packedByte_7 ?_
  refine lv_topi (fun x7 ex7 => ?_)
  obtain rfl : x7 = nI (9 * n) := by rw [ex7]; exact pk_mul 9 _
  refine lv_iadd hx hb dX2_packedByte_8 ?_
  refine lv_topi (fun x8 ex8 => ?_)
  obtain rfl : x8 = nI (2 + 9 * n) := by rw [ex8]; exact nI_add 2 _
  refine lv_istore_n (lv' := [(2, .int (nI (2 + 9 * n))), (0, .ref t_), (1, .int x)]) hx hb dX2_packedByte_9 rfl hl (by decide) rfl (fun ls hl => ?_)
  refine lv_iload_n hx hb dX2_packedByte_10 rfl (lv_at hl 2 rfl) ?_
  refine lv_if_lt (tgt := 19) hx hb dX2_packedByte_11 (by decide) (fun c11 => ?_) (fun c11 => ?_)
  · skip
    refine lv_iconst (v := -1) hx hb dX2_packedByte_19 (by decide) ?_
    subst hQe
    subst hAe
    subst hsz
    exact g_iret hx hb hr hlocks () (by first | exact pk_ng c11 | exact pk_ou hn c16 | exact pk_lo hn hj2 | exact pk_hi hn hj2) hP hK hD hS dX2_packedByte_20
  · skip
    refine lv_iload_n hx hb dX2_packedByte_14 rfl (lv_at hl 2 rfl) ?_
    refine lv_iload_n hx hb dX2_packedByte_15 rfl (lv_at hl 0 rfl) ?_
    refine lv_icmp_le (tgt := 21) hx hb dX2_packedByte_16 (by decide) (fun c16 => ?_) (fun c16 => ?_)
    · skip
      obtain ⟨j, hj, rfl⟩ := nI_of2 (nI_toInt (by omega)) c11 c16
      refine lv_iload_n hx hb dX2_packedByte_21 rfl (lv_at hl 2 rfl) ?_
      refine lv_iload_n hx hb dX2_packedByte_22 rfl (lv_at hl 0 rfl) ?_
      refine lv_icmp_ge (tgt := 34) hx hb dX2_packedByte_23 (by decide) (fun c23 => ?_) (fun c23 => ?_)
      · skip
        have hj2 : j = 2 + 9 * n := by have := (nI_leI (by omega) (by omega)).mp c23; omega
        refine lv_aload_n hx hb dX2_packedByte_34 rfl (lv_at hl 1 rfl) ?_
        refine lv_iload_n hx hb dX2_packedByte_35 rfl (lv_at hl 0 rfl) ?_
        refine gc_Vi (As := [.int (nI (2 + 9 * n))]) (rest := []) (ci := 3) (q0 := 0) ⟨hx, hb, hml, hown, hts⟩ (c_X2_check l D cI cJ cG H.size R t_ rk_ ro_ rc_ al_ ar ac K n kn M C al (2 + 9 * n) (Nat.le_refl _) hn hKb hkn hM) (cwV 1 hts gX2_packedByte_X2_check rfl rfl rfl (by decide +kernel) ⟨Nat.le_of_ble_eq_true rfl, Nat.le_of_ble_eq_true rfl⟩) rfl rfl rfl hK hP hD hS hA rfl hl.1 rfl (Nat.le_of_ble_eq_true rfl) dX2_packedByte_36 ⟨Nat.le_of_ble_eq_true rfl, Nat.le_of_ble_eq_true rfl⟩ (fun r36 u36 H locs h36 hP hD hS => ?_)
        subst h36
        have hP : va_P D vwCl ((t_, .inr (3, [.int (nI K), .ref rk_, .ref ro_, .ref rc_, .ref al_, .int (nI n)])) :: (rk_, .inl (cI, 40, .inl (nf kn))) :: (ro_, .inl (cG, 40, .inr (.inr (.inr (.inr (og ar)))))) :: (rc_, .inl (cG, 40, .inr (.inr (.inr (.inr (og ac)))))) :: (al_, .inl (cI, 7, .inl (nf al))) :: (pr cI ar M ++ (pq cI ac C ++ R))) H := hP
        have hD : va_D A ((t_, .inr (3, [.int (nI K), .ref rk_, .ref ro_, .ref rc_, .ref al_, .int (nI n)])) :: (rk_, .inl (cI, 40, .inl (nf kn))) :: (ro_, .inl (cG, 40, .inr (.inr (.inr (.inr (og ar)))))) :: (rc_, .inl (cG, 40, .inr (.inr (.inr (.inr (og ac)))))) :: (al_, .inl (cI, 7, .inl (nf al))) :: (pr cI ar M ++ (pq cI ac C ++ R))) := hD
        subst hQe
        subst hAe
        subst hsz
        exact g_iret hx hb hr hlocks () (by first | exact pk_ng c11 | exact pk_ou hn c16 | exact pk_lo hn hj2 | exact pk_hi hn hj2) hP hK hD hS dX2_packedByte_39
      · skip
        have hj2 : j < 2 + 9 * n := by have := mt (nI_leI (by omega) (by omega)).mpr c23; omega
        refine lv_aload_n hx hb dX2_packedByte_26 rfl (lv_at hl 1 rfl) ?_
        refine lv_iload_n hx hb dX2_packedByte_27 rfl (lv_at hl 2 rfl) ?_
        refine gc_Vi (As := [.int (nI j)]) (rest := []) (ci := 3) (q0 := 0) ⟨hx, hb, hml, hown, hts⟩ (c_X2_plainByte l D cI cJ cG H.size R t_ rk_ ro_ rc_ al_ ar ac K n kn M C al j hj2 hn) (cwV 1 hts gX2_packedByte_X2_plainByte rfl rfl rfl (by decide +kernel) ⟨Nat.le_of_ble_eq_true rfl, Nat.le_of_ble_eq_true rfl⟩) rfl rfl rfl hK hP hD hS hA rfl hl.1 rfl (Nat.le_of_ble_eq_true rfl) dX2_packedByte_28 ⟨Nat.le_of_ble_eq_true rfl, Nat.le_of_ble_eq_true rfl⟩ (fun r28 u28 H locs h28 hP hD hS => ?_)
        subst h28
        have hP : va_P D vwCl ((t_, .inr (3, [.int (nI K), .ref rk_, .ref ro_, .ref rc_, .ref al_, .int (nI n)])) :: (rk_, .inl (cI, 40, .inl (nf kn))) :: (ro_, .inl (cG, 40, .inr (.inr (.inr (.inr (og ar)))))) :: (rc_, .inl (cG, 40, .inr (.inr (.inr (.inr (og ac)))))) :: (al_, .inl (cI, 7, .inl (nf al))) :: (pr cI ar M ++ (pq cI ac C ++ R))) H := hP
        have hD : va_D A ((t_, .inr (3, [.int (nI K), .ref rk_, .ref ro_, .ref rc_, .ref al_, .int (nI n)])) :: (rk_, .inl (cI, 40, .inl (nf kn))) :: (ro_, .inl (cG, 40, .inr (.inr (.inr (.inr (og ar)))))) :: (rc_, .inl (cG, 40, .inr (.inr (.inr (.inr (og ac)))))) :: (al_, .inl (cI, 7, .inl (nf al))) :: (pr cI ar M ++ (pq cI ac C ++ R))) := hD
        refine lv_goto (tgt := 39) hx hb dX2_packedByte_31 (by decide) ?_
        subst hQe
        subst hAe
        subst hsz
        exact g_iret hx hb hr hlocks () (by first | exact pk_ng c11 | exact pk_ou hn c16 | exact pk_lo hn hj2 | exact pk_hi hn hj2) hP hK hD hS dX2_packedByte_39
    · skip
      refine lv_iconst (v := -1) hx hb dX2_packedByte_19 (by decide) ?_
      subst hQe
      subst hAe
      subst hsz
      exact g_iret hx hb hr hlocks () (by first | exact pk_ng c11 | exact pk_ou hn c16 | exact pk_lo hn hj2 | exact pk_hi hn hj2) hP hK hD hS dX2_packedByte_20
abbrev rX2_fits : Room := { frames := 0, cells := 0, slots := 0, locals := 0 }
set_option maxHeartbeats 4000000 in
set_option maxRecDepth 100000 in
theorem c_X2_fits (l : Launch) (D : va_G) (cI cJ cG : ClassId) (sz : Nat) (R : va_W) (t_ rk_ ro_ rc_ al_ : Nat) (ar ac : Nat → Nat) (K n : Nat) (kn : Nat → Nat) (M C : Nat → Nat → Nat) (al : Nat → Nat) (fd_ : Nat) (F : Nat → Nat) (len : Nat) (hlen : len ≤ 400) (hKb : K ≤ 255) (hF : ∀ k, F k ≤ 255) : Met l yX2_fits wsX2_fits rX2_fits (gP D (tyl cI cJ cG) [.ref t_, .ref fd_, .int (nI len)] ((t_, .inr (3, [.int (nI K), .ref rk_, .ref ro_, .ref rc_, .ref al_, .int (nI n)])) :: (rk_, .inl (cI, 40, .inl (nf kn))) :: (ro_, .inl (cG, 40, .inr (.inr (.inr (.inr (og ar)))))) :: (rc_, .inl (cG, 40, .inr (.inr (.inr (.inr (og ac)))))) :: (al_, .inl (cI, 7, .inl (nf al))) :: (fd_, .inl (cI, 400, .inl (nf F))) :: (pr cI ar M ++ (pq cI ac C ++ R))) sz) (gQi D (tyl cI cJ cG) ((t_, .inr (3, [.int (nI K), .ref rk_, .ref ro_, .ref rc_, .ref al_, .int (nI n)])) :: (rk_, .inl (cI, 40, .inl (nf kn))) :: (ro_, .inl (cG, 40, .inr (.inr (.inr (.inr (og ar)))))) :: (rc_, .inl (cG, 40, .inr (.inr (.inr (.inr (og ac)))))) :: (al_, .inl (cI, 7, .inl (nf al))) :: (fd_, .inl (cI, 400, .inl (nf F))) :: (pr cI ar M ++ (pq cI ac C ++ R))) sz (fun r (_ : Unit) => (r = 1 ∧ fitP K F len) ∨ (r = 0 ∧ ¬ fitP K F len)) (fun _ => ((t_, .inr (3, [.int (nI K), .ref rk_, .ref ro_, .ref rc_, .ref al_, .int (nI n)])) :: (rk_, .inl (cI, 40, .inl (nf kn))) :: (ro_, .inl (cG, 40, .inr (.inr (.inr (.inr (og ar)))))) :: (rc_, .inl (cG, 40, .inr (.inr (.inr (.inr (og ac)))))) :: (al_, .inl (cI, 7, .inl (nf al))) :: (fd_, .inl (cI, 400, .inl (nf F))) :: (pr cI ar M ++ (pq cI ac C ++ R))))) 0 0 (va_A ((t_, .inr (3, [.int (nI K), .ref rk_, .ref ro_, .ref rc_, .ref al_, .int (nI n)])) :: (rk_, .inl (cI, 40, .inl (nf kn))) :: (ro_, .inl (cG, 40, .inr (.inr (.inr (.inr (og ar)))))) :: (rc_, .inl (cG, 40, .inr (.inr (.inr (.inr (og ac)))))) :: (al_, .inl (cI, 7, .inl (nf al))) :: (fd_, .inl (cI, 400, .inl (nf F))) :: (pr cI ar M ++ (pq cI ac C ++ R))) sz) := by
  refine gMet (cc := cX2_fits) (maxL := 6) (ret := (some .boolean)) (ls0 := [(0, .ref t_), (1, .ref fd_), (2, .int (nI len))]) (by decide) rfl (Nat.le_of_ble_eq_true rfl) rfl ?_
  intro p e s m below meth c hx hb hr hts hown hlocks hml hname A hA hAe hsz Q hQe H locs hP hK hD hS ls hl
  have hown : s.vm.findClass RX2 = some m.cls := hown
  have in_X2 : ∀ w ∈ wsX20, w ∈ wsX2_fits := by decide +kernel
  have f_26 := hts (.fieldLink RX2 26 "SpectrumHeads$Table" "kinds" "I") (by decide +kernel)
  have hF0 := hF 0
  have hF1 := hF 1
  refine lv_iload_n hx hb dX2_fits_0 rfl (lv_at hl 2 rfl) ?_
  refine lv_iconst (v := 2) hx hb dX2_fits_1 (by decide) ?_
  refine lv_icmp_le (tgt := 23) hx hb dX2_fits_2 (by decide) (fun c2 => ?_) (fun c2 => ?_)
  · skip
    have hno : ¬ fitP K F len := fun h => by have := (nI_leI (b := 2) (by omega) (by omega)).mp c2; have := h.1; omega
    refine lv_iconst (v := 0) hx hb dX2_fits_23 (by decide) ?_
    subst hQe
    subst hAe
    subst hsz
    exact g_zret hx hb hr hlocks rfl () (by first | exact Or.inr ⟨rfl, hno⟩ | exact Or.inl ⟨rfl, hfit⟩) hP hK hD hS dX2_fits_24
  · skip
    have hl3 : 3 ≤ len := by have := mt (nI_leI (a := len) (b := 2) (by omega) (by omega)).mpr c2; omega
    refine lv_aload_n hx hb dX2_fits_5 rfl (lv_at hl 1 rfl) ?_
    refine lv_iconst (v := 0) hx hb dX2_fits_6 (by decide) ?_
    refine va_iald hx hb hK hP (5) 0 rfl rfl (vp_in_nI (n := 0) (by omega) (by omega)) dX2_fits_7 ?_
    refine lv_topi (fun x7 ex7 => ?_)
    obtain rfl : x7 = nI (F 0) := by exact ex7
    refine lv_aload_n hx hb dX2_fits_8 rfl (lv_at hl 0 rfl) ?_
    refine va_get (D := D) (ci := 3) (v := .int (nI K)) (C := RX2) (T := TX2) (N := 6) hx hb hts in_X2 hown hK hP 0 rfl rfl 0 (by decide) f_26 (fun _ h9 => h9) rfl dX2_fits_9 ?_
    refine lv_icmp_ne (tgt := 23) hx hb dX2_fits_12 (by decide) (fun c12 => ?_) (fun c12 => ?_)
    · skip
      have hno : ¬ fitP K F len := fun h => c12 (by rw [h.2.1])
      refine lv_iconst (v := 0) hx hb dX2_fits_23 (by decide) ?_
      subst hQe
      subst hAe
      subst hsz
      exact g_zret hx hb hr hlocks rfl () (by first | exact Or.inr ⟨rfl, hno⟩ | exact Or.inl ⟨rfl, hfit⟩) hP hK hD hS dX2_fits_24
    · skip
      have hf0 : F 0 = K := (nI_eq (by omega) (by omega)).mp c12
      refine lv_aload_n hx hb dX2_fits_15 rfl (lv_at hl 1 rfl) ?_
      refine lv_iconst (v := 1) hx hb dX2_fits_16 (by decide) ?_
      refine va_iald hx hb hK hP (5) 0 rfl rfl (vp_in_nI (n := 1) (by omega) (by omega)) dX2_fits_17 ?_
      refine lv_topi (fun x17 ex17 => ?_)
      obtain rfl : x17 = nI (F 1) := by exact ex17
      refine lv_bipush (v := 40) hx hb dX2_fits_18 (by decide) ?_
      refine lv_icmp_le (tgt := 25) hx hb dX2_fits_20 (by decide) (fun c20 => ?_) (fun c20 => ?_)
      · skip
        have hf1 : F 1 ≤ 40 := (nI_leI (b := 40) (by omega) (by omega)).mp c20
        refine lv_iconst (v := 2) hx hb dX2_fits_25 (by decide) ?_
        refine lv_bipush (v := 9) hx hb dX2_fits_26 (by decide) ?_
        refine lv_aload_n hx hb dX2_fits_28 rfl (lv_at hl 1 rfl) ?_
        refine lv_iconst (v := 1) hx hb dX2_fits_29 (by decide) ?_
        refine va_iald hx hb hK hP (5) 0 rfl rfl (vp_in_nI (n := 1) (by omega) (by omega)) dX2_fits_30 ?_
        refine lv_topi (fun x30 ex30 => ?_)
        obtain rfl : x30 = nI (F 1) := by exact ex30
        refine lv_imul hx hb dX2_fits_31 ?_
        refine lv_topi (fun x31 ex31 => ?_)
        obtain rfl : x31 = nI (9 * F 1) := by rw [ex31]; exact pk_mul 9 _
        refine lv_iadd hx hb dX2_fits_32 ?_
        refine lv_topi (fun x32 ex32 => ?_)
        obtain rfl : x32 = nI (2 + 9 * F 1) := by rw [ex32]; exact nI_add 2 _
        refine lv_istore_n (lv' := [(3, .int (nI (2 + 9 * F 1))), (0, .ref t_), (1, .ref fd_), (2, .int (nI len))]) hx hb dX2_fits_33 rfl hl (by decide) rfl (fun ls hl => ?_)
        refine lv_iload_n hx hb dX2_fits_34 rfl (lv_at hl 3 rfl) ?_
        refine lv_iload_n hx hb dX2_fits_35 rfl (lv_at hl 0 rfl) ?_
        refine lv_iconst (v := 1) hx hb dX2_fits_36 (by decide) ?_
        refine lv_iadd hx hb dX2_fits_37 ?_
        refine lv_topi (fun x37 ex37 => ?_)
        obtain rfl : x37 = nI (2 + 9 * F 1 + 1) := by rw [ex37]; exact nI_1 _
        refine lv_icmp_eq (tgt := 43) hx hb dX2_fits_38 (by decide) (fun c38 => ?_) (fun c38 => ?_)
        · skip
          have hle : len = 3 + 9 * F 1 := by have := (nI_eq (by omega) (by omega)).mp c38; omega
          refine lv_iconst (v := 0) hx hb dX2_fits_43 (by decide) ?_
          refine lv_istore (lv' := [(4, .int 0), (3, .int (nI (2 + 9 * F 1))), (0, .ref t_), (1, .ref fd_), (2, .int (nI len))]) hx hb dX2_fits_44 hl (by decide) rfl (fun ls hl => ?_)
          refine lv_iconst (v := 0) hx hb dX2_fits_46 (by decide) ?_
          refine lv_istore (lv' := [(5, .int 0), (4, .int 0), (3, .int (nI (2 + 9 * F 1))), (0, .ref t_), (1, .ref fd_), (2, .int (nI len))]) hx hb dX2_fits_47 hl (by decide) rfl (fun ls hl => ?_)
          have L_49 : ∀ (n_49 : Nat) (i : Nat) (hi : i ≤ 2 + 9 * F 1) (hk : ∀ t, 2 + 9 * t < i → F (2 + 9 * t) < K), 2 + 9 * F 1 - i < n_49 → ∀ (H : Heap) (locs : List Loc) (ls : Array Slot), va_P D vwCl ((t_, .inr (3, [.int (nI K), .ref rk_, .ref ro_, .ref rc_, .ref al_, .int (nI n)])) :: (rk_, .inl (cI, 40, .inl (nf kn))) :: (ro_, .inl (cG, 40, .inr (.inr (.inr (.inr (og ar)))))) :: (rc_, .inl (cG, 40, .inr (.inr (.inr (.inr (og ac)))))) :: (al_, .inl (cI, 7, .inl (nf al))) :: (fd_, .inl (cI, 400, .inl (nf F))) :: (pr cI ar M ++ (pq cI ac C ++ R))) H → va_D A ((t_, .inr (3, [.int (nI K), .ref rk_, .ref ro_, .ref rc_, .ref al_, .int (nI n)])) :: (rk_, .inl (cI, 40, .inl (nf kn))) :: (ro_, .inl (cG, 40, .inr (.inr (.inr (.inr (og ar)))))) :: (rc_, .inl (cG, 40, .inr (.inr (.inr (.inr (og ac)))))) :: (al_, .inl (cI, 7, .inl (nf al))) :: (fd_, .inl (cI, 400, .inl (nf F))) :: (pr cI ar M ++ (pq cI ac C ++ R))) → va_S A s.heap H locs → lv_has ls 6 [(5, .int (nI i)), (4, .int (nI (sumN F i))), (3, .int (nI (2 + 9 * F 1))), (0, .ref t_), (1, .ref fd_), (2, .int (nI len))] → W p l e (headSpec wsX2_fits rX2_fits).room s m ([.ref t_, .ref fd_, .int (nI len)] : List Value).toArray below meth c H locs 0 0 Q (F0 m 49 ls []) := by
            intro n_49
            induction n_49 with
            | zero => intro i hi hk hn_; exact absurd hn_ (Nat.not_lt_zero _)
            | succ n_49 ih_49 =>
              intro i hi hk hn_49 H locs ls hP hD hS hl
              refine lv_iload hx hb dX2_fits_49 (lv_at hl 0 rfl) ?_
              refine lv_iload_n hx hb dX2_fits_51 rfl (lv_at hl 2 rfl) ?_
              refine lv_icmp_ge (tgt := 99) hx hb dX2_fits_52 (by decide) (fun c52 => ?_) (fun c52 => ?_)
              · skip
                have hE52 := lp_e (n := (2 + 9 * F 1)) c52 hi
                subst hE52
                have hsb := sumN_le hF (2 + 9 * F 1)
                refine lv_aload_n hx hb dX2_fits_99 rfl (lv_at hl 4 rfl) ?_
                refine lv_iload_n hx hb dX2_fits_100 rfl (lv_at hl 2 rfl) ?_
                refine va_iald hx hb hK hP (5) 0 rfl rfl (by first | exact vp_in_nI (by omega) (by omega) | assumption) dX2_fits_101 ?_
                refine lv_topi (fun x101 ex101 => ?_)
                rw [nI_clamp (by omega)] at ex101
                obtain rfl : x101 = nI (F (2 + 9 * F 1)) := by exact ex101
                refine lv_iload hx hb dX2_fits_102 (lv_at hl 1 rfl) ?_
                refine lv_sipush (v := 256) hx hb dX2_fits_104 (by decide) ?_
                refine lv_irem hx hb dX2_fits_107 (by decide) ?_
                refine lv_topi (fun x107 ex107 => ?_)
                obtain rfl : x107 = nI (sumN F (2 + 9 * F 1) % 256) := by rw [ex107]; exact pk_rem (d := 256) (by omega) (by omega) (by omega)
                refine lv_icmp_ne (tgt := 115) hx hb dX2_fits_108 (by decide) (fun c108 => ?_) (fun c108 => ?_)
                · skip
                  have hno : ¬ fitP K F len := fun h => c108 (congrArg nI h.2.2.2.2.2)
                  refine lv_iconst (v := 0) hx hb dX2_fits_115 (by decide) ?_
                  subst hQe
                  subst hAe
                  subst hsz
                  exact g_zret hx hb hr hlocks rfl () (by first | exact Or.inr ⟨rfl, hno⟩ | exact Or.inl ⟨rfl, hfit⟩) hP hK hD hS dX2_fits_116
                · skip
                  have hFe := hF (2 + 9 * F 1)
                  have hfit : fitP K F len := ⟨hl3, hf0, hf1, hle, fun t ht => hk t (by omega), (nI_eq (by omega) (by omega)).mp c108⟩
                  refine lv_iconst (v := 1) hx hb dX2_fits_111 (by decide) ?_
                  refine lv_goto (tgt := 116) hx hb dX2_fits_112 (by decide) ?_
                  subst hQe
                  subst hAe
                  subst hsz
                  exact g_zret hx hb hr hlocks rfl () (by first | exact Or.inr ⟨rfl, hno⟩ | exact Or.inl ⟨rfl, hfit⟩) hP hK hD hS dX2_fits_116
              · skip
                have hi8 := lp_l (n := (2 + 9 * F 1)) c52 hi
                have hFi := hF i
                refine lv_iload hx hb dX2_fits_55 (lv_at hl 0 rfl) ?_
                refine lv_iconst (v := 2) hx hb dX2_fits_57 (by decide) ?_
                refine lv_icmp_lt (tgt := 84) hx hb dX2_fits_58 (by decide) (fun c58 => ?_) (fun c58 => ?_)
                · skip
                  have hki : ∀ t, 2 + 9 * t = i → F (2 + 9 * t) < K := fun t ht => by have := (nI_ltI (b := 2) (by omega) (by omega)).mp c58; omega
                  refine lv_iload hx hb dX2_fits_84 (lv_at hl 1 rfl) ?_
                  refine lv_aload_n hx hb dX2_fits_86 rfl (lv_at hl 4 rfl) ?_
                  refine lv_iload hx hb dX2_fits_87 (lv_at hl 0 rfl) ?_
                  refine va_iald hx hb hK hP (5) 0 rfl rfl (by first | exact vp_in_nI (by omega) (by omega) | assumption) dX2_fits_89 ?_
                  refine lv_topi (fun x89 ex89 => ?_)
                  rw [nI_clamp (by omega)] at ex89
                  obtain rfl : x89 = nI (F i) := by exact ex89
                  refine lv_iadd hx hb dX2_fits_90 ?_
                  refine lv_topi (fun x90 ex90 => ?_)
                  obtain rfl : x90 = nI (sumN F (i + 1)) := by rw [ex90]; exact nI_add _ _
                  refine lv_istore (lv' := [(4, .int (nI (sumN F (i + 1)))), (5, .int (nI i)), (3, .int (nI (2 + 9 * F 1))), (0, .ref t_), (1, .ref fd_), (2, .int (nI len))]) hx hb dX2_fits_91 hl (by decide) rfl (fun ls hl => ?_)
                  obtain ⟨x93, ex93⟩ : ∃ y : Int32, y = (nI i) + 1 := ⟨_, rfl⟩
                  refine lv_iinc (v := x93) (lv' := [(5, .int x93), (4, .int (nI (sumN F (i + 1)))), (3, .int (nI (2 + 9 * F 1))), (0, .ref t_), (1, .ref fd_), (2, .int (nI len))]) hx hb dX2_fits_93 hl (k := 1) rfl (by rw [ex93]; rfl) (by decide) rfl (fun ls hl => ?_)
                  obtain rfl : x93 = nI (i + 1) := by rw [ex93]; exact nI_1 _
                  refine lv_goto (tgt := 49) hx hb dX2_fits_96 (by decide) ?_
                  exact ih_49 (i + 1) (by omega) (fun t ht => (Nat.lt_or_ge (2 + 9 * t) i).elim (fun h => hk t h) (fun h => hki t (by omega))) (by omega) H locs ls hP hD hS (lv_sub hl [0, 1, 2, 3, 4, 5] rfl)
                · skip
                  have h58 : 2 ≤ i := by have := mt (nI_ltI (a := i) (b := 2) (by omega) (by omega)).mpr c58; omega
                  refine lv_iload hx hb dX2_fits_61 (lv_at hl 0 rfl) ?_
                  refine lv_iconst (v := 2) hx hb dX2_fits_63 (by decide) ?_
                  refine lv_isub hx hb dX2_fits_64 ?_
                  refine lv_topi (fun x64 ex64 => ?_)
                  obtain rfl : x64 = nI (i - 2) := by rw [ex64]; exact pk_sub (b := 2) (by omega)
                  refine lv_bipush (v := 9) hx hb dX2_fits_65 (by decide) ?_
                  refine lv_irem hx hb dX2_fits_67 (by decide) ?_
                  refine lv_topi (fun x67 ex67 => ?_)
                  obtain rfl : x67 = nI ((i - 2) % 9) := by rw [ex67]; exact pk_rem (d := 9) (by omega) (by omega) (by omega)
                  refine lv_if_ne (tgt := 84) hx hb dX2_fits_68 (by decide) (fun c68 => ?_) (fun c68 => ?_)
                  · skip
                    have hki : ∀ t, 2 + 9 * t = i → F (2 + 9 * t) < K := fun t ht => absurd (show nI ((i - 2) % 9) = 0 by rw [show (i - 2) % 9 = 0 by omega]; rfl) c68
                    refine lv_iload hx hb dX2_fits_84 (lv_at hl 1 rfl) ?_
                    refine lv_aload_n hx hb dX2_fits_86 rfl (lv_at hl 4 rfl) ?_
                    refine lv_iload hx hb dX2_fits_87 (lv_at hl 0 rfl) ?_
                    refine va_iald hx hb hK hP (5) 0 rfl rfl (by first | exact vp_in_nI (by omega) (by omega) | assumption) dX2_fits_89 ?_
                    refine lv_topi (fun x89 ex89 => ?_)
                    rw [nI_clamp (by omega)] at ex89
                    obtain rfl : x89 = nI (F i) := by exact ex89
                    refine lv_iadd hx hb dX2_fits_90 ?_
                    refine lv_topi (fun x90 ex90 => ?_)
                    obtain rfl : x90 = nI (sumN F (i + 1)) := by rw [ex90]; exact nI_add _ _
                    refine lv_istore (lv' := [(4, .int (nI (sumN F (i + 1)))), (5, .int (nI i)), (3, .int (nI (2 + 9 * F 1))), (0, .ref t_), (1, .ref fd_), (2, .int (nI len))]) hx hb dX2_fits_91 hl (by decide) rfl (fun ls hl => ?_)
                    obtain ⟨x93, ex93⟩ : ∃ y : Int32, y = (nI i) + 1 := ⟨_, rfl⟩
                    refine lv_iinc (v := x93) (lv' := [(5, .int x93), (4, .int (nI (sumN F (i + 1)))), (3, .int (nI (2 + 9 * F 1))), (0, .ref t_), (1, .ref fd_), (2, .int (nI len))]) hx hb dX2_fits_93 hl (k := 1) rfl (by rw [ex93]; rfl) (by decide) rfl (fun ls hl => ?_)
                    obtain rfl : x93 = nI (i + 1) := by rw [ex93]; exact nI_1 _
                    refine lv_goto (tgt := 49) hx hb dX2_fits_96 (by decide) ?_
                    exact ih_49 (i + 1) (by omega) (fun t ht => (Nat.lt_or_ge (2 + 9 * t) i).elim (fun h => hk t h) (fun h => hki t (by omega))) (by omega) H locs ls hP hD hS (lv_sub hl [0, 1, 2, 3, 4, 5] rfl)
                  · skip
                    have h68 : (i - 2) % 9 = 0 := (nI_eq (b := 0) (by omega) (by omega)).mp c68
                    refine lv_aload_n hx hb dX2_fits_71 rfl (lv_at hl 4 rfl) ?_
                    refine lv_iload hx hb dX2_fits_72 (lv_at hl 0 rfl) ?_
                    refine va_iald hx hb hK hP (5) 0 rfl rfl (by first | exact vp_in_nI (by omega) (by omega) | assumption) dX2_fits_74 ?_
                    refine lv_topi (fun x74 ex74 => ?_)
                    rw [nI_clamp (by omega)] at ex74
                    obtain rfl : x74 = nI (F i) := by exact ex74
                    refine lv_aload_n hx hb dX2_fits_75 rfl (lv_at hl 3 rfl) ?_
                    refine va_get (D := D) (ci := 3) (v := .int (nI K)) (C := RX2) (T := TX2) (N := 6) hx hb hts in_X2 hown hK hP 0 rfl rfl 0 (by decide) f_26 (fun _ h9 => h9) rfl dX2_fits_76 ?_
                    refine lv_icmp_lt (tgt := 84) hx hb dX2_fits_79 (by decide) (fun c79 => ?_) (fun c79 => ?_)
                    · skip
                      have hki : ∀ t, 2 + 9 * t = i → F (2 + 9 * t) < K := fun t ht => by rw [ht]; exact (nI_ltI (by omega) (by omega)).mp c79
                      refine lv_iload hx hb dX2_fits_84 (lv_at hl 1 rfl) ?_
                      refine lv_aload_n hx hb dX2_fits_86 rfl (lv_at hl 4 rfl) ?_
                      refine lv_iload hx hb dX2_fits_87 (lv_at hl 0 rfl) ?_
                      refine va_iald hx hb hK hP (5) 0 rfl rfl (by first | exact vp_in_nI (by omega) (by omega) | assumption) dX2_fits_89 ?_
                      refine lv_topi (fun x89 ex89 => ?_)
                      rw [nI_clamp (by omega)] at ex89
                      obtain rfl : x89 = nI (F i) := by exact ex89
                      refine lv_iadd hx hb dX2_fits_90 ?_
                      refine lv_topi (fun x90 ex90 => ?_)
                      obtain rfl : x90 = nI (sumN F (i + 1)) := by rw [ex90]; exact nI_add _ _
                      refine lv_istore (lv' := [(4, .int (nI (sumN F (i + 1)))), (5, .int (nI i)), (3, .int (nI (2 + 9 * F 1))), (0, .ref t_), (1, .ref fd_), (2, .int (nI len))]) hx hb dX2_fits_91 hl (by decide) rfl (fun ls hl => ?_)
                      obtain ⟨x93, ex93⟩ : ∃ y : Int32, y = (nI i) + 1 := ⟨_, rfl⟩
                      refine lv_iinc (v := x93) (lv' := [(5, .int x93), (4, .int (nI (sumN F (i + 1)))), (3, .int (nI (2 + 9 * F 1))), (0, .ref t_), (1, .ref fd_), (2, .int (nI len))]) hx hb dX2_fits_93 hl (k := 1) rfl (by rw [ex93]; rfl) (by decide) rfl (fun ls hl => ?_)
                      obtain rfl : x93 = nI (i + 1) := by rw [ex93]; exact nI_1 _
                      refine lv_goto (tgt := 49) hx hb dX2_fits_96 (by decide) ?_
                      exact ih_49 (i + 1) (by omega) (fun t ht => (Nat.lt_or_ge (2 + 9 * t) i).elim (fun h => hk t h) (fun h => hki t (by omega))) (by omega) H locs ls hP hD hS (lv_sub hl [0, 1, 2, 3, 4, 5] rfl)
                    · skip
                      have hno : ¬ fitP K F len := fun h => c79 ((nI_ltI (by omega) (by omega)).mpr (by have := h.2.2.2.2.1 ((i - 2) / 9) (by omega); rw [show 2 + 9 * ((i - 2) / 9) = i by omega] at this; exact this))
                      refine lv_iconst (v := 0) hx hb dX2_fits_82 (by decide) ?_
                      subst hQe
                      subst hAe
                      subst hsz
                      exact g_zret hx hb hr hlocks rfl () (by first | exact Or.inr ⟨rfl, hno⟩ | exact Or.inl ⟨rfl, hfit⟩) hP hK hD hS dX2_fits_83
          exact L_49 _ 0 (Nat.zero_le _) (fun t h => absurd h (Nat.not_lt_zero _)) (Nat.lt_succ_self _) H locs ls hP hD hS (lv_sub hl [0, 1, 2, 3, 4, 5] rfl)
        · skip
          have hno : ¬ fitP K F len := fun h => c38 (congrArg nI (by have := h.2.2.2.1; omega))
          refine lv_iconst (v := 0) hx hb dX2_fits_41 (by decide) ?_
          subst hQe
          subst hAe
          subst hsz
          exact g_zret hx hb hr hlocks rfl () (by first | exact Or.inr ⟨rfl, hno⟩ | exact Or.inl ⟨rfl, hfit⟩) hP hK hD hS dX2_fits_42
      · skip
        have hno : ¬ fitP K F len := fun h => c20 ((nI_leI (b := 40) (by omega) (by omega)).mpr h.2.2.1)
        refine lv_iconst (v := 0) hx hb dX2_fits_23 (by decide) ?_
        subst hQe
        subst hAe
        subst hsz
        exact g_zret hx hb hr hlocks rfl () (by first | exact Or.inr ⟨rfl, hno⟩ | exact Or.inl ⟨rfl, hfit⟩) hP hK hD hS dX2_fits_24
abbrev rX2_load : Room := { frames := 2, cells := 0, slots := 0, locals := 84 }
set_option maxHeartbeats 4000000 in
set_option maxRecDepth 100000 in
theorem c_X2_load (l : Launch) (D : va_G) (cI cJ cG : ClassId) (sz : Nat) (R : va_W) (t_ rk_ ro_ rc_ al_ : Nat) (ar ac : Nat → Nat) (K n : Nat) (kn : Nat → Nat) (M C : Nat → Nat → Nat) (al : Nat → Nat) (fd_ : Nat) (F : Nat → Nat) (hf1 : F 1 ≤ 40) (hF : ∀ k, F k ≤ 255) (hM : ∀ i k, M i k ≤ 255) : Met l yX2_load wsX2_load rX2_load (gP D (tyl cI cJ cG) [.ref t_, .ref fd_] ((t_, .inr (3, [.int (nI K), .ref rk_, .ref ro_, .ref rc_, .ref al_, .int (nI n)])) :: (rk_, .inl (cI, 40, .inl (nf kn))) :: (ro_, .inl (cG, 40, .inr (.inr (.inr (.inr (og ar)))))) :: (rc_, .inl (cG, 40, .inr (.inr (.inr (.inr (og ac)))))) :: (al_, .inl (cI, 7, .inl (nf al))) :: (fd_, .inl (cI, 400, .inl (nf F))) :: (pr cI ar M ++ (pq cI ac C ++ R))) sz) (gQv D (tyl cI cJ cG) ((t_, .inr (3, [.int (nI K), .ref rk_, .ref ro_, .ref rc_, .ref al_, .int (nI n)])) :: (rk_, .inl (cI, 40, .inl (nf kn))) :: (ro_, .inl (cG, 40, .inr (.inr (.inr (.inr (og ar)))))) :: (rc_, .inl (cG, 40, .inr (.inr (.inr (.inr (og ac)))))) :: (al_, .inl (cI, 7, .inl (nf al))) :: (fd_, .inl (cI, 400, .inl (nf F))) :: (pr cI ar M ++ (pq cI ac C ++ R))) sz (fun (_ : Unit) => True) (fun _ => ((t_, .inr (3, [.int (nI K), .ref rk_, .ref ro_, .ref rc_, .ref al_, .int (nI (F 1))])) :: (rk_, .inl (cI, 40, .inl (nf (fu (ldK F) kn (F 1))))) :: (ro_, .inl (cG, 40, .inr (.inr (.inr (.inr (og ar)))))) :: (rc_, .inl (cG, 40, .inr (.inr (.inr (.inr (og ac)))))) :: (al_, .inl (cI, 7, .inl (nf al))) :: (fd_, .inl (cI, 400, .inl (nf F))) :: (pr cI ar (fu (ldM F M) M (F 1)) ++ (pq cI ac (fu (ldC F M C) C (F 1)) ++ R))))) 0 0 (va_A ((t_, .inr (3, [.int (nI K), .ref rk_, .ref ro_, .ref rc_, .ref al_, .int (nI n)])) :: (rk_, .inl (cI, 40, .inl (nf kn))) :: (ro_, .inl (cG, 40, .inr (.inr (.inr (.inr (og ar)))))) :: (rc_, .inl (cG, 40, .inr (.inr (.inr (.inr (og ac)))))) :: (al_, .inl (cI, 7, .inl (nf al))) :: (fd_, .inl (cI, 400, .inl (nf F))) :: (pr cI ar M ++ (pq cI ac C ++ R))) sz) := by
  refine gMet (cc := cX2_load) (maxL := 4) (ret := none) (ls0 := [(0, .ref t_), (1, .ref fd_)]) (by decide) rfl (Nat.le_of_ble_eq_true rfl) rfl ?_
  intro p e s m below meth c hx hb hr hts hown hlocks hml hname A hA hAe hsz Q hQe H locs hP hK hD hS ls hl
  have hown : s.vm.findClass RX2 = some m.cls := hown
  have in_X2 : ∀ w ∈ wsX20, w ∈ wsX2_load := by decide +kernel
  have f_30 := hts (.fieldLink RX2 30 "SpectrumHeads$Table" "count" "I") (by decide +kernel)
  refine lv_aload_n hx hb dX2_load_0 rfl (lv_at hl 0 rfl) ?_
  refine lv_bipush (v := 40) hx hb dX2_load_1 (by decide) ?_
  refine lv_aload_n hx hb dX2_load_3 rfl (lv_at hl 1 rfl) ?_
  refine lv_iconst (v := 1) hx hb dX2_load_4 (by decide) ?_
  refine va_iald hx hb hK hP (5) 0 rfl rfl (vp_in_nI (n := 1) (by omega) (by omega)) dX2_load_5 ?_
  refine lv_topi (fun x5 ex5 => ?_)
  obtain rfl : x5 = nI (F 1) := by exact ex5
  refine va_mmin hx hb (by rw [hml]; exact hl.1.symm) hown (hts (.methodLink RX2 63 Lib.Math.min.name) (by decide +kernel)) (hts (.static Lib.Math.min.name) (by decide +kernel)) (hts (.initialized "java/lang/Math") (by decide +kernel)) (hts (.code Lib.Math.min.name Lib.Math.min.code 2 (some .int)) (by decide +kernel)) (Nat.le_of_ble_eq_true rfl) (Nat.le_of_ble_eq_true rfl) (Nat.zero_le _) (Nat.zero_le _) dX2_load_6 ?_
  refine lv_topi (fun x6 ex6 => ?_)
  obtain rfl : x6 = nI (F 1) := by rw [ex6]; exact min40 hf1
  refine va_put (D := D) (ci := 3) (v := .int (nI (F 1))) (ty := .int) (C := RX2) (T := TX2) (N := 6) hx hb hts in_X2 tyX2 tyX2_ok nmX2 hown hK hP hD hS 0 rfl rfl 5 (by decide) f_30 (fun _ h9 => h9) rfl (by decide +kernel) rfl rfl (Nat.le_of_ble_eq_true rfl) dX2_load_9 (fun H locs hP hD hS => ?_)
  have hP : va_P D vwCl ((t_, .inr (3, [.int (nI K), .ref rk_, .ref ro_, .ref rc_, .ref al_, .int (nI (F 1))])) :: (rk_, .inl (cI, 40, .inl (nf kn))) :: (ro_, .inl (cG, 40, .inr (.inr (.inr (.inr (og ar)))))) :: (rc_, .inl (cG, 40, .inr (.inr (.inr (.inr (og ac)))))) :: (al_, .inl (cI, 7, .inl (nf al))) :: (fd_, .inl (cI, 400, .inl (nf F))) :: (pr cI ar M ++ (pq cI ac C ++ R))) H := hP
  have hD : va_D A ((t_, .inr (3, [.int (nI K), .ref rk_, .ref ro_, .ref rc_, .ref al_, .int (nI (F 1))])) :: (rk_, .inl (cI, 40, .inl (nf kn))) :: (ro_, .inl (cG, 40, .inr (.inr (.inr (.inr (og ar)))))) :: (rc_, .inl (cG, 40, .inr (.inr (.inr (.inr (og ac)))))) :: (al_, .inl (cI, 7, .inl (nf al))) :: (fd_, .inl (cI, 400, .inl (nf F))) :: (pr cI ar M ++ (pq cI ac C ++ R))) := hD
  rw [← fu_0 (g := ldK F) (f := kn), ← fu_0 (g := ldC F M C) (f := C), ← fu_0 (g := ldM F M) (f := M)] at hP hD
  refine lv_iconst (v := 0) hx hb dX2_load_12 (by decide) ?_
  refine lv_istore_n (lv' := [(2, .int 0), (0, .ref t_), (1, .ref fd_)]) hx hb dX2_load_13 rfl hl (by decide) rfl (fun ls hl => ?_)
  have L_14 : ∀ (n_14 : Nat) (i : Nat) (hi : i ≤ F 1), F 1 - i < n_14 → ∀ (H : Heap) (locs : List Loc) (ls : Array Slot), va_P D vwCl ((t_, .inr (3, [.int (nI K), .ref rk_, .ref ro_, .ref rc_, .ref al_, .int (nI (F 1))])) :: (rk_, .inl (cI, 40, .inl (nf (fu (ldK F) kn i)))) :: (ro_, .inl (cG, 40, .inr (.inr (.inr (.inr (og ar)))))) :: (rc_, .inl (cG, 40, .inr (.inr (.inr (.inr (og ac)))))) :: (al_, .inl (cI, 7, .inl (nf al))) :: (fd_, .inl (cI, 400, .inl (nf F))) :: (pr cI ar (fu (ldM F M) M i) ++ (pq cI ac (fu (ldC F M C) C i) ++ R))) H → va_D A ((t_, .inr (3, [.int (nI K), .ref rk_, .ref ro_, .ref rc_, .ref al_, .int (nI (F 1))])) :: (rk_, .inl (cI, 40, .inl (nf (fu (ldK F) kn i)))) :: (ro_, .inl (cG, 40, .inr (.inr (.inr (.inr (og ar)))))) :: (rc_, .inl (cG, 40, .inr (.inr (.inr (.inr (og ac)))))) :: (al_, .inl (cI, 7, .inl (nf al))) :: (fd_, .inl (cI, 400, .inl (nf F))) :: (pr cI ar (fu (ldM F M) M i) ++ (pq cI ac (fu (ldC F M C) C i) ++ R))) → va_S A s.heap H locs → lv_has ls 4 [(2, .int (nI i)), (0, .ref t_), (1, .ref fd_)] → W p l e (headSpec wsX2_load rX2_load).room s m ([.ref t_, .ref fd_] : List Value).toArray below meth c H locs 0 0 Q (F0 m 14 ls []) := by
    intro n_14
    induction n_14 with
    | zero => intro i hi hn_; exact absurd hn_ (Nat.not_lt_zero _)
    | succ n_14 ih_14 =>
      intro i hi hn_14 H locs ls hP hD hS hl
      refine lv_iload_n hx hb dX2_load_14 rfl (lv_at hl 0 rfl) ?_
      refine lv_aload_n hx hb dX2_load_15 rfl (lv_at hl 1 rfl) ?_
      refine va_get (D := D) (ci := 3) (v := .int (nI (F 1))) (C := RX2) (T := TX2) (N := 6) hx hb hts in_X2 hown hK hP 0 rfl rfl 5 (by decide) f_30 (fun _ h9 => h9) rfl dX2_load_16 ?_
      refine lv_icmp_ge (tgt := 47) hx hb dX2_load_19 (by decide) (fun c19 => ?_) (fun c19 => ?_)
      · skip
        have hE19 := lp_e (n := (F 1)) c19 hi
        subst hE19
        subst hQe
        subst hAe
        subst hsz
        exact g_vret hx hb hr hlocks () trivial hP hK hD hS dX2_load_47
      · skip
        have hi8 := lp_l (n := (F 1)) c19 hi
        refine lv_iconst (v := 2) hx hb dX2_load_22 (by decide) ?_
        refine lv_bipush (v := 9) hx hb dX2_load_23 (by decide) ?_
        refine lv_iload_n hx hb dX2_load_25 rfl (lv_at hl 0 rfl) ?_
        refine lv_imul hx hb dX2_load_26 ?_
        refine lv_topi (fun x26 ex26 => ?_)
        obtain rfl : x26 = nI (9 * i) := by rw [ex26]; exact pk_mul 9 _
        refine lv_iadd hx hb dX2_load_27 ?_
        refine lv_topi (fun x27 ex27 => ?_)
        obtain rfl : x27 = nI (2 + 9 * i) := by rw [ex27]; exact nI_add 2 _
        refine lv_istore_n (lv' := [(3, .int (nI (2 + 9 * i))), (2, .int (nI i)), (0, .ref t_), (1, .ref fd_)]) hx hb dX2_load_28 rfl hl (by decide) rfl (fun ls hl => ?_)
        refine lv_aload_n hx hb dX2_load_29 rfl (lv_at hl 2 rfl) ?_
        refine lv_iload_n hx hb dX2_load_30 rfl (lv_at hl 1 rfl) ?_
        refine lv_aload_n hx hb dX2_load_31 rfl (lv_at hl 3 rfl) ?_
        refine lv_iload_n hx hb dX2_load_32 rfl (lv_at hl 0 rfl) ?_
        refine va_iald hx hb hK hP (5) 0 rfl rfl (by first | exact vp_in_nI (by omega) (by omega) | assumption) dX2_load_33 ?_
        refine lv_topi (fun x33 ex33 => ?_)
        rw [nI_clamp (by omega)] at ex33
        obtain rfl : x33 = nI (F (2 + 9 * i)) := by exact ex33
        refine lv_aload_n hx hb dX2_load_34 rfl (lv_at hl 3 rfl) ?_
        refine lv_iload_n hx hb dX2_load_35 rfl (lv_at hl 0 rfl) ?_
        refine lv_iconst (v := 1) hx hb dX2_load_36 (by decide) ?_
        refine lv_iadd hx hb dX2_load_37 ?_
        refine lv_topi (fun x37 ex37 => ?_)
        obtain rfl : x37 = nI (2 + 9 * i + 1) := by rw [ex37]; exact nI_1 _
        refine gc_Vv (As := [.int (nI i), .int (nI (F (2 + 9 * i))), .ref fd_, .int (nI (2 + 9 * i + 1))]) (rest := []) (ci := 3) (q0 := 0) ⟨hx, hb, hml, hown, hts⟩ (c_X2_put l D cI cJ cG H.size R t_ rk_ ro_ rc_ al_ ar ac K (F 1) (fu (ldK F) kn i) (fu (ldM F M) M i) (fu (ldC F M C) C i) al fd_ 400 F i (F (2 + 9 * i)) (2 + 9 * i + 1) (by omega) (by omega) (by omega) (ldM_le hF hM i i) hF) (cwV 4 hts gX2_load_X2_put rfl rfl rfl (by decide +kernel) ⟨Nat.le_of_ble_eq_true rfl, Nat.le_of_ble_eq_true rfl⟩) rfl rfl rfl hK hP hD hS hA rfl hl.1 rfl (Nat.le_of_ble_eq_true rfl) dX2_load_38 ⟨Nat.le_of_ble_eq_true rfl, Nat.le_of_ble_eq_true rfl⟩ (fun u38 H locs h38 hP hD hS => ?_)
        have hP : va_P D vwCl ((t_, .inr (3, [.int (nI K), .ref rk_, .ref ro_, .ref rc_, .ref al_, .int (nI (F 1))])) :: (rk_, .inl (cI, 40, .inl (nf (un (fu (ldK F) kn i) i (F (2 + 9 * i)))))) :: (ro_, .inl (cG, 40, .inr (.inr (.inr (.inr (og ar)))))) :: (rc_, .inl (cG, 40, .inr (.inr (.inr (.inr (og ac)))))) :: (al_, .inl (cI, 7, .inl (nf al))) :: (fd_, .inl (cI, 400, .inl (nf F))) :: (pr cI ar (un (fu (ldM F M) M i) i (fu (fun k => F (2 + 9 * i + 1 + k)) (fu (ldM F M) M i i) 8)) ++ (pq cI ac (un (fu (ldC F M C) C i) i (fu (ceN (fu (fun k => F (2 + 9 * i + 1 + k)) (fu (ldM F M) M i i) 8)) (fu (ldC F M C) C i i) 7)) ++ R))) H := hP
        have hD : va_D A ((t_, .inr (3, [.int (nI K), .ref rk_, .ref ro_, .ref rc_, .ref al_, .int (nI (F 1))])) :: (rk_, .inl (cI, 40, .inl (nf (un (fu (ldK F) kn i) i (F (2 + 9 * i)))))) :: (ro_, .inl (cG, 40, .inr (.inr (.inr (.inr (og ar)))))) :: (rc_, .inl (cG, 40, .inr (.inr (.inr (.inr (og ac)))))) :: (al_, .inl (cI, 7, .inl (nf al))) :: (fd_, .inl (cI, 400, .inl (nf F))) :: (pr cI ar (un (fu (ldM F M) M i) i (fu (fun k => F (2 + 9 * i + 1 + k)) (fu (ldM F M) M i i) 8)) ++ (pq cI ac (un (fu (ldC F M C) C i) i (fu (ceN (fu (fun k => F (2 + 9 * i + 1 + k)) (fu (ldM F M) M i i) 8)) (fu (ldC F M C) C i i) 7)) ++ R))) := hD
        rw [show un (fu (ldK F) kn i) i (F (2 + 9 * i)) = fu (ldK F) kn (i + 1) from fu_s (g := ldK F), ldM_s, ldC_s] at hP hD
        have hP : va_P D vwCl ((t_, .inr (3, [.int (nI K), .ref rk_, .ref ro_, .ref rc_, .ref al_, .int (nI (F 1))])) :: (rk_, .inl (cI, 40, .inl (nf (fu (ldK F) kn (i + 1))))) :: (ro_, .inl (cG, 40, .inr (.inr (.inr (.inr (og ar)))))) :: (rc_, .inl (cG, 40, .inr (.inr (.inr (.inr (og ac)))))) :: (al_, .inl (cI, 7, .inl (nf al))) :: (fd_, .inl (cI, 400, .inl (nf F))) :: (pr cI ar (fu (ldM F M) M (i + 1)) ++ (pq cI ac (fu (ldC F M C) C (i + 1)) ++ R))) H := hP
        have hD : va_D A ((t_, .inr (3, [.int (nI K), .ref rk_, .ref ro_, .ref rc_, .ref al_, .int (nI (F 1))])) :: (rk_, .inl (cI, 40, .inl (nf (fu (ldK F) kn (i + 1))))) :: (ro_, .inl (cG, 40, .inr (.inr (.inr (.inr (og ar)))))) :: (rc_, .inl (cG, 40, .inr (.inr (.inr (.inr (og ac)))))) :: (al_, .inl (cI, 7, .inl (nf al))) :: (fd_, .inl (cI, 400, .inl (nf F))) :: (pr cI ar (fu (ldM F M) M (i + 1)) ++ (pq cI ac (fu (ldC F M C) C (i + 1)) ++ R))) := hD
        obtain ⟨x41, ex41⟩ : ∃ y : Int32, y = (nI i) + 1 := ⟨_, rfl⟩
        refine lv_iinc (v := x41) (lv' := [(2, .int x41), (3, .int (nI (2 + 9 * i))), (0, .ref t_), (1, .ref fd_)]) hx hb dX2_load_41 hl (k := 1) rfl (by rw [ex41]; rfl) (by decide) rfl (fun ls hl => ?_)
        obtain rfl : x41 = nI (i + 1) := by rw [ex41]; exact nI_1 _
        refine lv_goto (tgt := 14) hx hb dX2_load_44 (by decide) ?_
        exact ih_14 (i + 1) (by omega) (by omega) H locs ls hP hD hS (lv_sub hl [0, 2, 3] rfl)
  exact L_14 _ 0 (Nat.zero_le _) (Nat.lt_succ_self _) H locs ls hP hD hS (lv_sub hl [0, 1, 2] rfl)
end
section
/-! BELT, pure: places, labels (0: none, else the piece's number and 1), kinds (0: untold, 1: unknown, else the kind and 2) -/
def k2 (kd : Nat → Nat) : Nat → Int32 := fun p => nI (kd p) - 2
def l1 (lb : Nat → Nat) : Nat → Int32 := fun p => nI (lb p) - 1
theorem k2_neg {a : Nat} (h : a < 2 ^ 30) : nI a - 2 < 0 ↔ a < 2 := by
  rw [Int32.lt_iff_toInt_lt, show (2 : Int32) = nI 2 from rfl, pk_sub_toInt h (by omega), Int32.toInt_zero]; omega
theorem k2_eq {a b : Nat} (ha : a < 2 ^ 30) (hb : b < 2 ^ 30) : nI a - 2 = nI b ↔ a = b + 2 := by
  rw [← Int32.toInt_inj, show (2 : Int32) = nI 2 from rfl, pk_sub_toInt ha (by omega), nI_toInt (by omega)]; omega
theorem k2_un {a : Nat} (ha : a < 2 ^ 30) : nI a - 2 = -2 ↔ a = 0 := by
  rw [← Int32.toInt_inj, show (-2 : Int32).toInt = -2 from by decide, show (2 : Int32) = nI 2 from rfl, pk_sub_toInt ha (by omega)]; omega
theorem k2_none {a : Nat} (ha : a < 2 ^ 30) : nI a - 2 = -1 ↔ a = 1 := by
  rw [← Int32.toInt_inj, show (2 : Int32) = nI 2 from rfl, pk_sub_toInt ha (by omega), show (-1 : Int32).toInt = -1 from by decide]; omega
theorem l1_none {a : Nat} (ha : a < 2 ^ 30) : nI a - 1 = -1 ↔ a = 0 := by
  rw [← Int32.toInt_inj, show (-1 : Int32).toInt = -1 from by decide, show (1 : Int32) = nI 1 from rfl, pk_sub_toInt ha (by omega)]; omega
theorem l1_neg {a : Nat} (ha : a < 2 ^ 30) : nI a - 1 < 0 ↔ a = 0 := by
  rw [Int32.lt_iff_toInt_lt, show (1 : Int32) = nI 1 from rfl, pk_sub_toInt ha (by omega), Int32.toInt_zero]; omega
theorem l1_eq {a b : Nat} (ha : a < 2 ^ 30) (hb : b < 2 ^ 30) : nI a - 1 = nI b ↔ a = b + 1 := by
  rw [← Int32.toInt_inj, show (1 : Int32) = nI 1 from rfl, pk_sub_toInt ha (by omega), nI_toInt (by omega)]; omega
theorem add_sub1 (a : Nat) : nI (a + 1) - 1 = nI a := by rw [← nI_1, Int32.add_sub_cancel]
theorem add_sub2 (a : Nat) : nI (a + 2) - 2 = nI a := by
  rw [show nI (a + 2) = nI a + 2 from (nI_add a 2).symm, Int32.add_sub_cancel]
theorem l1_upd (lb : Nat → Nat) (p a : Nat) : upd (l1 lb) p (nI a) = l1 (un lb p (a + 1)) := by
  funext j
  by_cases h : j = p
  · simp [upd, l1, un, h, add_sub1]
  · simp [upd, l1, un, h]
theorem k2_upd (kd : Nat → Nat) (p v : Nat) : upd (k2 kd) p (nI v - 2) = k2 (un kd p v) := by
  funext j
  by_cases h : j = p
  · simp [upd, k2, un, h]
  · simp [upd, k2, un, h]
theorem l1_fill (lb : Nat → Nat) : fu (fun _ => (-1 : Int32)) (l1 lb) 256 = l1 (fu (fun _ => 0) lb 256) := by
  funext j
  show (if j < 256 then (-1 : Int32) else nI (lb j) - 1) = nI (if j < 256 then 0 else lb j) - 1
  split <;> rfl
/-- a place by its coordinates -/
def plc (x y : Int32) : Nat := 16 * y.toNatClampNeg + x.toNatClampNeg
theorem plc_nI {a b : Nat} (ha : a < 16) (hb : b < 16) : plc (nI a) (nI b) = 16 * b + a := by
  unfold plc; rw [nI_clamp (by omega), nI_clamp (by omega)]
theorem isPl {x y : Int32} (h : (inB x 16 && inB y 16) = true) : ∃ a b, a < 16 ∧ b < 16 ∧ x = nI a ∧ y = nI b := by
  rw [Bool.and_eq_true] at h
  obtain ⟨a, ha, rfl⟩ := inB_of h.1 (by omega)
  obtain ⟨b, hb, rfl⟩ := inB_of h.2 (by omega)
  exact ⟨a, b, ha, hb, rfl, rfl⟩
theorem isPl_t {a b : Nat} (ha : a < 16) (hb : b < 16) : (inB (nI a) 16 && inB (nI b) 16) = true := by
  rw [inB_nI ha (by omega), inB_nI hb (by omega)]; rfl
/-- labels, the list of those joined, and how many -/
abbrev Bst : Type := (Nat → Nat) × (Nat → Nat) × Nat
def joinS (kd : Nat → Nat) (v : Nat) (x y : Int32) (t : Bst) : Bst :=
  if (inB x 16 && inB y 16) = true ∧ t.2.2 < 100 ∧ 2 ≤ kd (plc x y) ∧ t.1 (plc x y) = 0 then (un t.1 (plc x y) v, un t.2.1 t.2.2 (plc x y), t.2.2 + 1) else t
/-- what stays small -/
def Bok (t : Bst) : Prop := (∀ p, t.1 p ≤ 256) ∧ (∀ k, t.2.1 k < 256) ∧ t.2.2 ≤ 100
theorem plc_lt {x y : Int32} (h : (inB x 16 && inB y 16) = true) : plc x y < 256 := by
  obtain ⟨a, b, ha, hb, rfl, rfl⟩ := isPl h
  rw [plc_nI ha hb]; omega
theorem joinS_ok {kd : Nat → Nat} {v : Nat} {x y : Int32} {t : Bst} (hv : v ≤ 256) (h : Bok t) : Bok (joinS kd v x y t) := by
  unfold joinS
  split
  · rename_i hc
    refine ⟨un_le h.1 hv, fun k => ?_, ?_⟩
    · show un t.2.1 t.2.2 (plc x y) k < 256
      unfold un; split
      · exact plc_lt hc.1
      · exact h.2.1 k
    · show t.2.2 + 1 ≤ 100
      omega
  · exact h
def four (kd : Nat → Nat) (v : Nat) (X Y : Int32) (t : Bst) : Bst := joinS kd v X (Y + 1) (joinS kd v (X + 1) Y (joinS kd v (X - 1) Y (joinS kd v X (Y - 1) t)))
theorem four_ok {kd : Nat → Nat} {v : Nat} {X Y : Int32} {t : Bst} (hv : v ≤ 256) (h : Bok t) : Bok (four kd v X Y t) := joinS_ok hv (joinS_ok hv (joinS_ok hv (joinS_ok hv h)))
def bfs (kd : Nat → Nat) (v : Nat) : Nat → Nat → Bst → Bst
  | 0, _, t => t
  | n + 1, i, t => if i < t.2.2 then bfs kd v n (i + 1) (four kd v (nI (t.2.1 i % 16)) (nI (t.2.1 i / 16)) t) else t
theorem bfs_ok {kd : Nat → Nat} {v : Nat} (hv : v ≤ 256) : ∀ (n i : Nat) (t : Bst), Bok t → Bok (bfs kd v n i t)
  | 0, _, _, h => h
  | n + 1, i, t, h => by
    unfold bfs
    split
    · exact bfs_ok hv n (i + 1) _ (four_ok hv h)
    · exact h
theorem bfs_end {kd : Nat → Nat} {v n i : Nat} {t : Bst} (h : ¬ i < t.2.2) : bfs kd v n i t = t := by
  cases n with
  | zero => rfl
  | succ n => unfold bfs; rw [if_neg h]
theorem bfs_step {kd : Nat → Nat} {v i : Nat} {t : Bst} (hi : i < 100) (h : i < t.2.2) : bfs kd v (100 - i) i t = bfs kd v (100 - (i + 1)) (i + 1) (four kd v (nI (t.2.1 i % 16)) (nI (t.2.1 i / 16)) t) := by
  rw [show 100 - i = (100 - (i + 1)) + 1 by omega]
  conv => lhs; unfold bfs
  rw [if_pos h]
def joinF (kd : Nat → Nat) (v f : Nat) (t : Bst) : Bst := bfs kd v 100 0 (joinS kd v (nI (f % 16)) (nI (f / 16)) (t.1, t.2.1, 0))
theorem joinF_ok {kd : Nat → Nat} {v f : Nat} {t : Bst} (hv : v ≤ 256) (h : Bok t) : Bok (joinF kd v f t) := bfs_ok hv _ _ _ (joinS_ok hv ⟨h.1, h.2.1, by show 0 ≤ 100; omega⟩)
/-- all places up to i: the labels, and how many pieces -/
def numL (kd : Nat → Nat) (t0 : Bst) : Nat → Bst × Nat
  | 0 => (t0, 0)
  | i + 1 => if 2 ≤ kd i ∧ (numL kd t0 i).1.1 i = 0 then (joinF kd ((numL kd t0 i).2 + 1) i (numL kd t0 i).1, (numL kd t0 i).2 + 1) else numL kd t0 i
theorem numL_le (kd : Nat → Nat) (t0 : Bst) : ∀ i, (numL kd t0 i).2 ≤ i
  | 0 => Nat.le_refl _
  | i + 1 => by
    have := numL_le kd t0 i
    unfold numL
    split
    · show _ + 1 ≤ _; omega
    · omega
theorem numL_ok {kd : Nat → Nat} {t0 : Bst} (h : Bok t0) : ∀ i, i ≤ 256 → Bok (numL kd t0 i).1
  | 0, _ => h
  | i + 1, hi => by
    have h1 := numL_ok (kd := kd) h i (by omega)
    have h2 := numL_le kd t0 i
    unfold numL
    split
    · exact joinF_ok (by omega) h1
    · exact h1
theorem numL_s {kd : Nat → Nat} {t0 : Bst} {i : Nat} (h1 : 2 ≤ kd i) (h2 : (numL kd t0 i).1.1 i = 0) : numL kd t0 (i + 1) = (joinF kd ((numL kd t0 i).2 + 1) i (numL kd t0 i).1, (numL kd t0 i).2 + 1) := by
  conv => lhs; unfold numL
  rw [if_pos ⟨h1, h2⟩]
theorem numL_n {kd : Nat → Nat} {t0 : Bst} {i : Nat} (h : ¬ (2 ≤ kd i ∧ (numL kd t0 i).1.1 i = 0)) : numL kd t0 i = numL kd t0 (i + 1) := by
  conv => rhs; unfold numL
  rw [if_neg h]
def clr (t : Bst) : Bst := (fu (fun _ => 0) t.1 256, t.2.1, t.2.2)
theorem clr_ok {t : Bst} (h : Bok t) : Bok (clr t) := ⟨fun p => by show (if p < 256 then 0 else t.1 p) ≤ 256; split; omega; exact h.1 p, h.2.1, h.2.2⟩
/-- the piece at a place, as told -/
def paN (lb : Nat → Nat) (x y : Int32) : Int32 := if (inB x 16 && inB y 16) = true then nI (lb (plc x y)) - 1 else -1
/-- pieces met -/
def metS (lb : Nat → Nat) (x y : Int32) (me : Nat → Nat) : Nat → Nat := if inB (paN lb x y) 100 = true then un me (paN lb x y).toNatClampNeg 1 else me
def metJ (lb : Nat → Nat) (X Y : Int32) : Nat → (Nat → Nat) → (Nat → Nat)
  | 0, me => me
  | j + 1, me => metS lb (X + (nI j - 1)) Y (metJ lb X Y j me)
def metI (lb : Nat → Nat) (X Y : Int32) : Nat → (Nat → Nat) → (Nat → Nat)
  | 0, me => me
  | i + 1, me => metJ lb X (Y + (nI i - 1)) 3 (metI lb X Y i me)
def metP (lb : Nat → Nat) (q : Nat) (me : Nat → Nat) : Nat → (Nat → Nat)
  | 0 => me
  | p + 1 => if lb p = q + 1 then metI lb (nI (p % 16)) (nI (p / 16)) 3 (metP lb q me p) else metP lb q me p
/-- the number of neighbours -/
def nbN (lb : Nat → Nat) (q : Nat) (me : Nat → Nat) (n : Nat) : Nat := sumN (fun o => if o = q then 0 else metP lb q me 256 o) n
/-- pixels of a kind in a piece -/
def inP (lb kd : Nat → Nat) (q k : Nat) : Nat → Bool := fun p => decide (lb p = q + 1) && decide (kd p = k + 2)
theorem j1_gt {j : Nat} (h : j < 2 ^ 30) : (1 : Int32) < nI j - 1 ↔ 2 < j := by
  rw [Int32.lt_iff_toInt_lt, show (1 : Int32) = nI 1 from rfl, pk_sub_toInt h (by omega), nI_toInt (by omega)]; omega
end
section
abbrev rX0_isFree : Room := { frames := 1, cells := 0, slots := 0, locals := 21 }
set_option maxHeartbeats 4000000 in
set_option maxRecDepth 100000 in
theorem c_X0_isFree (l : Launch) (D : va_G) (cI cJ cG : ClassId) (sz : Nat) (R : va_W) (b_ ka_ na_ jo_ me_ : Nat) (kd me : Nat → Nat) (px pcs : Nat) (bt : Bst) (x y : Int32) (hkd : ∀ p, kd p ≤ 6) (hpx : px ≤ 100) : Met l yX0_isFree wsX0_isFree rX0_isFree (gP D (tyl cI cJ cG) [.ref b_, .int x, .int y] ((b_, .inr (1, [.ref ka_, .ref na_, .ref jo_, .ref me_, .int (nI bt.2.2), .int (nI px), .int (nI pcs)])) :: (ka_, .inl (cI, 256, .inl (k2 kd))) :: (na_, .inl (cI, 256, .inl (l1 bt.1))) :: (jo_, .inl (cI, 100, .inl (nf bt.2.1))) :: (me_, .inl (cI, 100, .inl (nf me))) :: R) sz) (gQi D (tyl cI cJ cG) ((b_, .inr (1, [.ref ka_, .ref na_, .ref jo_, .ref me_, .int (nI bt.2.2), .int (nI px), .int (nI pcs)])) :: (ka_, .inl (cI, 256, .inl (k2 kd))) :: (na_, .inl (cI, 256, .inl (l1 bt.1))) :: (jo_, .inl (cI, 100, .inl (nf bt.2.1))) :: (me_, .inl (cI, 100, .inl (nf me))) :: R) sz (fun r (_ : Unit) => r = bI ((inB x 16 && inB y 16) && decide (px < 100) && decide (kd (plc x y) = 0))) (fun _ => ((b_, .inr (1, [.ref ka_, .ref na_, .ref jo_, .ref me_, .int (nI bt.2.2), .int (nI px), .int (nI pcs)])) :: (ka_, .inl (cI, 256, .inl (k2 kd))) :: (na_, .inl (cI, 256, .inl (l1 bt.1))) :: (jo_, .inl (cI, 100, .inl (nf bt.2.1))) :: (me_, .inl (cI, 100, .inl (nf me))) :: R))) 0 0 (va_A ((b_, .inr (1, [.ref ka_, .ref na_, .ref jo_, .ref me_, .int (nI bt.2.2), .int (nI px), .int (nI pcs)])) :: (ka_, .inl (cI, 256, .inl (k2 kd))) :: (na_, .inl (cI, 256, .inl (l1 bt.1))) :: (jo_, .inl (cI, 100, .inl (nf bt.2.1))) :: (me_, .inl (cI, 100, .inl (nf me))) :: R) sz) := by
  refine gMet (cc := cX0_isFree) (maxL := 3) (ret := (some .boolean)) (ls0 := [(0, .ref b_), (1, .int x), (2, .int y)]) (by decide) rfl (Nat.le_of_ble_eq_true rfl) rfl ?_
  intro p e s m below meth c hx hb hr hts hown hlocks hml hname A hA hAe hsz Q hQe H locs hP hK hD hS ls hl
  have hown : s.vm.findClass RX0 = some m.cls := hown
  have in_X0 : ∀ w ∈ wsX00, w ∈ wsX0_isFree := by decide +kernel
  have f_34 := hts (.fieldLink RX0 34 "SpectrumHeads$Belt" "pixels" "I") (by decide +kernel)
  have f_11 := hts (.fieldLink RX0 11 "SpectrumHeads$Belt" "kindAt" "[I") (by decide +kernel)
  refine lv_iload_n hx hb dX0_isFree_0 rfl (lv_at hl 1 rfl) ?_
  refine lv_iload_n hx hb dX0_isFree_1 rfl (lv_at hl 2 rfl) ?_
  refine gc_Si (As := [.int x, .int y]) (rest := []) ⟨hx, hb, hml, hown, hts⟩ (c_X0_isPlace l D cI cJ cG H.size ((b_, .inr (1, [.ref ka_, .ref na_, .ref jo_, .ref me_, .int (nI bt.2.2), .int (nI px), .int (nI pcs)])) :: (ka_, .inl (cI, 256, .inl (k2 kd))) :: (na_, .inl (cI, 256, .inl (l1 bt.1))) :: (jo_, .inl (cI, 100, .inl (nf bt.2.1))) :: (me_, .inl (cI, 100, .inl (nf me))) :: R) x y) (va_cwS 2 hts gX0_isFree_X0_isPlace rfl rfl rfl (by decide +kernel) ⟨Nat.le_of_ble_eq_true rfl, Nat.le_of_ble_eq_true rfl⟩) hK hP hD hS hA rfl hl.1 rfl (Nat.le_of_ble_eq_true rfl) dX0_isFree_2 ⟨Nat.le_of_ble_eq_true rfl, Nat.le_of_ble_eq_true rfl⟩ (fun r2 u2 H locs h2 hP hD hS => ?_)
  subst h2
  have hP : va_P D vwCl ((b_, .inr (1, [.ref ka_, .ref na_, .ref jo_, .ref me_, .int (nI bt.2.2), .int (nI px), .int (nI pcs)])) :: (ka_, .inl (cI, 256, .inl (k2 kd))) :: (na_, .inl (cI, 256, .inl (l1 bt.1))) :: (jo_, .inl (cI, 100, .inl (nf bt.2.1))) :: (me_, .inl (cI, 100, .inl (nf me))) :: R) H := hP
  have hD : va_D A ((b_, .inr (1, [.ref ka_, .ref na_, .ref jo_, .ref me_, .int (nI bt.2.2), .int (nI px), .int (nI pcs)])) :: (ka_, .inl (cI, 256, .inl (k2 kd))) :: (na_, .inl (cI, 256, .inl (l1 bt.1))) :: (jo_, .inl (cI, 100, .inl (nf bt.2.1))) :: (me_, .inl (cI, 100, .inl (nf me))) :: R) := hD
  refine lv_if_eq (tgt := 37) hx hb dX0_isFree_5 (by decide) (fun c5 => ?_) (fun c5 => ?_)
  · skip
    have hpl := bI_0.mp c5
    refine lv_iconst (v := 0) hx hb dX0_isFree_37 (by decide) ?_
    subst hQe
    subst hAe
    subst hsz
    exact g_zret hx hb hr hlocks rfl () (by first | (rw [hpl]; rfl) | (rw [isPl_t ha hb_, plc_nI ha hb_, decide_eq_true hp1, decide_eq_true hz]; rfl) | (rw [isPl_t ha hb_, plc_nI ha hb_, decide_eq_false hz, Bool.and_false]; rfl) | (rw [isPl_t ha hb_, decide_eq_false hp1]; rfl)) hP hK hD hS dX0_isFree_38
  · skip
    have hpl := bI_n0.mp c5
    obtain ⟨a, b, ha, hb_, rfl, rfl⟩ := isPl hpl
    refine lv_aload_n hx hb dX0_isFree_8 rfl (lv_at hl 0 rfl) ?_
    refine va_get (D := D) (ci := 1) (v := .int (nI px)) (C := RX0) (T := TX0) (N := 7) hx hb hts in_X0 hown hK hP 0 rfl rfl 5 (by decide) f_34 (fun _ h9 => h9) rfl dX0_isFree_9 ?_
    refine lv_bipush (v := 100) hx hb dX0_isFree_12 (by decide) ?_
    refine lv_icmp_ge (tgt := 37) hx hb dX0_isFree_14 (by decide) (fun c14 => ?_) (fun c14 => ?_)
    · skip
      have hp1 : ¬ px < 100 := by have := (nI_leI (a := 100) (by omega) (by omega)).mp c14; omega
      refine lv_iconst (v := 0) hx hb dX0_isFree_37 (by decide) ?_
      subst hQe
      subst hAe
      subst hsz
      exact g_zret hx hb hr hlocks rfl () (by first | (rw [hpl]; rfl) | (rw [isPl_t ha hb_, plc_nI ha hb_, decide_eq_true hp1, decide_eq_true hz]; rfl) | (rw [isPl_t ha hb_, plc_nI ha hb_, decide_eq_false hz, Bool.and_false]; rfl) | (rw [isPl_t ha hb_, decide_eq_false hp1]; rfl)) hP hK hD hS dX0_isFree_38
    · skip
      have hp1 : px < 100 := by have := mt (nI_leI (a := 100) (b := px) (by omega) (by omega)).mpr c14; omega
      have hk6 := hkd (16 * b + a)
      refine lv_aload_n hx hb dX0_isFree_17 rfl (lv_at hl 0 rfl) ?_
      refine va_get (D := D) (ci := 1) (v := .ref ka_) (C := RX0) (T := TX0) (N := 7) hx hb hts in_X0 hown hK hP 0 rfl rfl 0 (by decide) f_11 (fun _ h9 => h9) rfl dX0_isFree_18 ?_
      refine lv_bipush (v := 16) hx hb dX0_isFree_21 (by decide) ?_
      refine lv_iload_n hx hb dX0_isFree_23 rfl (lv_at hl 2 rfl) ?_
      refine lv_imul hx hb dX0_isFree_24 ?_
      refine lv_topi (fun x24 ex24 => ?_)
      obtain rfl : x24 = nI (16 * b) := by rw [ex24]; exact pk_mul 16 _
      refine lv_iload_n hx hb dX0_isFree_25 rfl (lv_at hl 1 rfl) ?_
      refine lv_iadd hx hb dX0_isFree_26 ?_
      refine lv_topi (fun x26 ex26 => ?_)
      obtain rfl : x26 = nI (16 * b + a) := by rw [ex26]; exact nI_add _ _
      refine va_iald hx hb hK hP (1) 0 rfl rfl (by first | exact vp_in_nI (by omega) (by omega) | assumption) dX0_isFree_27 ?_
      refine lv_topi (fun x27 ex27 => ?_)
      rw [nI_clamp (by omega)] at ex27
      obtain rfl : x27 = nI (kd (16 * b + a)) - 2 := by exact ex27
      refine lv_bipush (v := -2) hx hb dX0_isFree_28 (by decide) ?_
      refine lv_icmp_ne (tgt := 37) hx hb dX0_isFree_30 (by decide) (fun c30 => ?_) (fun c30 => ?_)
      · skip
        have hz : ¬ kd (16 * b + a) = 0 := fun h => c30 ((k2_un (by omega)).mpr h)
        refine lv_iconst (v := 0) hx hb dX0_isFree_37 (by decide) ?_
        subst hQe
        subst hAe
        subst hsz
        exact g_zret hx hb hr hlocks rfl () (by first | (rw [hpl]; rfl) | (rw [isPl_t ha hb_, plc_nI ha hb_, decide_eq_true hp1, decide_eq_true hz]; rfl) | (rw [isPl_t ha hb_, plc_nI ha hb_, decide_eq_false hz, Bool.and_false]; rfl) | (rw [isPl_t ha hb_, decide_eq_false hp1]; rfl)) hP hK hD hS dX0_isFree_38
      · skip
        have hz : kd (16 * b + a) = 0 := (k2_un (by omega)).mp c30
        refine lv_iconst (v := 1) hx hb dX0_isFree_33 (by decide) ?_
        refine lv_goto (tgt := 38) hx hb dX0_isFree_34 (by decide) ?_
        subst hQe
        subst hAe
        subst hsz
        exact g_zret hx hb hr hlocks rfl () (by first | (rw [hpl]; rfl) | (rw [isPl_t ha hb_, plc_nI ha hb_, decide_eq_true hp1, decide_eq_true hz]; rfl) | (rw [isPl_t ha hb_, plc_nI ha hb_, decide_eq_false hz, Bool.and_false]; rfl) | (rw [isPl_t ha hb_, decide_eq_false hp1]; rfl)) hP hK hD hS dX0_isFree_38
abbrev rX0_hasPiece : Room := { frames := 0, cells := 0, slots := 0, locals := 0 }
set_option maxHeartbeats 4000000 in
set_option maxRecDepth 100000 in
theorem c_X0_hasPiece (l : Launch) (D : va_G) (cI cJ cG : ClassId) (sz : Nat) (R : va_W) (b_ ka_ na_ jo_ me_ : Nat) (kd me : Nat → Nat) (px pcs : Nat) (bt : Bst) (x : Int32) (hp : pcs ≤ 256) : Met l yX0_hasPiece wsX0_hasPiece rX0_hasPiece (gP D (tyl cI cJ cG) [.ref b_, .int x] ((b_, .inr (1, [.ref ka_, .ref na_, .ref jo_, .ref me_, .int (nI bt.2.2), .int (nI px), .int (nI pcs)])) :: (ka_, .inl (cI, 256, .inl (k2 kd))) :: (na_, .inl (cI, 256, .inl (l1 bt.1))) :: (jo_, .inl (cI, 100, .inl (nf bt.2.1))) :: (me_, .inl (cI, 100, .inl (nf me))) :: R) sz) (gQi D (tyl cI cJ cG) ((b_, .inr (1, [.ref ka_, .ref na_, .ref jo_, .ref me_, .int (nI bt.2.2), .int (nI px), .int (nI pcs)])) :: (ka_, .inl (cI, 256, .inl (k2 kd))) :: (na_, .inl (cI, 256, .inl (l1 bt.1))) :: (jo_, .inl (cI, 100, .inl (nf bt.2.1))) :: (me_, .inl (cI, 100, .inl (nf me))) :: R) sz (fun r (_ : Unit) => r = bI (inB x pcs)) (fun _ => ((b_, .inr (1, [.ref ka_, .ref na_, .ref jo_, .ref me_, .int (nI bt.2.2), .int (nI px), .int (nI pcs)])) :: (ka_, .inl (cI, 256, .inl (k2 kd))) :: (na_, .inl (cI, 256, .inl (l1 bt.1))) :: (jo_, .inl (cI, 100, .inl (nf bt.2.1))) :: (me_, .inl (cI, 100, .inl (nf me))) :: R))) 0 0 (va_A ((b_, .inr (1, [.ref ka_, .ref na_, .ref jo_, .ref me_, .int (nI bt.2.2), .int (nI px), .int (nI pcs)])) :: (ka_, .inl (cI, 256, .inl (k2 kd))) :: (na_, .inl (cI, 256, .inl (l1 bt.1))) :: (jo_, .inl (cI, 100, .inl (nf bt.2.1))) :: (me_, .inl (cI, 100, .inl (nf me))) :: R) sz) := by
  refine gMet (cc := cX0_hasPiece) (maxL := 2) (ret := (some .boolean)) (ls0 := [(0, .ref b_), (1, .int x)]) (by decide) rfl (Nat.le_of_ble_eq_true rfl) rfl ?_
  intro p e s m below meth c hx hb hr hts hown hlocks hml hname A hA hAe hsz Q hQe H locs hP hK hD hS ls hl
  have hown : s.vm.findClass RX0 = some m.cls := hown
  have in_X0 : ∀ w ∈ wsX00, w ∈ wsX0_hasPiece := by decide +kernel
  have f_37 := hts (.fieldLink RX0 37 "SpectrumHeads$Belt" "pieces" "I") (by decide +kernel)
  refine lv_iload_n hx hb dX0_hasPiece_0 rfl (lv_at hl 1 rfl) ?_
  refine lv_if_lt (tgt := 16) hx hb dX0_hasPiece_1 (by decide) (fun c1 => ?_) (fun c1 => ?_)
  · skip
    refine lv_iconst (v := 0) hx hb dX0_hasPiece_16 (by decide) ?_
    subst hQe
    subst hAe
    subst hsz
    exact g_zret hx hb hr hlocks rfl () (by first | (rw [inB_f1 c1]; rfl) | (rw [inB_f2 (n := pcs) (by omega) c9]; rfl) | (rw [inB_t (n := pcs) (by omega) c1 c9]; rfl)) hP hK hD hS dX0_hasPiece_17
  · skip
    refine lv_iload_n hx hb dX0_hasPiece_4 rfl (lv_at hl 1 rfl) ?_
    refine lv_aload_n hx hb dX0_hasPiece_5 rfl (lv_at hl 0 rfl) ?_
    refine va_get (D := D) (ci := 1) (v := .int (nI pcs)) (C := RX0) (T := TX0) (N := 7) hx hb hts in_X0 hown hK hP 0 rfl rfl 6 (by decide) f_37 (fun _ h9 => h9) rfl dX0_hasPiece_6 ?_
    refine lv_icmp_ge (tgt := 16) hx hb dX0_hasPiece_9 (by decide) (fun c9 => ?_) (fun c9 => ?_)
    · skip
      refine lv_iconst (v := 0) hx hb dX0_hasPiece_16 (by decide) ?_
      subst hQe
      subst hAe
      subst hsz
      exact g_zret hx hb hr hlocks rfl () (by first | (rw [inB_f1 c1]; rfl) | (rw [inB_f2 (n := pcs) (by omega) c9]; rfl) | (rw [inB_t (n := pcs) (by omega) c1 c9]; rfl)) hP hK hD hS dX0_hasPiece_17
    · skip
      refine lv_iconst (v := 1) hx hb dX0_hasPiece_12 (by decide) ?_
      refine lv_goto (tgt := 17) hx hb dX0_hasPiece_13 (by decide) ?_
      subst hQe
      subst hAe
      subst hsz
      exact g_zret hx hb hr hlocks rfl () (by first | (rw [inB_f1 c1]; rfl) | (rw [inB_f2 (n := pcs) (by omega) c9]; rfl) | (rw [inB_t (n := pcs) (by omega) c1 c9]; rfl)) hP hK hD hS dX0_hasPiece_17
abbrev rX0_pieceAt : Room := { frames := 1, cells := 0, slots := 0, locals := 21 }
set_option maxHeartbeats 4000000 in
set_option maxRecDepth 100000 in
theorem c_X0_pieceAt (l : Launch) (D : va_G) (cI cJ cG : ClassId) (sz : Nat) (R : va_W) (b_ ka_ na_ jo_ me_ : Nat) (kd me : Nat → Nat) (px pcs : Nat) (bt : Bst) (x y : Int32) : Met l yX0_pieceAt wsX0_pieceAt rX0_pieceAt (gP D (tyl cI cJ cG) [.ref b_, .int x, .int y] ((b_, .inr (1, [.ref ka_, .ref na_, .ref jo_, .ref me_, .int (nI bt.2.2), .int (nI px), .int (nI pcs)])) :: (ka_, .inl (cI, 256, .inl (k2 kd))) :: (na_, .inl (cI, 256, .inl (l1 bt.1))) :: (jo_, .inl (cI, 100, .inl (nf bt.2.1))) :: (me_, .inl (cI, 100, .inl (nf me))) :: R) sz) (gQi D (tyl cI cJ cG) ((b_, .inr (1, [.ref ka_, .ref na_, .ref jo_, .ref me_, .int (nI bt.2.2), .int (nI px), .int (nI pcs)])) :: (ka_, .inl (cI, 256, .inl (k2 kd))) :: (na_, .inl (cI, 256, .inl (l1 bt.1))) :: (jo_, .inl (cI, 100, .inl (nf bt.2.1))) :: (me_, .inl (cI, 100, .inl (nf me))) :: R) sz (fun r (_ : Unit) => r = paN bt.1 x y) (fun _ => ((b_, .inr (1, [.ref ka_, .ref na_, .ref jo_, .ref me_, .int (nI bt.2.2), .int (nI px), .int (nI pcs)])) :: (ka_, .inl (cI, 256, .inl (k2 kd))) :: (na_, .inl (cI, 256, .inl (l1 bt.1))) :: (jo_, .inl (cI, 100, .inl (nf bt.2.1))) :: (me_, .inl (cI, 100, .inl (nf me))) :: R))) 0 0 (va_A ((b_, .inr (1, [.ref ka_, .ref na_, .ref jo_, .ref me_, .int (nI bt.2.2), .int (nI px), .int (nI pcs)])) :: (ka_, .inl (cI, 256, .inl (k2 kd))) :: (na_, .inl (cI, 256, .inl (l1 bt.1))) :: (jo_, .inl (cI, 100, .inl (nf bt.2.1))) :: (me_, .inl (cI, 100, .inl (nf me))) :: R) sz) := by
  refine gMet (cc := cX0_pieceAt) (maxL := 3) (ret := (some .int)) (ls0 := [(0, .ref b_), (1, .int x), (2, .int y)]) (by decide) rfl (Nat.le_of_ble_eq_true rfl) rfl ?_
  intro p e s m below meth c hx hb hr hts hown hlocks hml hname A hA hAe hsz Q hQe H locs hP hK hD hS ls hl
  have hown : s.vm.findClass RX0 = some m.cls := hown
  have in_X0 : ∀ w ∈ wsX00, w ∈ wsX0_pieceAt := by decide +kernel
  have f_15 := hts (.fieldLink RX0 15 "SpectrumHeads$Belt" "numberAt" "[I") (by decide +kernel)
  refine lv_iload_n hx hb dX0_pieceAt_0 rfl (lv_at hl 1 rfl) ?_
  refine lv_iload_n hx hb dX0_pieceAt_1 rfl (lv_at hl 2 rfl) ?_
  refine gc_Si (As := [.int x, .int y]) (rest := []) ⟨hx, hb, hml, hown, hts⟩ (c_X0_isPlace l D cI cJ cG H.size ((b_, .inr (1, [.ref ka_, .ref na_, .ref jo_, .ref me_, .int (nI bt.2.2), .int (nI px), .int (nI pcs)])) :: (ka_, .inl (cI, 256, .inl (k2 kd))) :: (na_, .inl (cI, 256, .inl (l1 bt.1))) :: (jo_, .inl (cI, 100, .inl (nf bt.2.1))) :: (me_, .inl (cI, 100, .inl (nf me))) :: R) x y) (va_cwS 2 hts gX0_pieceAt_X0_isPlace rfl rfl rfl (by decide +kernel) ⟨Nat.le_of_ble_eq_true rfl, Nat.le_of_ble_eq_true rfl⟩) hK hP hD hS hA rfl hl.1 rfl (Nat.le_of_ble_eq_true rfl) dX0_pieceAt_2 ⟨Nat.le_of_ble_eq_true rfl, Nat.le_of_ble_eq_true rfl⟩ (fun r2 u2 H locs h2 hP hD hS => ?_)
  subst h2
  have hP : va_P D vwCl ((b_, .inr (1, [.ref ka_, .ref na_, .ref jo_, .ref me_, .int (nI bt.2.2), .int (nI px), .int (nI pcs)])) :: (ka_, .inl (cI, 256, .inl (k2 kd))) :: (na_, .inl (cI, 256, .inl (l1 bt.1))) :: (jo_, .inl (cI, 100, .inl (nf bt.2.1))) :: (me_, .inl (cI, 100, .inl (nf me))) :: R) H := hP
  have hD : va_D A ((b_, .inr (1, [.ref ka_, .ref na_, .ref jo_, .ref me_, .int (nI bt.2.2), .int (nI px), .int (nI pcs)])) :: (ka_, .inl (cI, 256, .inl (k2 kd))) :: (na_, .inl (cI, 256, .inl (l1 bt.1))) :: (jo_, .inl (cI, 100, .inl (nf bt.2.1))) :: (me_, .inl (cI, 100, .inl (nf me))) :: R) := hD
  refine lv_if_eq (tgt := 22) hx hb dX0_pieceAt_5 (by decide) (fun c5 => ?_) (fun c5 => ?_)
  · skip
    have hpl := bI_0.mp c5
    refine lv_iconst (v := -1) hx hb dX0_pieceAt_22 (by decide) ?_
    subst hQe
    subst hAe
    subst hsz
    exact g_iret hx hb hr hlocks () (by first | (unfold paN; rw [hpl]; rfl) | (unfold paN; rw [if_pos (isPl_t ha hb_), plc_nI ha hb_]; exact ex18)) hP hK hD hS dX0_pieceAt_23
  · skip
    have hpl := bI_n0.mp c5
    obtain ⟨a, b, ha, hb_, rfl, rfl⟩ := isPl hpl
    refine lv_aload_n hx hb dX0_pieceAt_8 rfl (lv_at hl 0 rfl) ?_
    refine va_get (D := D) (ci := 1) (v := .ref na_) (C := RX0) (T := TX0) (N := 7) hx hb hts in_X0 hown hK hP 0 rfl rfl 1 (by decide) f_15 (fun _ h9 => h9) rfl dX0_pieceAt_9 ?_
    refine lv_bipush (v := 16) hx hb dX0_pieceAt_12 (by decide) ?_
    refine lv_iload_n hx hb dX0_pieceAt_14 rfl (lv_at hl 2 rfl) ?_
    refine lv_imul hx hb dX0_pieceAt_15 ?_
    refine lv_topi (fun x15 ex15 => ?_)
    obtain rfl : x15 = nI (16 * b) := by rw [ex15]; exact pk_mul 16 _
    refine lv_iload_n hx hb dX0_pieceAt_16 rfl (lv_at hl 1 rfl) ?_
    refine lv_iadd hx hb dX0_pieceAt_17 ?_
    refine lv_topi (fun x17 ex17 => ?_)
    obtain rfl : x17 = nI (16 * b + a) := by rw [ex17]; exact nI_add _ _
    refine va_iald hx hb hK hP (2) 0 rfl rfl (by first | exact vp_in_nI (by omega) (by omega) | assumption) dX0_pieceAt_18 ?_
    refine lv_topi (fun x18 ex18 => ?_)
    rw [nI_clamp (by omega)] at ex18
    refine lv_goto (tgt := 23) hx hb dX0_pieceAt_19 (by decide) ?_
    subst hQe
    subst hAe
    subst hsz
    exact g_iret hx hb hr hlocks () (by first | (unfold paN; rw [hpl]; rfl) | (unfold paN; rw [if_pos (isPl_t ha hb_), plc_nI ha hb_]; exact ex18)) hP hK hD hS dX0_pieceAt_23
abbrev rX0_join : Room := { frames := 1, cells := 0, slots := 0, locals := 21 }
set_option maxHeartbeats 4000000 in
set_option maxRecDepth 100000 in
theorem c_X0_join (l : Launch) (D : va_G) (cI cJ cG : ClassId) (sz : Nat) (R : va_W) (b_ ka_ na_ jo_ me_ : Nat) (kd me : Nat → Nat) (px pcs : Nat) (bt : Bst) (x y : Int32) (hkd : ∀ p, kd p ≤ 6) (hbt : Bok bt) (hp : pcs ≤ 255) : Met l yX0_join wsX0_join rX0_join (gP D (tyl cI cJ cG) [.ref b_, .int x, .int y] ((b_, .inr (1, [.ref ka_, .ref na_, .ref jo_, .ref me_, .int (nI bt.2.2), .int (nI px), .int (nI pcs)])) :: (ka_, .inl (cI, 256, .inl (k2 kd))) :: (na_, .inl (cI, 256, .inl (l1 bt.1))) :: (jo_, .inl (cI, 100, .inl (nf bt.2.1))) :: (me_, .inl (cI, 100, .inl (nf me))) :: R) sz) (gQv D (tyl cI cJ cG) ((b_, .inr (1, [.ref ka_, .ref na_, .ref jo_, .ref me_, .int (nI bt.2.2), .int (nI px), .int (nI pcs)])) :: (ka_, .inl (cI, 256, .inl (k2 kd))) :: (na_, .inl (cI, 256, .inl (l1 bt.1))) :: (jo_, .inl (cI, 100, .inl (nf bt.2.1))) :: (me_, .inl (cI, 100, .inl (nf me))) :: R) sz (fun (u : Bst) => u = joinS kd (pcs + 1) x y bt) (fun u => ((b_, .inr (1, [.ref ka_, .ref na_, .ref jo_, .ref me_, .int (nI u.2.2), .int (nI px), .int (nI pcs)])) :: (ka_, .inl (cI, 256, .inl (k2 kd))) :: (na_, .inl (cI, 256, .inl (l1 u.1))) :: (jo_, .inl (cI, 100, .inl (nf u.2.1))) :: (me_, .inl (cI, 100, .inl (nf me))) :: R))) 0 0 (va_A ((b_, .inr (1, [.ref ka_, .ref na_, .ref jo_, .ref me_, .int (nI bt.2.2), .int (nI px), .int (nI pcs)])) :: (ka_, .inl (cI, 256, .inl (k2 kd))) :: (na_, .inl (cI, 256, .inl (l1 bt.1))) :: (jo_, .inl (cI, 100, .inl (nf bt.2.1))) :: (me_, .inl (cI, 100, .inl (nf me))) :: R) sz) := by
  refine gMet (cc := cX0_join) (maxL := 4) (ret := none) (ls0 := [(0, .ref b_), (1, .int x), (2, .int y)]) (by decide) rfl (Nat.le_of_ble_eq_true rfl) rfl ?_
  intro p e s m below meth c hx hb hr hts hown hlocks hml hname A hA hAe hsz Q hQe H locs hP hK hD hS ls hl
  have hown : s.vm.findClass RX0 = some m.cls := hown
  have in_X0 : ∀ w ∈ wsX00, w ∈ wsX0_join := by decide +kernel
  have f_30 := hts (.fieldLink RX0 30 "SpectrumHeads$Belt" "joinedCount" "I") (by decide +kernel)
  have f_11 := hts (.fieldLink RX0 11 "SpectrumHeads$Belt" "kindAt" "[I") (by decide +kernel)
  have f_15 := hts (.fieldLink RX0 15 "SpectrumHeads$Belt" "numberAt" "[I") (by decide +kernel)
  have f_37 := hts (.fieldLink RX0 37 "SpectrumHeads$Belt" "pieces" "I") (by decide +kernel)
  have f_18 := hts (.fieldLink RX0 18 "SpectrumHeads$Belt" "joined" "[I") (by decide +kernel)
  have hjc := hbt.2.2
  refine lv_iload_n hx hb dX0_join_0 rfl (lv_at hl 1 rfl) ?_
  refine lv_iload_n hx hb dX0_join_1 rfl (lv_at hl 2 rfl) ?_
  refine gc_Si (As := [.int x, .int y]) (rest := []) ⟨hx, hb, hml, hown, hts⟩ (c_X0_isPlace l D cI cJ cG H.size ((b_, .inr (1, [.ref ka_, .ref na_, .ref jo_, .ref me_, .int (nI bt.2.2), .int (nI px), .int (nI pcs)])) :: (ka_, .inl (cI, 256, .inl (k2 kd))) :: (na_, .inl (cI, 256, .inl (l1 bt.1))) :: (jo_, .inl (cI, 100, .inl (nf bt.2.1))) :: (me_, .inl (cI, 100, .inl (nf me))) :: R) x y) (va_cwS 2 hts gX0_join_X0_isPlace rfl rfl rfl (by decide +kernel) ⟨Nat.le_of_ble_eq_true rfl, Nat.le_of_ble_eq_true rfl⟩) hK hP hD hS hA rfl hl.1 rfl (Nat.le_of_ble_eq_true rfl) dX0_join_2 ⟨Nat.le_of_ble_eq_true rfl, Nat.le_of_ble_eq_true rfl⟩ (fun r2 u2 H locs h2 hP hD hS => ?_)
  subst h2
  have hP : va_P D vwCl ((b_, .inr (1, [.ref ka_, .ref na_, .ref jo_, .ref me_, .int (nI bt.2.2), .int (nI px), .int (nI pcs)])) :: (ka_, .inl (cI, 256, .inl (k2 kd))) :: (na_, .inl (cI, 256, .inl (l1 bt.1))) :: (jo_, .inl (cI, 100, .inl (nf bt.2.1))) :: (me_, .inl (cI, 100, .inl (nf me))) :: R) H := hP
  have hD : va_D A ((b_, .inr (1, [.ref ka_, .ref na_, .ref jo_, .ref me_, .int (nI bt.2.2), .int (nI px), .int (nI pcs)])) :: (ka_, .inl (cI, 256, .inl (k2 kd))) :: (na_, .inl (cI, 256, .inl (l1 bt.1))) :: (jo_, .inl (cI, 100, .inl (nf bt.2.1))) :: (me_, .inl (cI, 100, .inl (nf me))) :: R) := hD
  refine lv_if_eq (tgt := 17) hx hb dX0_join_5 (by decide) (fun c5 => ?_) (fun c5 => ?_)
  · skip
    have hpl := bI_0.mp c5
    have hno : bt = joinS kd (pcs + 1) x y bt := (if_neg (fun h => by rw [hpl] at h; cases h.1)).symm
    subst hQe
    subst hAe
    subst hsz
    exact g_vret hx hb hr hlocks bt hno hP hK hD hS dX0_join_17
  · skip
    have hpl := bI_n0.mp c5
    obtain ⟨a, b, ha, hb_, rfl, rfl⟩ := isPl hpl
    refine lv_aload_n hx hb dX0_join_8 rfl (lv_at hl 0 rfl) ?_
    refine va_get (D := D) (ci := 1) (v := .int (nI bt.2.2)) (C := RX0) (T := TX0) (N := 7) hx hb hts in_X0 hown hK hP 0 rfl rfl 4 (by decide) f_30 (fun _ h9 => h9) rfl dX0_join_9 ?_
    refine lv_bipush (v := 100) hx hb dX0_join_12 (by decide) ?_
    refine lv_icmp_lt (tgt := 18) hx hb dX0_join_14 (by decide) (fun c14 => ?_) (fun c14 => ?_)
    · skip
      have hj1 : bt.2.2 < 100 := (nI_ltI (b := 100) (by omega) (by omega)).mp c14
      have hk6 := hkd (16 * b + a)
      have hl6 := hbt.1 (16 * b + a)
      refine lv_bipush (v := 16) hx hb dX0_join_18 (by decide) ?_
      refine lv_iload_n hx hb dX0_join_20 rfl (lv_at hl 2 rfl) ?_
      refine lv_imul hx hb dX0_join_21 ?_
      refine lv_topi (fun x21 ex21 => ?_)
      obtain rfl : x21 = nI (16 * b) := by rw [ex21]; exact pk_mul 16 _
      refine lv_iload_n hx hb dX0_join_22 rfl (lv_at hl 1 rfl) ?_
      refine lv_iadd hx hb dX0_join_23 ?_
      refine lv_topi (fun x23 ex23 => ?_)
      obtain rfl : x23 = nI (16 * b + a) := by rw [ex23]; exact nI_add _ _
      refine lv_istore_n (lv' := [(3, .int (nI (16 * b + a))), (0, .ref b_), (1, .int (nI a)), (2, .int (nI b))]) hx hb dX0_join_24 rfl hl (by decide) rfl (fun ls hl => ?_)
      refine lv_aload_n hx hb dX0_join_25 rfl (lv_at hl 1 rfl) ?_
      refine va_get (D := D) (ci := 1) (v := .ref ka_) (C := RX0) (T := TX0) (N := 7) hx hb hts in_X0 hown hK hP 0 rfl rfl 0 (by decide) f_11 (fun _ h9 => h9) rfl dX0_join_26 ?_
      refine lv_iload_n hx hb dX0_join_29 rfl (lv_at hl 0 rfl) ?_
      refine va_iald hx hb hK hP (1) 0 rfl rfl (by first | exact vp_in_nI (by omega) (by omega) | assumption) dX0_join_30 ?_
      refine lv_topi (fun x30 ex30 => ?_)
      rw [nI_clamp (by omega)] at ex30
      obtain rfl : x30 = nI (kd (16 * b + a)) - 2 := by exact ex30
      refine lv_if_lt (tgt := 74) hx hb dX0_join_31 (by decide) (fun c31 => ?_) (fun c31 => ?_)
      · skip
        have hno : bt = joinS kd (pcs + 1) (nI a) (nI b) bt := (if_neg (fun h => by have h3 := h.2.2.1; rw [plc_nI ha hb_] at h3; have := (k2_neg (by omega)).mp c31; omega)).symm
        subst hQe
        subst hAe
        subst hsz
        exact g_vret hx hb hr hlocks bt hno hP hK hD hS dX0_join_74
      · skip
        have hk2 : 2 ≤ kd (16 * b + a) := by have := mt (k2_neg (by omega)).mpr c31; omega
        refine lv_aload_n hx hb dX0_join_34 rfl (lv_at hl 1 rfl) ?_
        refine va_get (D := D) (ci := 1) (v := .ref na_) (C := RX0) (T := TX0) (N := 7) hx hb hts in_X0 hown hK hP 0 rfl rfl 1 (by decide) f_15 (fun _ h9 => h9) rfl dX0_join_35 ?_
        refine lv_iload_n hx hb dX0_join_38 rfl (lv_at hl 0 rfl) ?_
        refine va_iald hx hb hK hP (2) 0 rfl rfl (by first | exact vp_in_nI (by omega) (by omega) | assumption) dX0_join_39 ?_
        refine lv_topi (fun x39 ex39 => ?_)
        rw [nI_clamp (by omega)] at ex39
        obtain rfl : x39 = nI (bt.1 (16 * b + a)) - 1 := by exact ex39
        refine lv_iconst (v := -1) hx hb dX0_join_40 (by decide) ?_
        refine lv_icmp_ne (tgt := 74) hx hb dX0_join_41 (by decide) (fun c41 => ?_) (fun c41 => ?_)
        · skip
          have hno : bt = joinS kd (pcs + 1) (nI a) (nI b) bt := (if_neg (fun h => by have h3 := h.2.2.2; rw [plc_nI ha hb_] at h3; exact c41 ((l1_none (by omega)).mpr h3))).symm
          subst hQe
          subst hAe
          subst hsz
          exact g_vret hx hb hr hlocks bt hno hP hK hD hS dX0_join_74
        · skip
          have hl0 : bt.1 (16 * b + a) = 0 := (l1_none (by omega)).mp c41
          have hyes : (un bt.1 (16 * b + a) (pcs + 1), un bt.2.1 bt.2.2 (16 * b + a), bt.2.2 + 1) = joinS kd (pcs + 1) (nI a) (nI b) bt := by unfold joinS; rw [plc_nI ha hb_, if_pos ⟨hpl, hj1, hk2, hl0⟩]
          refine lv_aload_n hx hb dX0_join_44 rfl (lv_at hl 1 rfl) ?_
          refine va_get (D := D) (ci := 1) (v := .ref na_) (C := RX0) (T := TX0) (N := 7) hx hb hts in_X0 hown hK hP 0 rfl rfl 1 (by decide) f_15 (fun _ h9 => h9) rfl dX0_join_45 ?_
          refine lv_iload_n hx hb dX0_join_48 rfl (lv_at hl 0 rfl) ?_
          refine lv_aload_n hx hb dX0_join_49 rfl (lv_at hl 1 rfl) ?_
          refine va_get (D := D) (ci := 1) (v := .int (nI pcs)) (C := RX0) (T := TX0) (N := 7) hx hb hts in_X0 hown hK hP 0 rfl rfl 6 (by decide) f_37 (fun _ h9 => h9) rfl dX0_join_50 ?_
          refine va_iast hx hb hK hP hD hS 2 0 rfl rfl (by first | exact vp_in_nI (by omega) (by omega) | assumption) dX0_join_53 (fun H locs hP hD hS => ?_)
          rw [nI_clamp (by omega)] at hP hD
          have hP : va_P D vwCl ((b_, .inr (1, [.ref ka_, .ref na_, .ref jo_, .ref me_, .int (nI bt.2.2), .int (nI px), .int (nI pcs)])) :: (ka_, .inl (cI, 256, .inl (k2 kd))) :: (na_, .inl (cI, 256, .inl (upd (l1 bt.1) (16 * b + a) (nI pcs)))) :: (jo_, .inl (cI, 100, .inl (nf bt.2.1))) :: (me_, .inl (cI, 100, .inl (nf me))) :: R) H := hP
          have hD : va_D A ((b_, .inr (1, [.ref ka_, .ref na_, .ref jo_, .ref me_, .int (nI bt.2.2), .int (nI px), .int (nI pcs)])) :: (ka_, .inl (cI, 256, .inl (k2 kd))) :: (na_, .inl (cI, 256, .inl (upd (l1 bt.1) (16 * b + a) (nI pcs)))) :: (jo_, .inl (cI, 100, .inl (nf bt.2.1))) :: (me_, .inl (cI, 100, .inl (nf me))) :: R) := hD
          have hW_ : upd (l1 bt.1) (16 * b + a) (nI pcs) = l1 (un bt.1 (16 * b + a) (pcs + 1)) := by exact l1_upd _ _ _
          rw [hW_] at hP hD
          have hP : va_P D vwCl ((b_, .inr (1, [.ref ka_, .ref na_, .ref jo_, .ref me_, .int (nI bt.2.2), .int (nI px), .int (nI pcs)])) :: (ka_, .inl (cI, 256, .inl (k2 kd))) :: (na_, .inl (cI, 256, .inl (l1 (un bt.1 (16 * b + a) (pcs + 1))))) :: (jo_, .inl (cI, 100, .inl (nf bt.2.1))) :: (me_, .inl (cI, 100, .inl (nf me))) :: R) H := hP
          have hD : va_D A ((b_, .inr (1, [.ref ka_, .ref na_, .ref jo_, .ref me_, .int (nI bt.2.2), .int (nI px), .int (nI pcs)])) :: (ka_, .inl (cI, 256, .inl (k2 kd))) :: (na_, .inl (cI, 256, .inl (l1 (un bt.1 (16 * b + a) (pcs + 1))))) :: (jo_, .inl (cI, 100, .inl (nf bt.2.1))) :: (me_, .inl (cI, 100, .inl (nf me))) :: R) := hD
          refine lv_aload_n hx hb dX0_join_54 rfl (lv_at hl 1 rfl) ?_
          refine va_get (D := D) (ci := 1) (v := .ref jo_) (C := RX0) (T := TX0) (N := 7) hx hb hts in_X0 hown hK hP 0 rfl rfl 2 (by decide) f_18 (fun _ h9 => h9) rfl dX0_join_55 ?_
          refine lv_aload_n hx hb dX0_join_58 rfl (lv_at hl 1 rfl) ?_
          refine va_get (D := D) (ci := 1) (v := .int (nI bt.2.2)) (C := RX0) (T := TX0) (N := 7) hx hb hts in_X0 hown hK hP 0 rfl rfl 4 (by decide) f_30 (fun _ h9 => h9) rfl dX0_join_59 ?_
          refine lv_iload_n hx hb dX0_join_62 rfl (lv_at hl 0 rfl) ?_
          refine va_iast hx hb hK hP hD hS 3 0 rfl rfl (by first | exact vp_in_nI (by omega) (by omega) | assumption) dX0_join_63 (fun H locs hP hD hS => ?_)
          rw [nI_clamp (by omega)] at hP hD
          have hP : va_P D vwCl ((b_, .inr (1, [.ref ka_, .ref na_, .ref jo_, .ref me_, .int (nI bt.2.2), .int (nI px), .int (nI pcs)])) :: (ka_, .inl (cI, 256, .inl (k2 kd))) :: (na_, .inl (cI, 256, .inl (l1 (un bt.1 (16 * b + a) (pcs + 1))))) :: (jo_, .inl (cI, 100, .inl (upd (nf bt.2.1) bt.2.2 (nI (16 * b + a))))) :: (me_, .inl (cI, 100, .inl (nf me))) :: R) H := hP
          have hD : va_D A ((b_, .inr (1, [.ref ka_, .ref na_, .ref jo_, .ref me_, .int (nI bt.2.2), .int (nI px), .int (nI pcs)])) :: (ka_, .inl (cI, 256, .inl (k2 kd))) :: (na_, .inl (cI, 256, .inl (l1 (un bt.1 (16 * b + a) (pcs + 1))))) :: (jo_, .inl (cI, 100, .inl (upd (nf bt.2.1) bt.2.2 (nI (16 * b + a))))) :: (me_, .inl (cI, 100, .inl (nf me))) :: R) := hD
          have hW_ : upd (nf bt.2.1) bt.2.2 (nI (16 * b + a)) = nf (un bt.2.1 bt.2.2 (16 * b + a)) := by exact nf_upd _ _ _
          rw [hW_] at hP hD
          have hP : va_P D vwCl ((b_, .inr (1, [.ref ka_, .ref na_, .ref jo_, .ref me_, .int (nI bt.2.2), .int (nI px), .int (nI pcs)])) :: (ka_, .inl (cI, 256, .inl (k2 kd))) :: (na_, .inl (cI, 256, .inl (l1 (un bt.1 (16 * b + a) (pcs + 1))))) :: (jo_, .inl (cI, 100, .inl (nf (un bt.2.1 bt.2.2 (16 * b + a))))) :: (me_, .inl (cI, 100, .inl (nf me))) :: R) H := hP
          have hD : va_D A ((b_, .inr (1, [.ref ka_, .ref na_, .ref jo_, .ref me_, .int (nI bt.2.2), .int (nI px), .int (nI pcs)])) :: (ka_, .inl (cI, 256, .inl (k2 kd))) :: (na_, .inl (cI, 256, .inl (l1 (un bt.1 (16 * b + a) (pcs + 1))))) :: (jo_, .inl (cI, 100, .inl (nf (un bt.2.1 bt.2.2 (16 * b + a))))) :: (me_, .inl (cI, 100, .inl (nf me))) :: R) := hD
          refine lv_aload_n hx hb dX0_join_64 rfl (lv_at hl 1 rfl) ?_
          refine lv_dup hx hb dX0_join_65 rfl ?_
          refine va_get (D := D) (ci := 1) (v := .int (nI bt.2.2)) (C := RX0) (T := TX0) (N := 7) hx hb hts in_X0 hown hK hP 0 rfl rfl 4 (by decide) f_30 (fun _ h9 => h9) rfl dX0_join_66 ?_
          refine lv_iconst (v := 1) hx hb dX0_join_69 (by decide) ?_
          refine lv_iadd hx hb dX0_join_70 ?_
          refine lv_topi (fun x70 ex70 => ?_)
          obtain rfl : x70 = nI (bt.2.2 + 1) := by rw [ex70]; exact nI_1 _
          refine va_put (D := D) (ci := 1) (v := .int (nI (bt.2.2 + 1))) (ty := .int) (C := RX0) (T := TX0) (N := 7) hx hb hts in_X0 tyX0 tyX0_ok nmX0 hown hK hP hD hS 0 rfl rfl 4 (by decide) f_30 (fun _ h9 => h9) rfl (by decide +kernel) rfl rfl (Nat.le_of_ble_eq_true rfl) dX0_join_71 (fun H locs hP hD hS => ?_)
          have hP : va_P D vwCl ((b_, .inr (1, [.ref ka_, .ref na_, .ref jo_, .ref me_, .int (nI (bt.2.2 + 1)), .int (nI px), .int (nI pcs)])) :: (ka_, .inl (cI, 256, .inl (k2 kd))) :: (na_, .inl (cI, 256, .inl (l1 (un bt.1 (16 * b + a) (pcs + 1))))) :: (jo_, .inl (cI, 100, .inl (nf (un bt.2.1 bt.2.2 (16 * b + a))))) :: (me_, .inl (cI, 100, .inl (nf me))) :: R) H := hP
          have hD : va_D A ((b_, .inr (1, [.ref ka_, .ref na_, .ref jo_, .ref me_, .int (nI (bt.2.2 + 1)), .int (nI px), .int (nI pcs)])) :: (ka_, .inl (cI, 256, .inl (k2 kd))) :: (na_, .inl (cI, 256, .inl (l1 (un bt.1 (16 * b + a) (pcs + 1))))) :: (jo_, .inl (cI, 100, .inl (nf (un bt.2.1 bt.2.2 (16 * b + a))))) :: (me_, .inl (cI, 100, .inl (nf me))) :: R) := hD
          subst hQe
          subst hAe
          subst hsz
          exact g_vret hx hb hr hlocks (un bt.1 (16 * b + a) (pcs + 1), un bt.2.1 bt.2.2 (16 * b + a), bt.2.2 + 1) hyes hP hK hD hS dX0_join_74
    · skip
      have hno : bt = joinS kd (pcs + 1) (nI a) (nI b) bt := (if_neg (fun h => c14 ((nI_ltI (b := 100) (by omega) (by omega)).mpr h.2.1))).symm
      subst hQe
      subst hAe
      subst hsz
      exact g_vret hx hb hr hlocks bt hno hP hK hD hS dX0_join_17
abbrev rX0_joinFrom : Room := { frames := 2, cells := 0, slots := 0, locals := 44 }
set_option maxHeartbeats 4000000 in
set_option maxRecDepth 100000 in
theorem c_X0_joinFrom (l : Launch) (D : va_G) (cI cJ cG : ClassId) (sz : Nat) (R : va_W) (b_ ka_ na_ jo_ me_ : Nat) (kd me : Nat → Nat) (px pcs : Nat) (bt : Bst) (f : Nat) (hf : f < 256) (hkd : ∀ p, kd p ≤ 6) (hbt : Bok bt) (hp : pcs ≤ 255) : Met l yX0_joinFrom wsX0_joinFrom rX0_joinFrom (gP D (tyl cI cJ cG) [.ref b_, .int (nI f)] ((b_, .inr (1, [.ref ka_, .ref na_, .ref jo_, .ref me_, .int (nI bt.2.2), .int (nI px), .int (nI pcs)])) :: (ka_, .inl (cI, 256, .inl (k2 kd))) :: (na_, .inl (cI, 256, .inl (l1 bt.1))) :: (jo_, .inl (cI, 100, .inl (nf bt.2.1))) :: (me_, .inl (cI, 100, .inl (nf me))) :: R) sz) (gQv D (tyl cI cJ cG) ((b_, .inr (1, [.ref ka_, .ref na_, .ref jo_, .ref me_, .int (nI bt.2.2), .int (nI px), .int (nI pcs)])) :: (ka_, .inl (cI, 256, .inl (k2 kd))) :: (na_, .inl (cI, 256, .inl (l1 bt.1))) :: (jo_, .inl (cI, 100, .inl (nf bt.2.1))) :: (me_, .inl (cI, 100, .inl (nf me))) :: R) sz (fun (u : Bst) => u = joinF kd (pcs + 1) f bt) (fun u => ((b_, .inr (1, [.ref ka_, .ref na_, .ref jo_, .ref me_, .int (nI u.2.2), .int (nI px), .int (nI pcs)])) :: (ka_, .inl (cI, 256, .inl (k2 kd))) :: (na_, .inl (cI, 256, .inl (l1 u.1))) :: (jo_, .inl (cI, 100, .inl (nf u.2.1))) :: (me_, .inl (cI, 100, .inl (nf me))) :: R))) 0 0 (va_A ((b_, .inr (1, [.ref ka_, .ref na_, .ref jo_, .ref me_, .int (nI bt.2.2), .int (nI px), .int (nI pcs)])) :: (ka_, .inl (cI, 256, .inl (k2 kd))) :: (na_, .inl (cI, 256, .inl (l1 bt.1))) :: (jo_, .inl (cI, 100, .inl (nf bt.2.1))) :: (me_, .inl (cI, 100, .inl (nf me))) :: R) sz) := by
  refine gMet (cc := cX0_joinFrom) (maxL := 5) (ret := none) (ls0 := [(0, .ref b_), (1, .int (nI f))]) (by decide) rfl (Nat.le_of_ble_eq_true rfl) rfl ?_
  intro p e s m below meth c hx hb hr hts hown hlocks hml hname A hA hAe hsz Q hQe H locs hP hK hD hS ls hl
  have hown : s.vm.findClass RX0 = some m.cls := hown
  have in_X0 : ∀ w ∈ wsX00, w ∈ wsX0_joinFrom := by decide +kernel
  have f_30 := hts (.fieldLink RX0 30 "SpectrumHeads$Belt" "joinedCount" "I") (by decide +kernel)
  have f_18 := hts (.fieldLink RX0 18 "SpectrumHeads$Belt" "joined" "[I") (by decide +kernel)
  refine lv_aload_n hx hb dX0_joinFrom_0 rfl (lv_at hl 0 rfl) ?_
  refine lv_iconst (v := 0) hx hb dX0_joinFrom_1 (by decide) ?_
  refine va_put (D := D) (ci := 1) (v := .int 0) (ty := .int) (C := RX0) (T := TX0) (N := 7) hx hb hts in_X0 tyX0 tyX0_ok nmX0 hown hK hP hD hS 0 rfl rfl 4 (by decide) f_30 (fun _ h9 => h9) rfl (by decide +kernel) rfl rfl (Nat.le_of_ble_eq_true rfl) dX0_joinFrom_2 (fun H locs hP hD hS => ?_)
  have hP : va_P D vwCl ((b_, .inr (1, [.ref ka_, .ref na_, .ref jo_, .ref me_, .int 0, .int (nI px), .int (nI pcs)])) :: (ka_, .inl (cI, 256, .inl (k2 kd))) :: (na_, .inl (cI, 256, .inl (l1 bt.1))) :: (jo_, .inl (cI, 100, .inl (nf bt.2.1))) :: (me_, .inl (cI, 100, .inl (nf me))) :: R) H := hP
  have hD : va_D A ((b_, .inr (1, [.ref ka_, .ref na_, .ref jo_, .ref me_, .int 0, .int (nI px), .int (nI pcs)])) :: (ka_, .inl (cI, 256, .inl (k2 kd))) :: (na_, .inl (cI, 256, .inl (l1 bt.1))) :: (jo_, .inl (cI, 100, .inl (nf bt.2.1))) :: (me_, .inl (cI, 100, .inl (nf me))) :: R) := hD
  refine lv_aload_n hx hb dX0_joinFrom_5 rfl (lv_at hl 0 rfl) ?_
  refine lv_iload_n hx hb dX0_joinFrom_6 rfl (lv_at hl 1 rfl) ?_
  refine lv_bipush (v := 16) hx hb dX0_joinFrom_7 (by decide) ?_
  refine lv_irem hx hb dX0_joinFrom_9 (by decide) ?_
  refine lv_topi (fun x9 ex9 => ?_)
  obtain rfl : x9 = nI (f % 16) := by rw [ex9]; exact pk_rem (d := 16) (by omega) (by omega) (by omega)
  refine lv_iload_n hx hb dX0_joinFrom_10 rfl (lv_at hl 1 rfl) ?_
  refine lv_bipush (v := 16) hx hb dX0_joinFrom_11 (by decide) ?_
  refine lv_idiv hx hb dX0_joinFrom_13 (by decide) ?_
  refine lv_topi (fun x13 ex13 => ?_)
  obtain rfl : x13 = nI (f / 16) := by rw [ex13]; exact pk_div (d := 16) (by omega) (by omega) (by omega)
  refine gc_Vv (As := [.int (nI (f % 16)), .int (nI (f / 16))]) (rest := []) (ci := 1) (q0 := 0) ⟨hx, hb, hml, hown, hts⟩ (c_X0_join l D cI cJ cG H.size R b_ ka_ na_ jo_ me_ kd me px pcs (bt.1, bt.2.1, 0) (nI (f % 16)) (nI (f / 16)) hkd ⟨hbt.1, hbt.2.1, Nat.zero_le _⟩ hp) (cwV 2 hts gX0_joinFrom_X0_join rfl rfl rfl (by decide +kernel) ⟨Nat.le_of_ble_eq_true rfl, Nat.le_of_ble_eq_true rfl⟩) rfl rfl rfl hK hP hD hS hA rfl hl.1 rfl (Nat.le_of_ble_eq_true rfl) dX0_joinFrom_14 ⟨Nat.le_of_ble_eq_true rfl, Nat.le_of_ble_eq_true rfl⟩ (fun u14 H locs h14 hP hD hS => ?_)
  subst h14
  have hP : va_P D vwCl ((b_, .inr (1, [.ref ka_, .ref na_, .ref jo_, .ref me_, .int (nI ((joinS kd (pcs + 1) (nI (f % 16)) (nI (f / 16)) (bt.1, bt.2.1, 0)).2.2)), .int (nI px), .int (nI pcs)])) :: (ka_, .inl (cI, 256, .inl (k2 kd))) :: (na_, .inl (cI, 256, .inl (l1 ((joinS kd (pcs + 1) (nI (f % 16)) (nI (f / 16)) (bt.1, bt.2.1, 0)).1)))) :: (jo_, .inl (cI, 100, .inl (nf ((joinS kd (pcs + 1) (nI (f % 16)) (nI (f / 16)) (bt.1, bt.2.1, 0)).2.1)))) :: (me_, .inl (cI, 100, .inl (nf me))) :: R) H := hP
  have hD : va_D A ((b_, .inr (1, [.ref ka_, .ref na_, .ref jo_, .ref me_, .int (nI ((joinS kd (pcs + 1) (nI (f % 16)) (nI (f / 16)) (bt.1, bt.2.1, 0)).2.2)), .int (nI px), .int (nI pcs)])) :: (ka_, .inl (cI, 256, .inl (k2 kd))) :: (na_, .inl (cI, 256, .inl (l1 ((joinS kd (pcs + 1) (nI (f % 16)) (nI (f / 16)) (bt.1, bt.2.1, 0)).1)))) :: (jo_, .inl (cI, 100, .inl (nf ((joinS kd (pcs + 1) (nI (f % 16)) (nI (f / 16)) (bt.1, bt.2.1, 0)).2.1)))) :: (me_, .inl (cI, 100, .inl (nf me))) :: R) := hD
  refine lv_iconst (v := 0) hx hb dX0_joinFrom_17 (by decide) ?_
  refine lv_istore_n (lv' := [(2, .int 0), (0, .ref b_), (1, .int (nI f))]) hx hb dX0_joinFrom_18 rfl hl (by decide) rfl (fun ls hl => ?_)
  have L_19 : ∀ (n_19 : Nat) (i : Nat) (t : Bst) (hi : i ≤ 100) (ht : Bok t) (hB : bfs kd (pcs + 1) (100 - i) i t = joinF kd (pcs + 1) f bt), 100 - i < n_19 → ∀ (H : Heap) (locs : List Loc) (ls : Array Slot), va_P D vwCl ((b_, .inr (1, [.ref ka_, .ref na_, .ref jo_, .ref me_, .int (nI t.2.2), .int (nI px), .int (nI pcs)])) :: (ka_, .inl (cI, 256, .inl (k2 kd))) :: (na_, .inl (cI, 256, .inl (l1 t.1))) :: (jo_, .inl (cI, 100, .inl (nf t.2.1))) :: (me_, .inl (cI, 100, .inl (nf me))) :: R) H → va_D A ((b_, .inr (1, [.ref ka_, .ref na_, .ref jo_, .ref me_, .int (nI t.2.2), .int (nI px), .int (nI pcs)])) :: (ka_, .inl (cI, 256, .inl (k2 kd))) :: (na_, .inl (cI, 256, .inl (l1 t.1))) :: (jo_, .inl (cI, 100, .inl (nf t.2.1))) :: (me_, .inl (cI, 100, .inl (nf me))) :: R) → va_S A s.heap H locs → lv_has ls 5 [(2, .int (nI i)), (0, .ref b_)] → W p l e (headSpec wsX0_joinFrom rX0_joinFrom).room s m ([.ref b_, .int (nI f)] : List Value).toArray below meth c H locs 0 0 Q (F0 m 19 ls []) := by
    intro n_19
    induction n_19 with
    | zero => intro i t hi ht hB hn_; exact absurd hn_ (Nat.not_lt_zero _)
    | succ n_19 ih_19 =>
      intro i t hi ht hB hn_19 H locs ls hP hD hS hl
      have htc := ht.2.2
      refine lv_iload_n hx hb dX0_joinFrom_19 rfl (lv_at hl 0 rfl) ?_
      refine lv_aload_n hx hb dX0_joinFrom_20 rfl (lv_at hl 1 rfl) ?_
      refine va_get (D := D) (ci := 1) (v := .int (nI t.2.2)) (C := RX0) (T := TX0) (N := 7) hx hb hts in_X0 hown hK hP 0 rfl rfl 4 (by decide) f_30 (fun _ h9 => h9) rfl dX0_joinFrom_21 ?_
      refine lv_icmp_ge (tgt := 96) hx hb dX0_joinFrom_24 (by decide) (fun c24 => ?_) (fun c24 => ?_)
      · skip
        have hu : t = joinF kd (pcs + 1) f bt := by rw [← hB]; exact (bfs_end (fun h => by have := (nI_leI (by omega) (by omega)).mp c24; omega)).symm
        subst hQe
        subst hAe
        subst hsz
        exact g_vret hx hb hr hlocks t hu hP hK hD hS dX0_joinFrom_96
      · skip
        have hi7 : i < t.2.2 := by have := mt (nI_leI (a := t.2.2) (b := i) (by omega) (by omega)).mpr c24; omega
        refine lv_iload_n hx hb dX0_joinFrom_27 rfl (lv_at hl 0 rfl) ?_
        refine lv_bipush (v := 100) hx hb dX0_joinFrom_28 (by decide) ?_
        refine lv_icmp_ge (tgt := 96) hx hb dX0_joinFrom_30 (by decide) (fun c30 => ?_) (fun c30 => ?_)
        · skip
          have hu : t = joinF kd (pcs + 1) f bt := by have := (nI_leI (a := 100) (by omega) (by omega)).mp c30; omega
          subst hQe
          subst hAe
          subst hsz
          exact g_vret hx hb hr hlocks t hu hP hK hD hS dX0_joinFrom_96
        · skip
          have hi8 : i < 100 := by have := mt (nI_leI (a := 100) (b := i) (by omega) (by omega)).mpr c30; omega
          have hti := ht.2.1 i
          refine lv_aload_n hx hb dX0_joinFrom_33 rfl (lv_at hl 1 rfl) ?_
          refine va_get (D := D) (ci := 1) (v := .ref jo_) (C := RX0) (T := TX0) (N := 7) hx hb hts in_X0 hown hK hP 0 rfl rfl 2 (by decide) f_18 (fun _ h9 => h9) rfl dX0_joinFrom_34 ?_
          refine lv_iload_n hx hb dX0_joinFrom_37 rfl (lv_at hl 0 rfl) ?_
          refine va_iald hx hb hK hP (3) 0 rfl rfl (by first | exact vp_in_nI (by omega) (by omega) | assumption) dX0_joinFrom_38 ?_
          refine lv_topi (fun x38 ex38 => ?_)
          rw [nI_clamp (by omega)] at ex38
          obtain rfl : x38 = nI (t.2.1 i) := by exact ex38
          refine lv_bipush (v := 16) hx hb dX0_joinFrom_39 (by decide) ?_
          refine lv_irem hx hb dX0_joinFrom_41 (by decide) ?_
          refine lv_topi (fun x41 ex41 => ?_)
          obtain rfl : x41 = nI (t.2.1 i % 16) := by rw [ex41]; exact pk_rem (d := 16) (by omega) (by omega) (by omega)
          refine lv_istore_n (lv' := [(3, .int (nI (t.2.1 i % 16))), (2, .int (nI i)), (0, .ref b_)]) hx hb dX0_joinFrom_42 rfl hl (by decide) rfl (fun ls hl => ?_)
          refine lv_aload_n hx hb dX0_joinFrom_43 rfl (lv_at hl 2 rfl) ?_
          refine va_get (D := D) (ci := 1) (v := .ref jo_) (C := RX0) (T := TX0) (N := 7) hx hb hts in_X0 hown hK hP 0 rfl rfl 2 (by decide) f_18 (fun _ h9 => h9) rfl dX0_joinFrom_44 ?_
          refine lv_iload_n hx hb dX0_joinFrom_47 rfl (lv_at hl 1 rfl) ?_
          refine va_iald hx hb hK hP (3) 0 rfl rfl (by first | exact vp_in_nI (by omega) (by omega) | assumption) dX0_joinFrom_48 ?_
          refine lv_topi (fun x48 ex48 => ?_)
          rw [nI_clamp (by omega)] at ex48
          obtain rfl : x48 = nI (t.2.1 i) := by exact ex48
          refine lv_bipush (v := 16) hx hb dX0_joinFrom_49 (by decide) ?_
          refine lv_idiv hx hb dX0_joinFrom_51 (by decide) ?_
          refine lv_topi (fun x51 ex51 => ?_)
          obtain rfl : x51 = nI (t.2.1 i / 16) := by rw [ex51]; exact pk_div (d := 16) (by omega) (by omega) (by omega)
          refine lv_istore (lv' := [(4, .int (nI (t.2.1 i / 16))), (3, .int (nI (t.2.1 i % 16))), (2, .int (nI i)), (0, .ref b_)]) hx hb dX0_joinFrom_52 hl (by decide) rfl (fun ls hl => ?_)
          refine lv_aload_n hx hb dX0_joinFrom_54 rfl (lv_at hl 3 rfl) ?_
          refine lv_iload_n hx hb dX0_joinFrom_55 rfl (lv_at hl 1 rfl) ?_
          refine lv_iload hx hb dX0_joinFrom_56 (lv_at hl 0 rfl) ?_
          refine lv_iconst (v := 1) hx hb dX0_joinFrom_58 (by decide) ?_
          refine lv_isub hx hb dX0_joinFrom_59 ?_
          refine lv_topi (fun x59 ex59 => ?_)
          obtain rfl : x59 = (nI (t.2.1 i / 16)) - 1 := by exact ex59
          refine gc_Vv (As := [.int (nI (t.2.1 i % 16)), .int ((nI (t.2.1 i / 16)) - 1)]) (rest := []) (ci := 1) (q0 := 0) ⟨hx, hb, hml, hown, hts⟩ (c_X0_join l D cI cJ cG H.size R b_ ka_ na_ jo_ me_ kd me px pcs t (nI (t.2.1 i % 16)) ((nI (t.2.1 i / 16)) - 1) hkd ht hp) (cwV 2 hts gX0_joinFrom_X0_join rfl rfl rfl (by decide +kernel) ⟨Nat.le_of_ble_eq_true rfl, Nat.le_of_ble_eq_true rfl⟩) rfl rfl rfl hK hP hD hS hA rfl hl.1 rfl (Nat.le_of_ble_eq_true rfl) dX0_joinFrom_60 ⟨Nat.le_of_ble_eq_true rfl, Nat.le_of_ble_eq_true rfl⟩ (fun u60 H locs h60 hP hD hS => ?_)
          subst h60
          have hP : va_P D vwCl ((b_, .inr (1, [.ref ka_, .ref na_, .ref jo_, .ref me_, .int (nI ((joinS kd (pcs + 1) (nI (t.2.1 i % 16)) ((nI (t.2.1 i / 16)) - 1) t).2.2)), .int (nI px), .int (nI pcs)])) :: (ka_, .inl (cI, 256, .inl (k2 kd))) :: (na_, .inl (cI, 256, .inl (l1 ((joinS kd (pcs + 1) (nI (t.2.1 i % 16)) ((nI (t.2.1 i / 16)) - 1) t).1)))) :: (jo_, .inl (cI, 100, .inl (nf ((joinS kd (pcs + 1) (nI (t.2.1 i % 16)) ((nI (t.2.1 i / 16)) - 1) t).2.1)))) :: (me_, .inl (cI, 100, .inl (nf me))) :: R) H := hP
          have hD : va_D A ((b_, .inr (1, [.ref ka_, .ref na_, .ref jo_, .ref me_, .int (nI ((joinS kd (pcs + 1) (nI (t.2.1 i % 16)) ((nI (t.2.1 i / 16)) - 1) t).2.2)), .int (nI px), .int (nI pcs)])) :: (ka_, .inl (cI, 256, .inl (k2 kd))) :: (na_, .inl (cI, 256, .inl (l1 ((joinS kd (pcs + 1) (nI (t.2.1 i % 16)) ((nI (t.2.1 i / 16)) - 1) t).1)))) :: (jo_, .inl (cI, 100, .inl (nf ((joinS kd (pcs + 1) (nI (t.2.1 i % 16)) ((nI (t.2.1 i / 16)) - 1) t).2.1)))) :: (me_, .inl (cI, 100, .inl (nf me))) :: R) := hD
          refine lv_aload_n hx hb dX0_joinFrom_63 rfl (lv_at hl 3 rfl) ?_
          refine lv_iload_n hx hb dX0_joinFrom_64 rfl (lv_at hl 1 rfl) ?_
          refine lv_iconst (v := 1) hx hb dX0_joinFrom_65 (by decide) ?_
          refine lv_isub hx hb dX0_joinFrom_66 ?_
          refine lv_topi (fun x66 ex66 => ?_)
          obtain rfl : x66 = (nI (t.2.1 i % 16)) - 1 := by exact ex66
          refine lv_iload hx hb dX0_joinFrom_67 (lv_at hl 0 rfl) ?_
          refine gc_Vv (As := [.int ((nI (t.2.1 i % 16)) - 1), .int (nI (t.2.1 i / 16))]) (rest := []) (ci := 1) (q0 := 0) ⟨hx, hb, hml, hown, hts⟩ (c_X0_join l D cI cJ cG H.size R b_ ka_ na_ jo_ me_ kd me px pcs (joinS kd (pcs + 1) (nI (t.2.1 i % 16)) ((nI (t.2.1 i / 16)) - 1) t) ((nI (t.2.1 i % 16)) - 1) (nI (t.2.1 i / 16)) hkd (by first | exact ht | exact joinS_ok (by omega) ht | exact joinS_ok (by omega) (joinS_ok (by omega) ht) | exact joinS_ok (by omega) (joinS_ok (by omega) (joinS_ok (by omega) ht))) hp) (cwV 2 hts gX0_joinFrom_X0_join rfl rfl rfl (by decide +kernel) ⟨Nat.le_of_ble_eq_true rfl, Nat.le_of_ble_eq_true rfl⟩) rfl rfl rfl hK hP hD hS hA rfl hl.1 rfl (Nat.le_of_ble_eq_true rfl) dX0_joinFrom_69 ⟨Nat.le_of_ble_eq_true rfl, Nat.le_of_ble_eq_true rfl⟩ (fun u69 H locs h69 hP hD hS => ?_)
          subst h69
          have hP : va_P D vwCl ((b_, .inr (1, [.ref ka_, .ref na_, .ref jo_, .ref me_, .int (nI ((joinS kd (pcs + 1) ((nI (t.2.1 i % 16)) - 1) (nI (t.2.1 i / 16)) (joinS kd (pcs + 1) (nI (t.2.1 i % 16)) ((nI (t.2.1 i / 16)) - 1) t)).2.2)), .int (nI px), .int (nI pcs)])) :: (ka_, .inl (cI, 256, .inl (k2 kd))) :: (na_, .inl (cI, 256, .inl (l1 ((joinS kd (pcs + 1) ((nI (t.2.1 i % 16)) - 1) (nI (t.2.1 i / 16)) (joinS kd (pcs + 1) (nI (t.2.1 i % 16)) ((nI (t.2.1 i / 16)) - 1) t)).1)))) :: (jo_, .inl (cI, 100, .inl (nf ((joinS kd (pcs + 1) ((nI (t.2.1 i % 16)) - 1) (nI (t.2.1 i / 16)) (joinS kd (pcs + 1) (nI (t.2.1 i % 16)) ((nI (t.2.1 i / 16)) - 1) t)).2.1)))) :: (me_, .inl (cI, 100, .inl (nf me))) :: R) H := hP
          have hD : va_D A ((b_, .inr (1, [.ref ka_, .ref na_, .ref jo_, .ref me_, .int (nI ((joinS kd (pcs + 1) ((nI (t.2.1 i % 16)) - 1) (nI (t.2.1 i / 16)) (joinS kd (pcs + 1) (nI (t.2.1 i % 16)) ((nI (t.2.1 i / 16)) - 1) t)).2.2)), .int (nI px), .int (nI pcs)])) :: (ka_, .inl (cI, 256, .inl (k2 kd))) :: (na_, .inl (cI, 256, .inl (l1 ((joinS kd (pcs + 1) ((nI (t.2.1 i % 16)) - 1) (nI (t.2.1 i / 16)) (joinS kd (pcs + 1) (nI (t.2.1 i % 16)) ((nI (t.2.1 i / 16)) - 1) t)).1)))) :: (jo_, .inl (cI, 100, .inl (nf ((joinS kd (pcs + 1) ((nI (t.2.1 i % 16)) - 1) (nI (t.2.1 i / 16)) (joinS kd (pcs + 1) (nI (t.2.1 i % 16)) ((nI (t.2.1 i / 16)) - 1) t)).2.1)))) :: (me_, .inl (cI, 100, .inl (nf me))) :: R) := hD
          refine lv_aload_n hx hb dX0_joinFrom_72 rfl (lv_at hl 3 rfl) ?_
          refine lv_iload_n hx hb dX0_joinFrom_73 rfl (lv_at hl 1 rfl) ?_
          refine lv_iconst (v := 1) hx hb dX0_joinFrom_74 (by decide) ?_
          refine lv_iadd hx hb dX0_joinFrom_75 ?_
          refine lv_topi (fun x75 ex75 => ?_)
          obtain rfl : x75 = (nI (t.2.1 i % 16)) + 1 := by exact ex75
          refine lv_iload hx hb dX0_joinFrom_76 (lv_at hl 0 rfl) ?_
          refine gc_Vv (As := [.int ((nI (t.2.1 i % 16)) + 1), .int (nI (t.2.1 i / 16))]) (rest := []) (ci := 1) (q0 := 0) ⟨hx, hb, hml, hown, hts⟩ (c_X0_join l D cI cJ cG H.size R b_ ka_ na_ jo_ me_ kd me px pcs (joinS kd (pcs + 1) ((nI (t.2.1 i % 16)) - 1) (nI (t.2.1 i / 16)) (joinS kd (pcs + 1) (nI (t.2.1 i % 16)) ((nI (t.2.1 i / 16)) - 1) t)) ((nI (t.2.1 i % 16)) + 1) (nI (t.2.1 i / 16)) hkd (by first | exact ht | exact joinS_ok (by omega) ht | exact joinS_ok (by omega) (joinS_ok (by omega) ht) | exact joinS_ok (by omega) (joinS_ok (by omega) (joinS_ok (by omega) ht))) hp) (cwV 2 hts gX0_joinFrom_X0_join rfl rfl rfl (by decide +kernel) ⟨Nat.le_of_ble_eq_true rfl, Nat.le_of_ble_eq_true rfl⟩) rfl rfl rfl hK hP hD hS hA rfl hl.1 rfl (Nat.le_of_ble_eq_true rfl) dX0_joinFrom_78 ⟨Nat.le_of_ble_eq_true rfl, Nat.le_of_ble_eq_true rfl⟩ (fun u78 H locs h78 hP hD hS => ?_)
          subst h78
          have hP : va_P D vwCl ((b_, .inr (1, [.ref ka_, .ref na_, .ref jo_, .ref me_, .int (nI ((joinS kd (pcs + 1) ((nI (t.2.1 i % 16)) + 1) (nI (t.2.1 i / 16)) (joinS kd (pcs + 1) ((nI (t.2.1 i % 16)) - 1) (nI (t.2.1 i / 16)) (joinS kd (pcs + 1) (nI (t.2.1 i % 16)) ((nI (t.2.1 i / 16)) - 1) t))).2.2)), .int (nI px), .int (nI pcs)])) :: (ka_, .inl (cI, 256, .inl (k2 kd))) :: (na_, .inl (cI, 256, .inl (l1 ((joinS kd (pcs + 1) ((nI (t.2.1 i % 16)) + 1) (nI (t.2.1 i / 16)) (joinS kd (pcs + 1) ((nI (t.2.1 i % 16)) - 1) (nI (t.2.1 i / 16)) (joinS kd (pcs + 1) (nI (t.2.1 i % 16)) ((nI (t.2.1 i / 16)) - 1) t))).1)))) :: (jo_, .inl (cI, 100, .inl (nf ((joinS kd (pcs + 1) ((nI (t.2.1 i % 16)) + 1) (nI (t.2.1 i / 16)) (joinS kd (pcs + 1) ((nI (t.2.1 i % 16)) - 1) (nI (t.2.1 i / 16)) (joinS kd (pcs + 1) (nI (t.2.1 i % 16)) ((nI (t.2.1 i / 16)) - 1) t))).2.1)))) :: (me_, .inl (cI, 100, .inl (nf me))) :: R) H := hP
          have hD : va_D A ((b_, .inr (1, [.ref ka_, .ref na_, .ref jo_, .ref me_, .int (nI ((joinS kd (pcs + 1) ((nI (t.2.1 i % 16)) + 1) (nI (t.2.1 i / 16)) (joinS kd (pcs + 1) ((nI (t.2.1 i % 16)) - 1) (nI (t.2.1 i / 16)) (joinS kd (pcs + 1) (nI (t.2.1 i % 16)) ((nI (t.2.1 i / 16)) - 1) t))).2.2)), .int (nI px), .int (nI pcs)])) :: (ka_, .inl (cI, 256, .inl (k2 kd))) :: (na_, .inl (cI, 256, .inl (l1 ((joinS kd (pcs + 1) ((nI (t.2.1 i % 16)) + 1) (nI (t.2.1 i / 16)) (joinS kd (pcs + 1) ((nI (t.2.1 i % 16)) - 1) (nI (t.2.1 i / 16)) (joinS kd (pcs + 1) (nI (t.2.1 i % 16)) ((nI (t.2.1 i / 16)) - 1) t))).1)))) :: (jo_, .inl (cI, 100, .inl (nf ((joinS kd (pcs + 1) ((nI (t.2.1 i % 16)) + 1) (nI (t.2.1 i / 16)) (joinS kd (pcs + 1) ((nI (t.2.1 i % 16)) - 1) (nI (t.2.1 i / 16)) (joinS kd (pcs + 1) (nI (t.2.1 i % 16)) ((nI (t.2.1 i / 16)) - 1) t))).2.1)))) :: (me_, .inl (cI, 100, .inl (nf me))) :: R) := hD
          refine lv_aload_n hx hb dX0_joinFrom_81 rfl (lv_at hl 3 rfl) ?_
          refine lv_iload_n hx hb dX0_joinFrom_82 rfl (lv_at hl 1 rfl) ?_
          refine lv_iload hx hb dX0_joinFrom_83 (lv_at hl 0 rfl) ?_
          refine lv_iconst (v := 1) hx hb dX0_joinFrom_85 (by decide) ?_
          refine lv_iadd hx hb dX0_joinFrom_86 ?_
          refine lv_topi (fun x86 ex86 => ?_)
          obtain rfl : x86 = (nI (t.2.1 i / 16)) + 1 := by exact ex86
          refine gc_Vv (As := [.int (nI (t.2.1 i % 16)), .int ((nI (t.2.1 i / 16)) + 1)]) (rest := []) (ci := 1) (q0 := 0) ⟨hx, hb, hml, hown, hts⟩ (c_X0_join l D cI cJ cG H.size R b_ ka_ na_ jo_ me_ kd me px pcs (joinS kd (pcs + 1) ((nI (t.2.1 i % 16)) + 1) (nI (t.2.1 i / 16)) (joinS kd (pcs + 1) ((nI (t.2.1 i % 16)) - 1) (nI (t.2.1 i / 16)) (joinS kd (pcs + 1) (nI (t.2.1 i % 16)) ((nI (t.2.1 i / 16)) - 1) t))) (nI (t.2.1 i % 16)) ((nI (t.2.1 i / 16)) + 1) hkd (by first | exact ht | exact joinS_ok (by omega) ht | exact joinS_ok (by omega) (joinS_ok (by omega) ht) | exact joinS_ok (by omega) (joinS_ok (by omega) (joinS_ok (by omega) ht))) hp) (cwV 2 hts gX0_joinFrom_X0_join rfl rfl rfl (by decide +kernel) ⟨Nat.le_of_ble_eq_true rfl, Nat.le_of_ble_eq_true rfl⟩) rfl rfl rfl hK hP hD hS hA rfl hl.1 rfl (Nat.le_of_ble_eq_true rfl) dX0_joinFrom_87 ⟨Nat.le_of_ble_eq_true rfl, Nat.le_of_ble_eq_true rfl⟩ (fun u87 H locs h87 hP hD hS => ?_)
          subst h87
          have hP : va_P D vwCl ((b_, .inr (1, [.ref ka_, .ref na_, .ref jo_, .ref me_, .int (nI ((four kd (pcs + 1) (nI (t.2.1 i % 16)) (nI (t.2.1 i / 16)) t).2.2)), .int (nI px), .int (nI pcs)])) :: (ka_, .inl (cI, 256, .inl (k2 kd))) :: (na_, .inl (cI, 256, .inl (l1 ((four kd (pcs + 1) (nI (t.2.1 i % 16)) (nI (t.2.1 i / 16)) t).1)))) :: (jo_, .inl (cI, 100, .inl (nf ((four kd (pcs + 1) (nI (t.2.1 i % 16)) (nI (t.2.1 i / 16)) t).2.1)))) :: (me_, .inl (cI, 100, .inl (nf me))) :: R) H := hP
          have hD : va_D A ((b_, .inr (1, [.ref ka_, .ref na_, .ref jo_, .ref me_, .int (nI ((four kd (pcs + 1) (nI (t.2.1 i % 16)) (nI (t.2.1 i / 16)) t).2.2)), .int (nI px), .int (nI pcs)])) :: (ka_, .inl (cI, 256, .inl (k2 kd))) :: (na_, .inl (cI, 256, .inl (l1 ((four kd (pcs + 1) (nI (t.2.1 i % 16)) (nI (t.2.1 i / 16)) t).1)))) :: (jo_, .inl (cI, 100, .inl (nf ((four kd (pcs + 1) (nI (t.2.1 i % 16)) (nI (t.2.1 i / 16)) t).2.1)))) :: (me_, .inl (cI, 100, .inl (nf me))) :: R) := hD
          obtain ⟨x90, ex90⟩ : ∃ y : Int32, y = (nI i) + 1 := ⟨_, rfl⟩
          refine lv_iinc (v := x90) (lv' := [(2, .int x90), (4, .int (nI (t.2.1 i / 16))), (3, .int (nI (t.2.1 i % 16))), (0, .ref b_)]) hx hb dX0_joinFrom_90 hl (k := 2) rfl (by rw [ex90]; rfl) (by decide) rfl (fun ls hl => ?_)
          obtain rfl : x90 = nI (i + 1) := by rw [ex90]; exact nI_1 _
          refine lv_goto (tgt := 19) hx hb dX0_joinFrom_93 (by decide) ?_
          exact ih_19 (i + 1) (four kd (pcs + 1) (nI (t.2.1 i % 16)) (nI (t.2.1 i / 16)) t) (by omega) (four_ok (by omega) ht) (by rw [← bfs_step hi8 hi7]; exact hB) (by omega) H locs ls hP hD hS (lv_sub hl [0, 3] rfl)
  exact L_19 _ 0 (joinS kd (pcs + 1) (nI (f % 16)) (nI (f / 16)) (bt.1, bt.2.1, 0)) (Nat.zero_le _) (joinS_ok (by omega) ⟨hbt.1, hbt.2.1, Nat.zero_le _⟩) rfl (Nat.lt_succ_self _) H locs ls hP hD hS (lv_sub hl [0, 1] rfl)
end
section
theorem inB_vp {x : Int32} {n : Nat} (h : inB x n = true) : vp_in x n := by
  unfold inB at h
  simp at h
  exact vp_in_iff.mpr ⟨h.1, by omega⟩
theorem j1_s (j : Nat) : nI j - 1 + 1 = nI (j + 1) - 1 := by
  rw [add_sub1, Int32.sub_add_cancel]
theorem metP_s {lb : Nat → Nat} {q : Nat} {me : Nat → Nat} {p : Nat} (h : lb p = q + 1) : metI lb (nI (p % 16)) (nI (p / 16)) 3 (metP lb q me p) = metP lb q me (p + 1) := (if_pos h).symm
theorem metP_n {lb : Nat → Nat} {q : Nat} {me : Nat → Nat} {p : Nat} (h : ¬ lb p = q + 1) : metP lb q me p = metP lb q me (p + 1) := (if_neg h).symm
theorem nbN_n {lb : Nat → Nat} {q : Nat} {me : Nat → Nat} {o : Nat} (h : ¬ o = q) : nbN lb q me o + metP lb q me 256 o = nbN lb q me (o + 1) := by
  show _ = nbN lb q me o + (if o = q then 0 else metP lb q me 256 o)
  rw [if_neg h]
theorem nbN_s {lb : Nat → Nat} {q : Nat} {me : Nat → Nat} {o : Nat} (h : o = q) : nbN lb q me o + 0 = nbN lb q me (o + 1) := by
  show _ = nbN lb q me o + (if o = q then 0 else metP lb q me 256 o)
  rw [if_pos h]
end
section
theorem pm_2_0_1_3_4_P {D : va_G} {cl : List vw_C} {H : Heap} {x0 x1 x2 x3 x4 : Nat × va_E} {T : va_W} (h : va_P D cl (x0 :: x1 :: x2 :: x3 :: x4 :: T) H) : va_P D cl (x2 :: x0 :: x1 :: x3 :: x4 :: T) H := va_P.part (X := [x0, x1, x2, x3, x4]) (pl := T) (cx := [x2, x0, x1, x3, x4]) h [2, 0, 1, 3, 4] rfl
theorem pm_2_0_1_3_4_D {A : Nat → Prop} {x0 x1 x2 x3 x4 : Nat × va_E} {T : va_W} (h : va_D A (x0 :: x1 :: x2 :: x3 :: x4 :: T)) : va_D A (x2 :: x0 :: x1 :: x3 :: x4 :: T) := va_D.part (X := [x0, x1, x2, x3, x4]) (pl := T) (cx := [x2, x0, x1, x3, x4]) h [2, 0, 1, 3, 4] (by decide) rfl
theorem pm_1_2_0_3_4_P {D : va_G} {cl : List vw_C} {H : Heap} {x0 x1 x2 x3 x4 : Nat × va_E} {T : va_W} (h : va_P D cl (x0 :: x1 :: x2 :: x3 :: x4 :: T) H) : va_P D cl (x1 :: x2 :: x0 :: x3 :: x4 :: T) H := va_P.part (X := [x0, x1, x2, x3, x4]) (pl := T) (cx := [x1, x2, x0, x3, x4]) h [1, 2, 0, 3, 4] rfl
theorem pm_1_2_0_3_4_D {A : Nat → Prop} {x0 x1 x2 x3 x4 : Nat × va_E} {T : va_W} (h : va_D A (x0 :: x1 :: x2 :: x3 :: x4 :: T)) : va_D A (x1 :: x2 :: x0 :: x3 :: x4 :: T) := va_D.part (X := [x0, x1, x2, x3, x4]) (pl := T) (cx := [x1, x2, x0, x3, x4]) h [1, 2, 0, 3, 4] (by decide) rfl
abbrev rX0_numberPieces : Room := { frames := 3, cells := 0, slots := 0, locals := 68 }
set_option maxHeartbeats 4000000 in
set_option maxRecDepth 100000 in
theorem c_X0_numberPieces (l : Launch) (D : va_G) (cI cJ cG : ClassId) (sz : Nat) (R : va_W) (b_ ka_ na_ jo_ me_ : Nat) (kd me : Nat → Nat) (px pcs : Nat) (bt : Bst) (hkd : ∀ p, kd p ≤ 6) (hbt : Bok bt) : Met l yX0_numberPieces wsX0_numberPieces rX0_numberPieces (gP D (tyl cI cJ cG) [.ref b_] ((b_, .inr (1, [.ref ka_, .ref na_, .ref jo_, .ref me_, .int (nI bt.2.2), .int (nI px), .int (nI pcs)])) :: (ka_, .inl (cI, 256, .inl (k2 kd))) :: (na_, .inl (cI, 256, .inl (l1 bt.1))) :: (jo_, .inl (cI, 100, .inl (nf bt.2.1))) :: (me_, .inl (cI, 100, .inl (nf me))) :: R) sz) (gQv D (tyl cI cJ cG) ((b_, .inr (1, [.ref ka_, .ref na_, .ref jo_, .ref me_, .int (nI bt.2.2), .int (nI px), .int (nI pcs)])) :: (ka_, .inl (cI, 256, .inl (k2 kd))) :: (na_, .inl (cI, 256, .inl (l1 bt.1))) :: (jo_, .inl (cI, 100, .inl (nf bt.2.1))) :: (me_, .inl (cI, 100, .inl (nf me))) :: R) sz (fun (u : Bst × Nat) => u = numL kd (clr bt) 256) (fun u => ((b_, .inr (1, [.ref ka_, .ref na_, .ref jo_, .ref me_, .int (nI u.1.2.2), .int (nI px), .int (nI u.2)])) :: (ka_, .inl (cI, 256, .inl (k2 kd))) :: (na_, .inl (cI, 256, .inl (l1 u.1.1))) :: (jo_, .inl (cI, 100, .inl (nf u.1.2.1))) :: (me_, .inl (cI, 100, .inl (nf me))) :: R))) 0 0 (va_A ((b_, .inr (1, [.ref ka_, .ref na_, .ref jo_, .ref me_, .int (nI bt.2.2), .int (nI px), .int (nI pcs)])) :: (ka_, .inl (cI, 256, .inl (k2 kd))) :: (na_, .inl (cI, 256, .inl (l1 bt.1))) :: (jo_, .inl (cI, 100, .inl (nf bt.2.1))) :: (me_, .inl (cI, 100, .inl (nf me))) :: R) sz) := by
  refine gMet (cc := cX0_numberPieces) (maxL := 2) (ret := none) (ls0 := [(0, .ref b_)]) (by decide) rfl (Nat.le_of_ble_eq_true rfl) rfl ?_
  intro p e s m below meth c hx hb hr hts hown hlocks hml hname A hA hAe hsz Q hQe H locs hP hK hD hS ls hl
  have hown : s.vm.findClass RX0 = some m.cls := hown
  have in_X0 : ∀ w ∈ wsX00, w ∈ wsX0_numberPieces := by decide +kernel
  have f_15 := hts (.fieldLink RX0 15 "SpectrumHeads$Belt" "numberAt" "[I") (by decide +kernel)
  have f_37 := hts (.fieldLink RX0 37 "SpectrumHeads$Belt" "pieces" "I") (by decide +kernel)
  have f_11 := hts (.fieldLink RX0 11 "SpectrumHeads$Belt" "kindAt" "[I") (by decide +kernel)
  refine lv_aload_n hx hb dX0_numberPieces_0 rfl (lv_at hl 0 rfl) ?_
  refine va_get (D := D) (ci := 1) (v := .ref na_) (C := RX0) (T := TX0) (N := 7) hx hb hts in_X0 hown hK hP 0 rfl rfl 1 (by decide) f_15 (fun _ h9 => h9) rfl dX0_numberPieces_1 ?_
  refine lv_iconst (v := -1) hx hb dX0_numberPieces_4 (by decide) ?_
  have hP := pm_2_0_1_3_4_P hP
  have hD := pm_2_0_1_3_4_D hD
  refine gc_Sv (As := [.ref na_, .int (-1)]) (rest := []) ⟨hx, hb, hml, hown, hts⟩ (c_J7_fill_53178 l D cI cJ cG H.size ((b_, .inr (1, [.ref ka_, .ref na_, .ref jo_, .ref me_, .int (nI bt.2.2), .int (nI px), .int (nI pcs)])) :: (ka_, .inl (cI, 256, .inl (k2 kd))) :: (jo_, .inl (cI, 100, .inl (nf bt.2.1))) :: (me_, .inl (cI, 100, .inl (nf me))) :: R) na_ 256 (l1 bt.1) (-1) (by omega)) (va_cwS 2 hts gX0_numberPieces_J7_fill_53178 rfl rfl rfl (by decide +kernel) ⟨Nat.le_of_ble_eq_true rfl, Nat.le_of_ble_eq_true rfl⟩) hK hP hD hS hA rfl hl.1 rfl (Nat.le_of_ble_eq_true rfl) dX0_numberPieces_5 ⟨Nat.le_of_ble_eq_true rfl, Nat.le_of_ble_eq_true rfl⟩ (fun u5 H locs h5 hP hD hS => ?_)
  have hP : va_P D vwCl ((na_, .inl (cI, 256, .inl (fu (fun _ => ((-1) : Int32)) (l1 bt.1) 256))) :: (b_, .inr (1, [.ref ka_, .ref na_, .ref jo_, .ref me_, .int (nI bt.2.2), .int (nI px), .int (nI pcs)])) :: (ka_, .inl (cI, 256, .inl (k2 kd))) :: (jo_, .inl (cI, 100, .inl (nf bt.2.1))) :: (me_, .inl (cI, 100, .inl (nf me))) :: R) H := hP
  have hD : va_D A ((na_, .inl (cI, 256, .inl (fu (fun _ => ((-1) : Int32)) (l1 bt.1) 256))) :: (b_, .inr (1, [.ref ka_, .ref na_, .ref jo_, .ref me_, .int (nI bt.2.2), .int (nI px), .int (nI pcs)])) :: (ka_, .inl (cI, 256, .inl (k2 kd))) :: (jo_, .inl (cI, 100, .inl (nf bt.2.1))) :: (me_, .inl (cI, 100, .inl (nf me))) :: R) := hD
  rw [show fu (fun _ => ((-1) : Int32)) (l1 bt.1) 256 = l1 (clr bt).1 from l1_fill _] at hP hD
  have hP := pm_1_2_0_3_4_P hP
  have hD := pm_1_2_0_3_4_D hD
  have hP : va_P D vwCl ((b_, .inr (1, [.ref ka_, .ref na_, .ref jo_, .ref me_, .int (nI bt.2.2), .int (nI px), .int (nI pcs)])) :: (ka_, .inl (cI, 256, .inl (k2 kd))) :: (na_, .inl (cI, 256, .inl (l1 (clr bt).1))) :: (jo_, .inl (cI, 100, .inl (nf bt.2.1))) :: (me_, .inl (cI, 100, .inl (nf me))) :: R) H := hP
  have hD : va_D A ((b_, .inr (1, [.ref ka_, .ref na_, .ref jo_, .ref me_, .int (nI bt.2.2), .int (nI px), .int (nI pcs)])) :: (ka_, .inl (cI, 256, .inl (k2 kd))) :: (na_, .inl (cI, 256, .inl (l1 (clr bt).1))) :: (jo_, .inl (cI, 100, .inl (nf bt.2.1))) :: (me_, .inl (cI, 100, .inl (nf me))) :: R) := hD
  refine lv_aload_n hx hb dX0_numberPieces_8 rfl (lv_at hl 0 rfl) ?_
  refine lv_iconst (v := 0) hx hb dX0_numberPieces_9 (by decide) ?_
  refine va_put (D := D) (ci := 1) (v := .int 0) (ty := .int) (C := RX0) (T := TX0) (N := 7) hx hb hts in_X0 tyX0 tyX0_ok nmX0 hown hK hP hD hS 0 rfl rfl 6 (by decide) f_37 (fun _ h9 => h9) rfl (by decide +kernel) rfl rfl (Nat.le_of_ble_eq_true rfl) dX0_numberPieces_10 (fun H locs hP hD hS => ?_)
  have hP : va_P D vwCl ((b_, .inr (1, [.ref ka_, .ref na_, .ref jo_, .ref me_, .int (nI bt.2.2), .int (nI px), .int 0])) :: (ka_, .inl (cI, 256, .inl (k2 kd))) :: (na_, .inl (cI, 256, .inl (l1 (clr bt).1))) :: (jo_, .inl (cI, 100, .inl (nf bt.2.1))) :: (me_, .inl (cI, 100, .inl (nf me))) :: R) H := hP
  have hD : va_D A ((b_, .inr (1, [.ref ka_, .ref na_, .ref jo_, .ref me_, .int (nI bt.2.2), .int (nI px), .int 0])) :: (ka_, .inl (cI, 256, .inl (k2 kd))) :: (na_, .inl (cI, 256, .inl (l1 (clr bt).1))) :: (jo_, .inl (cI, 100, .inl (nf bt.2.1))) :: (me_, .inl (cI, 100, .inl (nf me))) :: R) := hD
  refine lv_iconst (v := 0) hx hb dX0_numberPieces_13 (by decide) ?_
  refine lv_istore_n (lv' := [(1, .int 0), (0, .ref b_)]) hx hb dX0_numberPieces_14 rfl hl (by decide) rfl (fun ls hl => ?_)
  have L_15 : ∀ (n_15 : Nat) (i : Nat) (hi : i ≤ 256), 256 - i < n_15 → ∀ (H : Heap) (locs : List Loc) (ls : Array Slot), va_P D vwCl ((b_, .inr (1, [.ref ka_, .ref na_, .ref jo_, .ref me_, .int (nI (((numL kd (clr bt) i).1).2.2)), .int (nI px), .int (nI ((numL kd (clr bt) i).2))])) :: (ka_, .inl (cI, 256, .inl (k2 kd))) :: (na_, .inl (cI, 256, .inl (l1 (((numL kd (clr bt) i).1).1)))) :: (jo_, .inl (cI, 100, .inl (nf (((numL kd (clr bt) i).1).2.1)))) :: (me_, .inl (cI, 100, .inl (nf me))) :: R) H → va_D A ((b_, .inr (1, [.ref ka_, .ref na_, .ref jo_, .ref me_, .int (nI (((numL kd (clr bt) i).1).2.2)), .int (nI px), .int (nI ((numL kd (clr bt) i).2))])) :: (ka_, .inl (cI, 256, .inl (k2 kd))) :: (na_, .inl (cI, 256, .inl (l1 (((numL kd (clr bt) i).1).1)))) :: (jo_, .inl (cI, 100, .inl (nf (((numL kd (clr bt) i).1).2.1)))) :: (me_, .inl (cI, 100, .inl (nf me))) :: R) → va_S A s.heap H locs → lv_has ls 2 [(1, .int (nI i)), (0, .ref b_)] → W p l e (headSpec wsX0_numberPieces rX0_numberPieces).room s m ([.ref b_] : List Value).toArray below meth c H locs 0 0 Q (F0 m 15 ls []) := by
    intro n_15
    induction n_15 with
    | zero => intro i hi hn_; exact absurd hn_ (Nat.not_lt_zero _)
    | succ n_15 ih_15 =>
      intro i hi hn_15 H locs ls hP hD hS hl
      have hok := numL_ok (kd := kd) (clr_ok hbt) i hi
      have hnl := numL_le kd (clr bt) i
      refine lv_iload_n hx hb dX0_numberPieces_15 rfl (lv_at hl 0 rfl) ?_
      refine lv_sipush (v := 256) hx hb dX0_numberPieces_16 (by decide) ?_
      refine lv_icmp_ge (tgt := 62) hx hb dX0_numberPieces_19 (by decide) (fun c19 => ?_) (fun c19 => ?_)
      · skip
        have hE19 := lp_e (n := 256) c19 hi
        subst hE19
        subst hQe
        subst hAe
        subst hsz
        exact g_vret hx hb hr hlocks (numL kd (clr bt) 256) rfl hP hK hD hS dX0_numberPieces_62
      · skip
        have hi8 := lp_l (n := 256) c19 hi
        have hpp : (numL kd (clr bt) i).2 ≤ 255 := by omega
        have hk6 := hkd i
        have hl6 := hok.1 i
        refine lv_aload_n hx hb dX0_numberPieces_22 rfl (lv_at hl 1 rfl) ?_
        refine va_get (D := D) (ci := 1) (v := .ref ka_) (C := RX0) (T := TX0) (N := 7) hx hb hts in_X0 hown hK hP 0 rfl rfl 0 (by decide) f_11 (fun _ h9 => h9) rfl dX0_numberPieces_23 ?_
        refine lv_iload_n hx hb dX0_numberPieces_26 rfl (lv_at hl 0 rfl) ?_
        refine va_iald hx hb hK hP (1) 0 rfl rfl (by first | exact vp_in_nI (by omega) (by omega) | assumption) dX0_numberPieces_27 ?_
        refine lv_topi (fun x27 ex27 => ?_)
        rw [nI_clamp (by omega)] at ex27
        obtain rfl : x27 = nI (kd i) - 2 := by exact ex27
        refine lv_if_lt (tgt := 56) hx hb dX0_numberPieces_28 (by decide) (fun c28 => ?_) (fun c28 => ?_)
        · skip
          have hsk : ¬ (2 ≤ kd i ∧ (numL kd (clr bt) i).1.1 i = 0) := fun h => by have := (k2_neg (by omega)).mp c28; omega
          rw [numL_n hsk] at hP hD
          obtain ⟨x56, ex56⟩ : ∃ y : Int32, y = (nI i) + 1 := ⟨_, rfl⟩
          refine lv_iinc (v := x56) (lv' := [(1, .int x56), (0, .ref b_)]) hx hb dX0_numberPieces_56 hl (k := 0) rfl (by rw [ex56]; rfl) (by decide) rfl (fun ls hl => ?_)
          obtain rfl : x56 = nI (i + 1) := by rw [ex56]; exact nI_1 _
          refine lv_goto (tgt := 15) hx hb dX0_numberPieces_59 (by decide) ?_
          exact ih_15 (i + 1) (by omega) (by omega) H locs ls hP hD hS (lv_sub hl [0, 1] rfl)
        · skip
          have hk2 : 2 ≤ kd i := by have := mt (k2_neg (by omega)).mpr c28; omega
          refine lv_aload_n hx hb dX0_numberPieces_31 rfl (lv_at hl 1 rfl) ?_
          refine va_get (D := D) (ci := 1) (v := .ref na_) (C := RX0) (T := TX0) (N := 7) hx hb hts in_X0 hown hK hP 0 rfl rfl 1 (by decide) f_15 (fun _ h9 => h9) rfl dX0_numberPieces_32 ?_
          refine lv_iload_n hx hb dX0_numberPieces_35 rfl (lv_at hl 0 rfl) ?_
          refine va_iald hx hb hK hP (2) 0 rfl rfl (by first | exact vp_in_nI (by omega) (by omega) | assumption) dX0_numberPieces_36 ?_
          refine lv_topi (fun x36 ex36 => ?_)
          rw [nI_clamp (by omega)] at ex36
          obtain rfl : x36 = nI ((numL kd (clr bt) i).1.1 i) - 1 := by exact ex36
          refine lv_iconst (v := -1) hx hb dX0_numberPieces_37 (by decide) ?_
          refine lv_icmp_ne (tgt := 56) hx hb dX0_numberPieces_38 (by decide) (fun c38 => ?_) (fun c38 => ?_)
          · skip
            have hsk : ¬ (2 ≤ kd i ∧ (numL kd (clr bt) i).1.1 i = 0) := fun h => c38 ((l1_none (by omega)).mpr h.2)
            rw [numL_n hsk] at hP hD
            obtain ⟨x56, ex56⟩ : ∃ y : Int32, y = (nI i) + 1 := ⟨_, rfl⟩
            refine lv_iinc (v := x56) (lv' := [(1, .int x56), (0, .ref b_)]) hx hb dX0_numberPieces_56 hl (k := 0) rfl (by rw [ex56]; rfl) (by decide) rfl (fun ls hl => ?_)
            obtain rfl : x56 = nI (i + 1) := by rw [ex56]; exact nI_1 _
            refine lv_goto (tgt := 15) hx hb dX0_numberPieces_59 (by decide) ?_
            exact ih_15 (i + 1) (by omega) (by omega) H locs ls hP hD hS (lv_sub hl [0, 1] rfl)
          · skip
            have hl0 : (numL kd (clr bt) i).1.1 i = 0 := (l1_none (by omega)).mp c38
            refine lv_aload_n hx hb dX0_numberPieces_41 rfl (lv_at hl 1 rfl) ?_
            refine lv_iload_n hx hb dX0_numberPieces_42 rfl (lv_at hl 0 rfl) ?_
            refine gc_Vv (As := [.int (nI i)]) (rest := []) (ci := 1) (q0 := 0) ⟨hx, hb, hml, hown, hts⟩ (c_X0_joinFrom l D cI cJ cG H.size R b_ ka_ na_ jo_ me_ kd me px (numL kd (clr bt) i).2 (numL kd (clr bt) i).1 i hi8 hkd hok hpp) (cwV 1 hts gX0_numberPieces_X0_joinFrom rfl rfl rfl (by decide +kernel) ⟨Nat.le_of_ble_eq_true rfl, Nat.le_of_ble_eq_true rfl⟩) rfl rfl rfl hK hP hD hS hA rfl hl.1 rfl (Nat.le_of_ble_eq_true rfl) dX0_numberPieces_43 ⟨Nat.le_of_ble_eq_true rfl, Nat.le_of_ble_eq_true rfl⟩ (fun u43 H locs h43 hP hD hS => ?_)
            subst h43
            have hP : va_P D vwCl ((b_, .inr (1, [.ref ka_, .ref na_, .ref jo_, .ref me_, .int (nI ((joinF kd ((numL kd (clr bt) i).2 + 1) i (numL kd (clr bt) i).1).2.2)), .int (nI px), .int (nI ((numL kd (clr bt) i).2))])) :: (ka_, .inl (cI, 256, .inl (k2 kd))) :: (na_, .inl (cI, 256, .inl (l1 ((joinF kd ((numL kd (clr bt) i).2 + 1) i (numL kd (clr bt) i).1).1)))) :: (jo_, .inl (cI, 100, .inl (nf ((joinF kd ((numL kd (clr bt) i).2 + 1) i (numL kd (clr bt) i).1).2.1)))) :: (me_, .inl (cI, 100, .inl (nf me))) :: R) H := hP
            have hD : va_D A ((b_, .inr (1, [.ref ka_, .ref na_, .ref jo_, .ref me_, .int (nI ((joinF kd ((numL kd (clr bt) i).2 + 1) i (numL kd (clr bt) i).1).2.2)), .int (nI px), .int (nI ((numL kd (clr bt) i).2))])) :: (ka_, .inl (cI, 256, .inl (k2 kd))) :: (na_, .inl (cI, 256, .inl (l1 ((joinF kd ((numL kd (clr bt) i).2 + 1) i (numL kd (clr bt) i).1).1)))) :: (jo_, .inl (cI, 100, .inl (nf ((joinF kd ((numL kd (clr bt) i).2 + 1) i (numL kd (clr bt) i).1).2.1)))) :: (me_, .inl (cI, 100, .inl (nf me))) :: R) := hD
            refine lv_aload_n hx hb dX0_numberPieces_46 rfl (lv_at hl 1 rfl) ?_
            refine lv_dup hx hb dX0_numberPieces_47 rfl ?_
            refine va_get (D := D) (ci := 1) (v := .int (nI ((numL kd (clr bt) i).2))) (C := RX0) (T := TX0) (N := 7) hx hb hts in_X0 hown hK hP 0 rfl rfl 6 (by decide) f_37 (fun _ h9 => h9) rfl dX0_numberPieces_48 ?_
            refine lv_iconst (v := 1) hx hb dX0_numberPieces_51 (by decide) ?_
            refine lv_iadd hx hb dX0_numberPieces_52 ?_
            refine lv_topi (fun x52 ex52 => ?_)
            obtain rfl : x52 = nI ((numL kd (clr bt) i).2 + 1) := by rw [ex52]; exact nI_1 _
            refine va_put (D := D) (ci := 1) (v := .int (nI ((numL kd (clr bt) i).2 + 1))) (ty := .int) (C := RX0) (T := TX0) (N := 7) hx hb hts in_X0 tyX0 tyX0_ok nmX0 hown hK hP hD hS 0 rfl rfl 6 (by decide) f_37 (fun _ h9 => h9) rfl (by decide +kernel) rfl rfl (Nat.le_of_ble_eq_true rfl) dX0_numberPieces_53 (fun H locs hP hD hS => ?_)
            have hP : va_P D vwCl ((b_, .inr (1, [.ref ka_, .ref na_, .ref jo_, .ref me_, .int (nI ((joinF kd ((numL kd (clr bt) i).2 + 1) i (numL kd (clr bt) i).1).2.2)), .int (nI px), .int (nI ((numL kd (clr bt) i).2 + 1))])) :: (ka_, .inl (cI, 256, .inl (k2 kd))) :: (na_, .inl (cI, 256, .inl (l1 ((joinF kd ((numL kd (clr bt) i).2 + 1) i (numL kd (clr bt) i).1).1)))) :: (jo_, .inl (cI, 100, .inl (nf ((joinF kd ((numL kd (clr bt) i).2 + 1) i (numL kd (clr bt) i).1).2.1)))) :: (me_, .inl (cI, 100, .inl (nf me))) :: R) H := hP
            have hD : va_D A ((b_, .inr (1, [.ref ka_, .ref na_, .ref jo_, .ref me_, .int (nI ((joinF kd ((numL kd (clr bt) i).2 + 1) i (numL kd (clr bt) i).1).2.2)), .int (nI px), .int (nI ((numL kd (clr bt) i).2 + 1))])) :: (ka_, .inl (cI, 256, .inl (k2 kd))) :: (na_, .inl (cI, 256, .inl (l1 ((joinF kd ((numL kd (clr bt) i).2 + 1) i (numL kd (clr bt) i).1).1)))) :: (jo_, .inl (cI, 100, .inl (nf ((joinF kd ((numL kd (clr bt) i).2 + 1) i (numL kd (clr bt) i).1).2.1)))) :: (me_, .inl (cI, 100, .inl (nf me))) :: R) := hD
            have hP : va_P D vwCl ((b_, .inr (1, [.ref ka_, .ref na_, .ref jo_, .ref me_, .int (nI (((numL kd (clr bt) (i + 1)).1).2.2)), .int (nI px), .int (nI ((numL kd (clr bt) (i + 1)).2))])) :: (ka_, .inl (cI, 256, .inl (k2 kd))) :: (na_, .inl (cI, 256, .inl (l1 (((numL kd (clr bt) (i + 1)).1).1)))) :: (jo_, .inl (cI, 100, .inl (nf (((numL kd (clr bt) (i + 1)).1).2.1)))) :: (me_, .inl (cI, 100, .inl (nf me))) :: R) H := by rw [numL_s hk2 hl0]; exact hP
            have hD : va_D A ((b_, .inr (1, [.ref ka_, .ref na_, .ref jo_, .ref me_, .int (nI (((numL kd (clr bt) (i + 1)).1).2.2)), .int (nI px), .int (nI ((numL kd (clr bt) (i + 1)).2))])) :: (ka_, .inl (cI, 256, .inl (k2 kd))) :: (na_, .inl (cI, 256, .inl (l1 (((numL kd (clr bt) (i + 1)).1).1)))) :: (jo_, .inl (cI, 100, .inl (nf (((numL kd (clr bt) (i + 1)).1).2.1)))) :: (me_, .inl (cI, 100, .inl (nf me))) :: R) := by rw [numL_s hk2 hl0]; exact hD
            obtain ⟨x56, ex56⟩ : ∃ y : Int32, y = (nI i) + 1 := ⟨_, rfl⟩
            refine lv_iinc (v := x56) (lv' := [(1, .int x56), (0, .ref b_)]) hx hb dX0_numberPieces_56 hl (k := 0) rfl (by rw [ex56]; rfl) (by decide) rfl (fun ls hl => ?_)
            obtain rfl : x56 = nI (i + 1) := by rw [ex56]; exact nI_1 _
            refine lv_goto (tgt := 15) hx hb dX0_numberPieces_59 (by decide) ?_
            exact ih_15 (i + 1) (by omega) (by omega) H locs ls hP hD hS (lv_sub hl [0, 1] rfl)
  exact L_15 _ 0 (Nat.zero_le _) (Nat.lt_succ_self _) H locs ls hP hD hS (lv_sub hl [0, 1] rfl)
abbrev rX0_tell : Room := { frames := 4, cells := 0, slots := 0, locals := 89 }
set_option maxHeartbeats 4000000 in
set_option maxRecDepth 100000 in
theorem c_X0_tell (l : Launch) (D : va_G) (cI cJ cG : ClassId) (sz : Nat) (R : va_W) (b_ ka_ na_ jo_ me_ : Nat) (kd me : Nat → Nat) (px pcs : Nat) (bt : Bst) (a b v : Nat) (ha : a < 16) (hb_ : b < 16) (hv : v ≤ 6) (hkd : ∀ p, kd p ≤ 6) (hbt : Bok bt) : Met l yX0_tell wsX0_tell rX0_tell (gP D (tyl cI cJ cG) [.ref b_, .int (nI a), .int (nI b), .int (nI v - 2)] ((b_, .inr (1, [.ref ka_, .ref na_, .ref jo_, .ref me_, .int (nI bt.2.2), .int (nI px), .int (nI pcs)])) :: (ka_, .inl (cI, 256, .inl (k2 kd))) :: (na_, .inl (cI, 256, .inl (l1 bt.1))) :: (jo_, .inl (cI, 100, .inl (nf bt.2.1))) :: (me_, .inl (cI, 100, .inl (nf me))) :: R) sz) (gQv D (tyl cI cJ cG) ((b_, .inr (1, [.ref ka_, .ref na_, .ref jo_, .ref me_, .int (nI bt.2.2), .int (nI px), .int (nI pcs)])) :: (ka_, .inl (cI, 256, .inl (k2 kd))) :: (na_, .inl (cI, 256, .inl (l1 bt.1))) :: (jo_, .inl (cI, 100, .inl (nf bt.2.1))) :: (me_, .inl (cI, 100, .inl (nf me))) :: R) sz (fun (u : Bst × Nat) => u = if v = 1 then (bt, pcs) else numL (un kd (16 * b + a) v) (clr bt) 256) (fun u => ((b_, .inr (1, [.ref ka_, .ref na_, .ref jo_, .ref me_, .int (nI u.1.2.2), .int (nI (px + 1)), .int (nI u.2)])) :: (ka_, .inl (cI, 256, .inl (k2 (un kd (16 * b + a) v)))) :: (na_, .inl (cI, 256, .inl (l1 u.1.1))) :: (jo_, .inl (cI, 100, .inl (nf u.1.2.1))) :: (me_, .inl (cI, 100, .inl (nf me))) :: R))) 0 0 (va_A ((b_, .inr (1, [.ref ka_, .ref na_, .ref jo_, .ref me_, .int (nI bt.2.2), .int (nI px), .int (nI pcs)])) :: (ka_, .inl (cI, 256, .inl (k2 kd))) :: (na_, .inl (cI, 256, .inl (l1 bt.1))) :: (jo_, .inl (cI, 100, .inl (nf bt.2.1))) :: (me_, .inl (cI, 100, .inl (nf me))) :: R) sz) := by
  refine gMet (cc := cX0_tell) (maxL := 4) (ret := none) (ls0 := [(0, .ref b_), (1, .int (nI a)), (2, .int (nI b)), (3, .int (nI v - 2))]) (by decide) rfl (Nat.le_of_ble_eq_true rfl) rfl ?_
  intro p e s m below meth c hx hb hr hts hown hlocks hml hname A hA hAe hsz Q hQe H locs hP hK hD hS ls hl
  have hown : s.vm.findClass RX0 = some m.cls := hown
  have in_X0 : ∀ w ∈ wsX00, w ∈ wsX0_tell := by decide +kernel
  have f_11 := hts (.fieldLink RX0 11 "SpectrumHeads$Belt" "kindAt" "[I") (by decide +kernel)
  have f_34 := hts (.fieldLink RX0 34 "SpectrumHeads$Belt" "pixels" "I") (by decide +kernel)
  refine lv_aload_n hx hb dX0_tell_0 rfl (lv_at hl 0 rfl) ?_
  refine va_get (D := D) (ci := 1) (v := .ref ka_) (C := RX0) (T := TX0) (N := 7) hx hb hts in_X0 hown hK hP 0 rfl rfl 0 (by decide) f_11 (fun _ h9 => h9) rfl dX0_tell_1 ?_
  refine lv_bipush (v := 16) hx hb dX0_tell_4 (by decide) ?_
  refine lv_iload_n hx hb dX0_tell_6 rfl (lv_at hl 2 rfl) ?_
  refine lv_imul hx hb dX0_tell_7 ?_
  refine lv_topi (fun x7 ex7 => ?_)
  obtain rfl : x7 = nI (16 * b) := by rw [ex7]; exact pk_mul 16 _
  refine lv_iload_n hx hb dX0_tell_8 rfl (lv_at hl 1 rfl) ?_
  refine lv_iadd hx hb dX0_tell_9 ?_
  refine lv_topi (fun x9 ex9 => ?_)
  obtain rfl : x9 = nI (16 * b + a) := by rw [ex9]; exact nI_add _ _
  refine lv_iload_n hx hb dX0_tell_10 rfl (lv_at hl 3 rfl) ?_
  refine va_iast hx hb hK hP hD hS 1 0 rfl rfl (by first | exact vp_in_nI (by omega) (by omega) | assumption) dX0_tell_11 (fun H locs hP hD hS => ?_)
  rw [nI_clamp (by omega)] at hP hD
  have hP : va_P D vwCl ((b_, .inr (1, [.ref ka_, .ref na_, .ref jo_, .ref me_, .int (nI bt.2.2), .int (nI px), .int (nI pcs)])) :: (ka_, .inl (cI, 256, .inl (upd (k2 kd) (16 * b + a) (nI v - 2)))) :: (na_, .inl (cI, 256, .inl (l1 bt.1))) :: (jo_, .inl (cI, 100, .inl (nf bt.2.1))) :: (me_, .inl (cI, 100, .inl (nf me))) :: R) H := hP
  have hD : va_D A ((b_, .inr (1, [.ref ka_, .ref na_, .ref jo_, .ref me_, .int (nI bt.2.2), .int (nI px), .int (nI pcs)])) :: (ka_, .inl (cI, 256, .inl (upd (k2 kd) (16 * b + a) (nI v - 2)))) :: (na_, .inl (cI, 256, .inl (l1 bt.1))) :: (jo_, .inl (cI, 100, .inl (nf bt.2.1))) :: (me_, .inl (cI, 100, .inl (nf me))) :: R) := hD
  have hW_ : upd (k2 kd) (16 * b + a) (nI v - 2) = k2 (un kd (16 * b + a) v) := by exact k2_upd _ _ _
  rw [hW_] at hP hD
  have hP : va_P D vwCl ((b_, .inr (1, [.ref ka_, .ref na_, .ref jo_, .ref me_, .int (nI bt.2.2), .int (nI px), .int (nI pcs)])) :: (ka_, .inl (cI, 256, .inl (k2 (un kd (16 * b + a) v)))) :: (na_, .inl (cI, 256, .inl (l1 bt.1))) :: (jo_, .inl (cI, 100, .inl (nf bt.2.1))) :: (me_, .inl (cI, 100, .inl (nf me))) :: R) H := hP
  have hD : va_D A ((b_, .inr (1, [.ref ka_, .ref na_, .ref jo_, .ref me_, .int (nI bt.2.2), .int (nI px), .int (nI pcs)])) :: (ka_, .inl (cI, 256, .inl (k2 (un kd (16 * b + a) v)))) :: (na_, .inl (cI, 256, .inl (l1 bt.1))) :: (jo_, .inl (cI, 100, .inl (nf bt.2.1))) :: (me_, .inl (cI, 100, .inl (nf me))) :: R) := hD
  refine lv_aload_n hx hb dX0_tell_12 rfl (lv_at hl 0 rfl) ?_
  refine lv_dup hx hb dX0_tell_13 rfl ?_
  refine va_get (D := D) (ci := 1) (v := .int (nI px)) (C := RX0) (T := TX0) (N := 7) hx hb hts in_X0 hown hK hP 0 rfl rfl 5 (by decide) f_34 (fun _ h9 => h9) rfl dX0_tell_14 ?_
  refine lv_iconst (v := 1) hx hb dX0_tell_17 (by decide) ?_
  refine lv_iadd hx hb dX0_tell_18 ?_
  refine lv_topi (fun x18 ex18 => ?_)
  obtain rfl : x18 = nI (px + 1) := by rw [ex18]; exact nI_1 _
  refine va_put (D := D) (ci := 1) (v := .int (nI (px + 1))) (ty := .int) (C := RX0) (T := TX0) (N := 7) hx hb hts in_X0 tyX0 tyX0_ok nmX0 hown hK hP hD hS 0 rfl rfl 5 (by decide) f_34 (fun _ h9 => h9) rfl (by decide +kernel) rfl rfl (Nat.le_of_ble_eq_true rfl) dX0_tell_19 (fun H locs hP hD hS => ?_)
  have hP : va_P D vwCl ((b_, .inr (1, [.ref ka_, .ref na_, .ref jo_, .ref me_, .int (nI bt.2.2), .int (nI (px + 1)), .int (nI pcs)])) :: (ka_, .inl (cI, 256, .inl (k2 (un kd (16 * b + a) v)))) :: (na_, .inl (cI, 256, .inl (l1 bt.1))) :: (jo_, .inl (cI, 100, .inl (nf bt.2.1))) :: (me_, .inl (cI, 100, .inl (nf me))) :: R) H := hP
  have hD : va_D A ((b_, .inr (1, [.ref ka_, .ref na_, .ref jo_, .ref me_, .int (nI bt.2.2), .int (nI (px + 1)), .int (nI pcs)])) :: (ka_, .inl (cI, 256, .inl (k2 (un kd (16 * b + a) v)))) :: (na_, .inl (cI, 256, .inl (l1 bt.1))) :: (jo_, .inl (cI, 100, .inl (nf bt.2.1))) :: (me_, .inl (cI, 100, .inl (nf me))) :: R) := hD
  refine lv_iload_n hx hb dX0_tell_22 rfl (lv_at hl 3 rfl) ?_
  refine lv_iconst (v := -1) hx hb dX0_tell_23 (by decide) ?_
  refine lv_icmp_eq (tgt := 31) hx hb dX0_tell_24 (by decide) (fun c24 => ?_) (fun c24 => ?_)
  · skip
    have hv1 : v = 1 := (k2_none (by omega)).mp c24
    subst hQe
    subst hAe
    subst hsz
    exact g_vret hx hb hr hlocks (bt, pcs) (if_pos hv1).symm hP hK hD hS dX0_tell_31
  · skip
    have hv1 : ¬ v = 1 := fun h => c24 ((k2_none (by omega)).mpr h)
    refine lv_aload_n hx hb dX0_tell_27 rfl (lv_at hl 0 rfl) ?_
    refine gc_Vv (As := []) (rest := []) (ci := 1) (q0 := 0) ⟨hx, hb, hml, hown, hts⟩ (c_X0_numberPieces l D cI cJ cG H.size R b_ ka_ na_ jo_ me_ (un kd (16 * b + a) v) me (px + 1) pcs bt (un_le hkd hv) hbt) (cwV 0 hts gX0_tell_X0_numberPieces rfl rfl rfl (by decide +kernel) ⟨Nat.le_of_ble_eq_true rfl, Nat.le_of_ble_eq_true rfl⟩) rfl rfl rfl hK hP hD hS hA rfl hl.1 rfl (Nat.le_of_ble_eq_true rfl) dX0_tell_28 ⟨Nat.le_of_ble_eq_true rfl, Nat.le_of_ble_eq_true rfl⟩ (fun u28 H locs h28 hP hD hS => ?_)
    subst h28
    have hP : va_P D vwCl ((b_, .inr (1, [.ref ka_, .ref na_, .ref jo_, .ref me_, .int (nI (((numL (un kd (16 * b + a) v) (clr bt) 256).1).2.2)), .int (nI (px + 1)), .int (nI ((numL (un kd (16 * b + a) v) (clr bt) 256).2))])) :: (ka_, .inl (cI, 256, .inl (k2 (un kd (16 * b + a) v)))) :: (na_, .inl (cI, 256, .inl (l1 (((numL (un kd (16 * b + a) v) (clr bt) 256).1).1)))) :: (jo_, .inl (cI, 100, .inl (nf (((numL (un kd (16 * b + a) v) (clr bt) 256).1).2.1)))) :: (me_, .inl (cI, 100, .inl (nf me))) :: R) H := hP
    have hD : va_D A ((b_, .inr (1, [.ref ka_, .ref na_, .ref jo_, .ref me_, .int (nI (((numL (un kd (16 * b + a) v) (clr bt) 256).1).2.2)), .int (nI (px + 1)), .int (nI ((numL (un kd (16 * b + a) v) (clr bt) 256).2))])) :: (ka_, .inl (cI, 256, .inl (k2 (un kd (16 * b + a) v)))) :: (na_, .inl (cI, 256, .inl (l1 (((numL (un kd (16 * b + a) v) (clr bt) 256).1).1)))) :: (jo_, .inl (cI, 100, .inl (nf (((numL (un kd (16 * b + a) v) (clr bt) 256).1).2.1)))) :: (me_, .inl (cI, 100, .inl (nf me))) :: R) := hD
    subst hQe
    subst hAe
    subst hsz
    exact g_vret hx hb hr hlocks (numL (un kd (16 * b + a) v) (clr bt) 256) (if_neg hv1).symm hP hK hD hS dX0_tell_31
abbrev rX0_countIn : Room := { frames := 0, cells := 0, slots := 0, locals := 0 }
set_option maxHeartbeats 4000000 in
set_option maxRecDepth 100000 in
theorem c_X0_countIn (l : Launch) (D : va_G) (cI cJ cG : ClassId) (sz : Nat) (R : va_W) (b_ ka_ na_ jo_ me_ : Nat) (kd me : Nat → Nat) (px pcs : Nat) (bt : Bst) (q k : Nat) (hq : q ≤ 256) (hk : k ≤ 256) (hkd : ∀ p, kd p ≤ 6) (hbt : Bok bt) : Met l yX0_countIn wsX0_countIn rX0_countIn (gP D (tyl cI cJ cG) [.ref b_, .int (nI q), .int (nI k)] ((b_, .inr (1, [.ref ka_, .ref na_, .ref jo_, .ref me_, .int (nI bt.2.2), .int (nI px), .int (nI pcs)])) :: (ka_, .inl (cI, 256, .inl (k2 kd))) :: (na_, .inl (cI, 256, .inl (l1 bt.1))) :: (jo_, .inl (cI, 100, .inl (nf bt.2.1))) :: (me_, .inl (cI, 100, .inl (nf me))) :: R) sz) (gQi D (tyl cI cJ cG) ((b_, .inr (1, [.ref ka_, .ref na_, .ref jo_, .ref me_, .int (nI bt.2.2), .int (nI px), .int (nI pcs)])) :: (ka_, .inl (cI, 256, .inl (k2 kd))) :: (na_, .inl (cI, 256, .inl (l1 bt.1))) :: (jo_, .inl (cI, 100, .inl (nf bt.2.1))) :: (me_, .inl (cI, 100, .inl (nf me))) :: R) sz (fun r (_ : Unit) => r = nI (cnt (inP bt.1 kd q k) 256)) (fun _ => ((b_, .inr (1, [.ref ka_, .ref na_, .ref jo_, .ref me_, .int (nI bt.2.2), .int (nI px), .int (nI pcs)])) :: (ka_, .inl (cI, 256, .inl (k2 kd))) :: (na_, .inl (cI, 256, .inl (l1 bt.1))) :: (jo_, .inl (cI, 100, .inl (nf bt.2.1))) :: (me_, .inl (cI, 100, .inl (nf me))) :: R))) 0 0 (va_A ((b_, .inr (1, [.ref ka_, .ref na_, .ref jo_, .ref me_, .int (nI bt.2.2), .int (nI px), .int (nI pcs)])) :: (ka_, .inl (cI, 256, .inl (k2 kd))) :: (na_, .inl (cI, 256, .inl (l1 bt.1))) :: (jo_, .inl (cI, 100, .inl (nf bt.2.1))) :: (me_, .inl (cI, 100, .inl (nf me))) :: R) sz) := by
  refine gMet (cc := cX0_countIn) (maxL := 5) (ret := (some .int)) (ls0 := [(0, .ref b_), (1, .int (nI q)), (2, .int (nI k))]) (by decide) rfl (Nat.le_of_ble_eq_true rfl) rfl ?_
  intro p e s m below meth c hx hb hr hts hown hlocks hml hname A hA hAe hsz Q hQe H locs hP hK hD hS ls hl
  have hown : s.vm.findClass RX0 = some m.cls := hown
  have in_X0 : ∀ w ∈ wsX00, w ∈ wsX0_countIn := by decide +kernel
  have f_15 := hts (.fieldLink RX0 15 "SpectrumHeads$Belt" "numberAt" "[I") (by decide +kernel)
  have f_11 := hts (.fieldLink RX0 11 "SpectrumHeads$Belt" "kindAt" "[I") (by decide +kernel)
  refine lv_iconst (v := 0) hx hb dX0_countIn_0 (by decide) ?_
  refine lv_istore_n (lv' := [(3, .int 0), (0, .ref b_), (1, .int (nI q)), (2, .int (nI k))]) hx hb dX0_countIn_1 rfl hl (by decide) rfl (fun ls hl => ?_)
  refine lv_iconst (v := 0) hx hb dX0_countIn_2 (by decide) ?_
  refine lv_istore (lv' := [(4, .int 0), (3, .int 0), (0, .ref b_), (1, .int (nI q)), (2, .int (nI k))]) hx hb dX0_countIn_3 hl (by decide) rfl (fun ls hl => ?_)
  have L_5 : ∀ (n_5 : Nat) (i : Nat) (hi : i ≤ 256), 256 - i < n_5 → ∀ (H : Heap) (locs : List Loc) (ls : Array Slot), va_P D vwCl ((b_, .inr (1, [.ref ka_, .ref na_, .ref jo_, .ref me_, .int (nI bt.2.2), .int (nI px), .int (nI pcs)])) :: (ka_, .inl (cI, 256, .inl (k2 kd))) :: (na_, .inl (cI, 256, .inl (l1 bt.1))) :: (jo_, .inl (cI, 100, .inl (nf bt.2.1))) :: (me_, .inl (cI, 100, .inl (nf me))) :: R) H → va_D A ((b_, .inr (1, [.ref ka_, .ref na_, .ref jo_, .ref me_, .int (nI bt.2.2), .int (nI px), .int (nI pcs)])) :: (ka_, .inl (cI, 256, .inl (k2 kd))) :: (na_, .inl (cI, 256, .inl (l1 bt.1))) :: (jo_, .inl (cI, 100, .inl (nf bt.2.1))) :: (me_, .inl (cI, 100, .inl (nf me))) :: R) → va_S A s.heap H locs → lv_has ls 5 [(4, .int (nI i)), (3, .int (nI (cnt (inP bt.1 kd q k) i))), (0, .ref b_), (1, .int (nI q)), (2, .int (nI k))] → W p l e (headSpec wsX0_countIn rX0_countIn).room s m ([.ref b_, .int (nI q), .int (nI k)] : List Value).toArray below meth c H locs 0 0 Q (F0 m 5 ls []) := by
    intro n_5
    induction n_5 with
    | zero => intro i hi hn_; exact absurd hn_ (Nat.not_lt_zero _)
    | succ n_5 ih_5 =>
      intro i hi hn_5 H locs ls hP hD hS hl
      refine lv_iload hx hb dX0_countIn_5 (lv_at hl 0 rfl) ?_
      refine lv_sipush (v := 256) hx hb dX0_countIn_7 (by decide) ?_
      refine lv_icmp_ge (tgt := 44) hx hb dX0_countIn_10 (by decide) (fun c10 => ?_) (fun c10 => ?_)
      · skip
        have hE10 := lp_e (n := 256) c10 hi
        subst hE10
        refine lv_iload_n hx hb dX0_countIn_44 rfl (lv_at hl 1 rfl) ?_
        subst hQe
        subst hAe
        subst hsz
        exact g_iret hx hb hr hlocks () rfl hP hK hD hS dX0_countIn_45
      · skip
        have hi8 := lp_l (n := 256) c10 hi
        have hk6 := hkd i
        have hl6 := hbt.1 i
        refine lv_aload_n hx hb dX0_countIn_13 rfl (lv_at hl 2 rfl) ?_
        refine va_get (D := D) (ci := 1) (v := .ref na_) (C := RX0) (T := TX0) (N := 7) hx hb hts in_X0 hown hK hP 0 rfl rfl 1 (by decide) f_15 (fun _ h9 => h9) rfl dX0_countIn_14 ?_
        refine lv_iload hx hb dX0_countIn_17 (lv_at hl 0 rfl) ?_
        refine va_iald hx hb hK hP (2) 0 rfl rfl (by first | exact vp_in_nI (by omega) (by omega) | assumption) dX0_countIn_19 ?_
        refine lv_topi (fun x19 ex19 => ?_)
        rw [nI_clamp (by omega)] at ex19
        obtain rfl : x19 = nI (bt.1 i) - 1 := by exact ex19
        refine lv_iload_n hx hb dX0_countIn_20 rfl (lv_at hl 3 rfl) ?_
        refine lv_icmp_ne (tgt := 38) hx hb dX0_countIn_21 (by decide) (fun c21 => ?_) (fun c21 => ?_)
        · skip
          have hno : (inP bt.1 kd q k) i = false := by simp [inP, mt (l1_eq (b := q) (by omega) (by omega)).mpr c21]
          rw [cnt_n hno] at hl
          obtain ⟨x38, ex38⟩ : ∃ y : Int32, y = (nI i) + 1 := ⟨_, rfl⟩
          refine lv_iinc (v := x38) (lv' := [(4, .int x38), (3, .int (nI (cnt (inP bt.1 kd q k) (i + 1)))), (0, .ref b_), (1, .int (nI q)), (2, .int (nI k))]) hx hb dX0_countIn_38 hl (k := 0) rfl (by rw [ex38]; rfl) (by decide) rfl (fun ls hl => ?_)
          obtain rfl : x38 = nI (i + 1) := by rw [ex38]; exact nI_1 _
          refine lv_goto (tgt := 5) hx hb dX0_countIn_41 (by decide) ?_
          exact ih_5 (i + 1) (by omega) (by omega) H locs ls hP hD hS (lv_sub hl [0, 1, 2, 3, 4] rfl)
        · skip
          have h1 : bt.1 i = q + 1 := (l1_eq (by omega) (by omega)).mp c21
          refine lv_aload_n hx hb dX0_countIn_24 rfl (lv_at hl 2 rfl) ?_
          refine va_get (D := D) (ci := 1) (v := .ref ka_) (C := RX0) (T := TX0) (N := 7) hx hb hts in_X0 hown hK hP 0 rfl rfl 0 (by decide) f_11 (fun _ h9 => h9) rfl dX0_countIn_25 ?_
          refine lv_iload hx hb dX0_countIn_28 (lv_at hl 0 rfl) ?_
          refine va_iald hx hb hK hP (1) 0 rfl rfl (by first | exact vp_in_nI (by omega) (by omega) | assumption) dX0_countIn_30 ?_
          refine lv_topi (fun x30 ex30 => ?_)
          rw [nI_clamp (by omega)] at ex30
          obtain rfl : x30 = nI (kd i) - 2 := by exact ex30
          refine lv_iload_n hx hb dX0_countIn_31 rfl (lv_at hl 4 rfl) ?_
          refine lv_icmp_ne (tgt := 38) hx hb dX0_countIn_32 (by decide) (fun c32 => ?_) (fun c32 => ?_)
          · skip
            have hno : (inP bt.1 kd q k) i = false := by simp [inP, mt (k2_eq (b := k) (by omega) (by omega)).mpr c32]
            rw [cnt_n hno] at hl
            obtain ⟨x38, ex38⟩ : ∃ y : Int32, y = (nI i) + 1 := ⟨_, rfl⟩
            refine lv_iinc (v := x38) (lv' := [(4, .int x38), (3, .int (nI (cnt (inP bt.1 kd q k) (i + 1)))), (0, .ref b_), (1, .int (nI q)), (2, .int (nI k))]) hx hb dX0_countIn_38 hl (k := 0) rfl (by rw [ex38]; rfl) (by decide) rfl (fun ls hl => ?_)
            obtain rfl : x38 = nI (i + 1) := by rw [ex38]; exact nI_1 _
            refine lv_goto (tgt := 5) hx hb dX0_countIn_41 (by decide) ?_
            exact ih_5 (i + 1) (by omega) (by omega) H locs ls hP hD hS (lv_sub hl [0, 1, 2, 3, 4] rfl)
          · skip
            have hyes : (inP bt.1 kd q k) i = true := by simp [inP, h1, (k2_eq (b := k) (by omega) (by omega)).mp c32]
            obtain ⟨x35, ex35⟩ : ∃ y : Int32, y = (nI (cnt (inP bt.1 kd q k) i)) + 1 := ⟨_, rfl⟩
            refine lv_iinc (v := x35) (lv' := [(3, .int x35), (4, .int (nI i)), (0, .ref b_), (1, .int (nI q)), (2, .int (nI k))]) hx hb dX0_countIn_35 hl (k := 1) rfl (by rw [ex35]; rfl) (by decide) rfl (fun ls hl => ?_)
            obtain rfl : x35 = nI (cnt (inP bt.1 kd q k) (i + 1)) := by rw [ex35, nI_1, cnt_s hyes]
            obtain ⟨x38, ex38⟩ : ∃ y : Int32, y = (nI i) + 1 := ⟨_, rfl⟩
            refine lv_iinc (v := x38) (lv' := [(4, .int x38), (3, .int (nI (cnt (inP bt.1 kd q k) (i + 1)))), (0, .ref b_), (1, .int (nI q)), (2, .int (nI k))]) hx hb dX0_countIn_38 hl (k := 1) rfl (by rw [ex38]; rfl) (by decide) rfl (fun ls hl => ?_)
            obtain rfl : x38 = nI (i + 1) := by rw [ex38]; exact nI_1 _
            refine lv_goto (tgt := 5) hx hb dX0_countIn_41 (by decide) ?_
            exact ih_5 (i + 1) (by omega) (by omega) H locs ls hP hD hS (lv_sub hl [0, 1, 2, 3, 4] rfl)
  exact L_5 _ 0 (Nat.zero_le _) (Nat.lt_succ_self _) H locs ls hP hD hS (lv_sub hl [0, 1, 2, 3, 4] rfl)
abbrev rX0_meetRound : Room := { frames := 2, cells := 0, slots := 0, locals := 43 }
set_option maxHeartbeats 4000000 in
set_option maxRecDepth 100000 in
theorem c_X0_meetRound (l : Launch) (D : va_G) (cI cJ cG : ClassId) (sz : Nat) (R : va_W) (b_ ka_ na_ jo_ me_ : Nat) (kd me : Nat → Nat) (px pcs : Nat) (bt : Bst) (x y : Nat) (hx_ : x < 16) (hy_ : y < 16) : Met l yX0_meetRound wsX0_meetRound rX0_meetRound (gP D (tyl cI cJ cG) [.ref b_, .int (nI x), .int (nI y)] ((b_, .inr (1, [.ref ka_, .ref na_, .ref jo_, .ref me_, .int (nI bt.2.2), .int (nI px), .int (nI pcs)])) :: (ka_, .inl (cI, 256, .inl (k2 kd))) :: (na_, .inl (cI, 256, .inl (l1 bt.1))) :: (jo_, .inl (cI, 100, .inl (nf bt.2.1))) :: (me_, .inl (cI, 100, .inl (nf me))) :: R) sz) (gQv D (tyl cI cJ cG) ((b_, .inr (1, [.ref ka_, .ref na_, .ref jo_, .ref me_, .int (nI bt.2.2), .int (nI px), .int (nI pcs)])) :: (ka_, .inl (cI, 256, .inl (k2 kd))) :: (na_, .inl (cI, 256, .inl (l1 bt.1))) :: (jo_, .inl (cI, 100, .inl (nf bt.2.1))) :: (me_, .inl (cI, 100, .inl (nf me))) :: R) sz (fun (_ : Unit) => True) (fun _ => ((b_, .inr (1, [.ref ka_, .ref na_, .ref jo_, .ref me_, .int (nI bt.2.2), .int (nI px), .int (nI pcs)])) :: (ka_, .inl (cI, 256, .inl (k2 kd))) :: (na_, .inl (cI, 256, .inl (l1 bt.1))) :: (jo_, .inl (cI, 100, .inl (nf bt.2.1))) :: (me_, .inl (cI, 100, .inl (nf (metI bt.1 (nI x) (nI y) 3 me)))) :: R))) 0 0 (va_A ((b_, .inr (1, [.ref ka_, .ref na_, .ref jo_, .ref me_, .int (nI bt.2.2), .int (nI px), .int (nI pcs)])) :: (ka_, .inl (cI, 256, .inl (k2 kd))) :: (na_, .inl (cI, 256, .inl (l1 bt.1))) :: (jo_, .inl (cI, 100, .inl (nf bt.2.1))) :: (me_, .inl (cI, 100, .inl (nf me))) :: R) sz) := by
  refine gMet (cc := cX0_meetRound) (maxL := 6) (ret := none) (ls0 := [(0, .ref b_), (1, .int (nI x)), (2, .int (nI y))]) (by decide) rfl (Nat.le_of_ble_eq_true rfl) rfl ?_
  intro p e s m below meth c hx hb hr hts hown hlocks hml hname A hA hAe hsz Q hQe H locs hP hK hD hS ls hl
  have hown : s.vm.findClass RX0 = some m.cls := hown
  have in_X0 : ∀ w ∈ wsX00, w ∈ wsX0_meetRound := by decide +kernel
  have f_21 := hts (.fieldLink RX0 21 "SpectrumHeads$Belt" "met" "[I") (by decide +kernel)
  refine lv_iconst (v := -1) hx hb dX0_meetRound_0 (by decide) ?_
  refine lv_istore_n (lv' := [(3, .int (-1)), (0, .ref b_), (1, .int (nI x)), (2, .int (nI y))]) hx hb dX0_meetRound_1 rfl hl (by decide) rfl (fun ls hl => ?_)
  have L_2 : ∀ (n_2 : Nat) (i : Nat) (hi : i ≤ 3), 3 - i < n_2 → ∀ (H : Heap) (locs : List Loc) (ls : Array Slot), va_P D vwCl ((b_, .inr (1, [.ref ka_, .ref na_, .ref jo_, .ref me_, .int (nI bt.2.2), .int (nI px), .int (nI pcs)])) :: (ka_, .inl (cI, 256, .inl (k2 kd))) :: (na_, .inl (cI, 256, .inl (l1 bt.1))) :: (jo_, .inl (cI, 100, .inl (nf bt.2.1))) :: (me_, .inl (cI, 100, .inl (nf (metI bt.1 (nI x) (nI y) i me)))) :: R) H → va_D A ((b_, .inr (1, [.ref ka_, .ref na_, .ref jo_, .ref me_, .int (nI bt.2.2), .int (nI px), .int (nI pcs)])) :: (ka_, .inl (cI, 256, .inl (k2 kd))) :: (na_, .inl (cI, 256, .inl (l1 bt.1))) :: (jo_, .inl (cI, 100, .inl (nf bt.2.1))) :: (me_, .inl (cI, 100, .inl (nf (metI bt.1 (nI x) (nI y) i me)))) :: R) → va_S A s.heap H locs → lv_has ls 6 [(3, .int (nI i - 1)), (0, .ref b_), (1, .int (nI x)), (2, .int (nI y))] → W p l e (headSpec wsX0_meetRound rX0_meetRound).room s m ([.ref b_, .int (nI x), .int (nI y)] : List Value).toArray below meth c H locs 0 0 Q (F0 m 2 ls []) := by
    intro n_2
    induction n_2 with
    | zero => intro i hi hn_; exact absurd hn_ (Nat.not_lt_zero _)
    | succ n_2 ih_2 =>
      intro i hi hn_2 H locs ls hP hD hS hl
      refine lv_iload_n hx hb dX0_meetRound_2 rfl (lv_at hl 0 rfl) ?_
      refine lv_iconst (v := 1) hx hb dX0_meetRound_3 (by decide) ?_
      refine lv_icmp_gt (tgt := 61) hx hb dX0_meetRound_4 (by decide) (fun c4 => ?_) (fun c4 => ?_)
      · skip
        have hE4 : 3 = i := by have := (j1_gt (by omega)).mp c4; omega
        subst hE4
        subst hQe
        subst hAe
        subst hsz
        exact g_vret hx hb hr hlocks () trivial hP hK hD hS dX0_meetRound_61
      · skip
        have hi8 : i < 3 := by have := mt (j1_gt (j := i) (by omega)).mpr c4; omega
        refine lv_iconst (v := -1) hx hb dX0_meetRound_7 (by decide) ?_
        refine lv_istore (lv' := [(4, .int (-1)), (3, .int (nI i - 1)), (0, .ref b_), (1, .int (nI x)), (2, .int (nI y))]) hx hb dX0_meetRound_8 hl (by decide) rfl (fun ls hl => ?_)
        have L_10 : ∀ (n_10 : Nat) (j : Nat) (hj : j ≤ 3), 3 - j < n_10 → ∀ (H : Heap) (locs : List Loc) (ls : Array Slot), va_P D vwCl ((b_, .inr (1, [.ref ka_, .ref na_, .ref jo_, .ref me_, .int (nI bt.2.2), .int (nI px), .int (nI pcs)])) :: (ka_, .inl (cI, 256, .inl (k2 kd))) :: (na_, .inl (cI, 256, .inl (l1 bt.1))) :: (jo_, .inl (cI, 100, .inl (nf bt.2.1))) :: (me_, .inl (cI, 100, .inl (nf (metJ bt.1 (nI x) (nI y + (nI i - 1)) j (metI bt.1 (nI x) (nI y) i me))))) :: R) H → va_D A ((b_, .inr (1, [.ref ka_, .ref na_, .ref jo_, .ref me_, .int (nI bt.2.2), .int (nI px), .int (nI pcs)])) :: (ka_, .inl (cI, 256, .inl (k2 kd))) :: (na_, .inl (cI, 256, .inl (l1 bt.1))) :: (jo_, .inl (cI, 100, .inl (nf bt.2.1))) :: (me_, .inl (cI, 100, .inl (nf (metJ bt.1 (nI x) (nI y + (nI i - 1)) j (metI bt.1 (nI x) (nI y) i me))))) :: R) → va_S A s.heap H locs → lv_has ls 6 [(4, .int (nI j - 1)), (3, .int (nI i - 1)), (0, .ref b_), (1, .int (nI x)), (2, .int (nI y))] → W p l e (headSpec wsX0_meetRound rX0_meetRound).room s m ([.ref b_, .int (nI x), .int (nI y)] : List Value).toArray below meth c H locs 0 0 Q (F0 m 10 ls []) := by
          intro n_10
          induction n_10 with
          | zero => intro j hj hn_; exact absurd hn_ (Nat.not_lt_zero _)
          | succ n_10 ih_10 =>
            intro j hj hn_10 H locs ls hP hD hS hl
            refine lv_iload hx hb dX0_meetRound_10 (lv_at hl 0 rfl) ?_
            refine lv_iconst (v := 1) hx hb dX0_meetRound_12 (by decide) ?_
            refine lv_icmp_gt (tgt := 55) hx hb dX0_meetRound_13 (by decide) (fun c13 => ?_) (fun c13 => ?_)
            · skip
              have hE13 : 3 = j := by have := (j1_gt (by omega)).mp c13; omega
              subst hE13
              obtain ⟨x55, ex55⟩ : ∃ y : Int32, y = (nI i - 1) + 1 := ⟨_, rfl⟩
              refine lv_iinc (v := x55) (lv' := [(3, .int x55), (4, .int (nI 3 - 1)), (0, .ref b_), (1, .int (nI x)), (2, .int (nI y))]) hx hb dX0_meetRound_55 hl (k := 1) rfl (by rw [ex55]; rfl) (by decide) rfl (fun ls hl => ?_)
              obtain rfl : x55 = nI (i + 1) - 1 := by rw [ex55]; exact j1_s _
              refine lv_goto (tgt := 2) hx hb dX0_meetRound_58 (by decide) ?_
              exact ih_2 (i + 1) (by omega) (by omega) H locs ls hP hD hS (lv_sub hl [0, 2, 3, 4] rfl)
            · skip
              have hj8 : j < 3 := by have := mt (j1_gt (j := j) (by omega)).mpr c13; omega
              refine lv_aload_n hx hb dX0_meetRound_16 rfl (lv_at hl 2 rfl) ?_
              refine lv_iload_n hx hb dX0_meetRound_17 rfl (lv_at hl 3 rfl) ?_
              refine lv_iload hx hb dX0_meetRound_18 (lv_at hl 0 rfl) ?_
              refine lv_iadd hx hb dX0_meetRound_20 ?_
              refine lv_topi (fun x20 ex20 => ?_)
              obtain rfl : x20 = nI x + (nI j - 1) := by exact ex20
              refine lv_iload_n hx hb dX0_meetRound_21 rfl (lv_at hl 4 rfl) ?_
              refine lv_iload_n hx hb dX0_meetRound_22 rfl (lv_at hl 1 rfl) ?_
              refine lv_iadd hx hb dX0_meetRound_23 ?_
              refine lv_topi (fun x23 ex23 => ?_)
              obtain rfl : x23 = nI y + (nI i - 1) := by exact ex23
              refine gc_Vi (As := [.int (nI x + (nI j - 1)), .int (nI y + (nI i - 1))]) (rest := []) (ci := 1) (q0 := 0) ⟨hx, hb, hml, hown, hts⟩ (c_X0_pieceAt l D cI cJ cG H.size R b_ ka_ na_ jo_ me_ kd (metJ bt.1 (nI x) (nI y + (nI i - 1)) j (metI bt.1 (nI x) (nI y) i me)) px pcs bt (nI x + (nI j - 1)) (nI y + (nI i - 1))) (cwV 2 hts gX0_meetRound_X0_pieceAt rfl rfl rfl (by decide +kernel) ⟨Nat.le_of_ble_eq_true rfl, Nat.le_of_ble_eq_true rfl⟩) rfl rfl rfl hK hP hD hS hA rfl hl.1 rfl (Nat.le_of_ble_eq_true rfl) dX0_meetRound_24 ⟨Nat.le_of_ble_eq_true rfl, Nat.le_of_ble_eq_true rfl⟩ (fun r24 u24 H locs h24 hP hD hS => ?_)
              subst h24
              have hP : va_P D vwCl ((b_, .inr (1, [.ref ka_, .ref na_, .ref jo_, .ref me_, .int (nI bt.2.2), .int (nI px), .int (nI pcs)])) :: (ka_, .inl (cI, 256, .inl (k2 kd))) :: (na_, .inl (cI, 256, .inl (l1 bt.1))) :: (jo_, .inl (cI, 100, .inl (nf bt.2.1))) :: (me_, .inl (cI, 100, .inl (nf (metJ bt.1 (nI x) (nI y + (nI i - 1)) j (metI bt.1 (nI x) (nI y) i me))))) :: R) H := hP
              have hD : va_D A ((b_, .inr (1, [.ref ka_, .ref na_, .ref jo_, .ref me_, .int (nI bt.2.2), .int (nI px), .int (nI pcs)])) :: (ka_, .inl (cI, 256, .inl (k2 kd))) :: (na_, .inl (cI, 256, .inl (l1 bt.1))) :: (jo_, .inl (cI, 100, .inl (nf bt.2.1))) :: (me_, .inl (cI, 100, .inl (nf (metJ bt.1 (nI x) (nI y + (nI i - 1)) j (metI bt.1 (nI x) (nI y) i me))))) :: R) := hD
              refine lv_istore (lv' := [(5, .int (paN bt.1 (nI x + (nI j - 1)) (nI y + (nI i - 1)))), (4, .int (nI j - 1)), (3, .int (nI i - 1)), (0, .ref b_), (1, .int (nI x)), (2, .int (nI y))]) hx hb dX0_meetRound_27 hl (by decide) rfl (fun ls hl => ?_)
              refine lv_iload hx hb dX0_meetRound_29 (lv_at hl 0 rfl) ?_
              refine lv_if_lt (tgt := 49) hx hb dX0_meetRound_31 (by decide) (fun c31 => ?_) (fun c31 => ?_)
              · skip
                have hno : ¬ inB (paN bt.1 (nI x + (nI j - 1)) (nI y + (nI i - 1))) 100 = true := by rw [inB_f1 c31]; exact Bool.false_ne_true
                rw [show (metJ bt.1 (nI x) (nI y + (nI i - 1)) j (metI bt.1 (nI x) (nI y) i me)) = (metJ bt.1 (nI x) (nI y + (nI i - 1)) (j + 1) (metI bt.1 (nI x) (nI y) i me)) from (if_neg hno).symm] at hP hD
                obtain ⟨x49, ex49⟩ : ∃ y : Int32, y = (nI j - 1) + 1 := ⟨_, rfl⟩
                refine lv_iinc (v := x49) (lv' := [(4, .int x49), (5, .int (paN bt.1 (nI x + (nI j - 1)) (nI y + (nI i - 1)))), (3, .int (nI i - 1)), (0, .ref b_), (1, .int (nI x)), (2, .int (nI y))]) hx hb dX0_meetRound_49 hl (k := 1) rfl (by rw [ex49]; rfl) (by decide) rfl (fun ls hl => ?_)
                obtain rfl : x49 = nI (j + 1) - 1 := by rw [ex49]; exact j1_s _
                refine lv_goto (tgt := 10) hx hb dX0_meetRound_52 (by decide) ?_
                exact ih_10 (j + 1) (by omega) (by omega) H locs ls hP hD hS (lv_sub hl [0, 2, 3, 4, 5] rfl)
              · skip
                refine lv_iload hx hb dX0_meetRound_34 (lv_at hl 0 rfl) ?_
                refine lv_bipush (v := 100) hx hb dX0_meetRound_36 (by decide) ?_
                refine lv_icmp_ge (tgt := 49) hx hb dX0_meetRound_38 (by decide) (fun c38 => ?_) (fun c38 => ?_)
                · skip
                  have hno : ¬ inB (paN bt.1 (nI x + (nI j - 1)) (nI y + (nI i - 1))) 100 = true := by rw [inB_f2 (n := 100) (by omega) c38]; exact Bool.false_ne_true
                  rw [show (metJ bt.1 (nI x) (nI y + (nI i - 1)) j (metI bt.1 (nI x) (nI y) i me)) = (metJ bt.1 (nI x) (nI y + (nI i - 1)) (j + 1) (metI bt.1 (nI x) (nI y) i me)) from (if_neg hno).symm] at hP hD
                  obtain ⟨x49, ex49⟩ : ∃ y : Int32, y = (nI j - 1) + 1 := ⟨_, rfl⟩
                  refine lv_iinc (v := x49) (lv' := [(4, .int x49), (5, .int (paN bt.1 (nI x + (nI j - 1)) (nI y + (nI i - 1)))), (3, .int (nI i - 1)), (0, .ref b_), (1, .int (nI x)), (2, .int (nI y))]) hx hb dX0_meetRound_49 hl (k := 1) rfl (by rw [ex49]; rfl) (by decide) rfl (fun ls hl => ?_)
                  obtain rfl : x49 = nI (j + 1) - 1 := by rw [ex49]; exact j1_s _
                  refine lv_goto (tgt := 10) hx hb dX0_meetRound_52 (by decide) ?_
                  exact ih_10 (j + 1) (by omega) (by omega) H locs ls hP hD hS (lv_sub hl [0, 2, 3, 4, 5] rfl)
                · skip
                  have hyes : inB (paN bt.1 (nI x + (nI j - 1)) (nI y + (nI i - 1))) 100 = true := inB_t (n := 100) (by omega) c31 c38
                  refine lv_aload_n hx hb dX0_meetRound_41 rfl (lv_at hl 3 rfl) ?_
                  refine va_get (D := D) (ci := 1) (v := .ref me_) (C := RX0) (T := TX0) (N := 7) hx hb hts in_X0 hown hK hP 0 rfl rfl 3 (by decide) f_21 (fun _ h9 => h9) rfl dX0_meetRound_42 ?_
                  refine lv_iload hx hb dX0_meetRound_45 (lv_at hl 0 rfl) ?_
                  refine lv_iconst (v := 1) hx hb dX0_meetRound_47 (by decide) ?_
                  refine va_iast hx hb hK hP hD hS 4 0 rfl rfl (inB_vp hyes) dX0_meetRound_48 (fun H locs hP hD hS => ?_)
                  have hP : va_P D vwCl ((b_, .inr (1, [.ref ka_, .ref na_, .ref jo_, .ref me_, .int (nI bt.2.2), .int (nI px), .int (nI pcs)])) :: (ka_, .inl (cI, 256, .inl (k2 kd))) :: (na_, .inl (cI, 256, .inl (l1 bt.1))) :: (jo_, .inl (cI, 100, .inl (nf bt.2.1))) :: (me_, .inl (cI, 100, .inl (upd (nf (metJ bt.1 (nI x) (nI y + (nI i - 1)) j (metI bt.1 (nI x) (nI y) i me))) ((paN bt.1 (nI x + (nI j - 1)) (nI y + (nI i - 1)))).toNatClampNeg 1))) :: R) H := hP
                  have hD : va_D A ((b_, .inr (1, [.ref ka_, .ref na_, .ref jo_, .ref me_, .int (nI bt.2.2), .int (nI px), .int (nI pcs)])) :: (ka_, .inl (cI, 256, .inl (k2 kd))) :: (na_, .inl (cI, 256, .inl (l1 bt.1))) :: (jo_, .inl (cI, 100, .inl (nf bt.2.1))) :: (me_, .inl (cI, 100, .inl (upd (nf (metJ bt.1 (nI x) (nI y + (nI i - 1)) j (metI bt.1 (nI x) (nI y) i me))) ((paN bt.1 (nI x + (nI j - 1)) (nI y + (nI i - 1)))).toNatClampNeg 1))) :: R) := hD
                  have hW_ : upd (nf (metJ bt.1 (nI x) (nI y + (nI i - 1)) j (metI bt.1 (nI x) (nI y) i me))) ((paN bt.1 (nI x + (nI j - 1)) (nI y + (nI i - 1)))).toNatClampNeg 1 = nf (metJ bt.1 (nI x) (nI y + (nI i - 1)) (j + 1) (metI bt.1 (nI x) (nI y) i me)) := by rw [show (1 : Int32) = nI 1 from rfl, nf_upd]; exact congrArg nf (if_pos hyes).symm
                  rw [hW_] at hP hD
                  have hP : va_P D vwCl ((b_, .inr (1, [.ref ka_, .ref na_, .ref jo_, .ref me_, .int (nI bt.2.2), .int (nI px), .int (nI pcs)])) :: (ka_, .inl (cI, 256, .inl (k2 kd))) :: (na_, .inl (cI, 256, .inl (l1 bt.1))) :: (jo_, .inl (cI, 100, .inl (nf bt.2.1))) :: (me_, .inl (cI, 100, .inl (nf (metJ bt.1 (nI x) (nI y + (nI i - 1)) (j + 1) (metI bt.1 (nI x) (nI y) i me))))) :: R) H := hP
                  have hD : va_D A ((b_, .inr (1, [.ref ka_, .ref na_, .ref jo_, .ref me_, .int (nI bt.2.2), .int (nI px), .int (nI pcs)])) :: (ka_, .inl (cI, 256, .inl (k2 kd))) :: (na_, .inl (cI, 256, .inl (l1 bt.1))) :: (jo_, .inl (cI, 100, .inl (nf bt.2.1))) :: (me_, .inl (cI, 100, .inl (nf (metJ bt.1 (nI x) (nI y + (nI i - 1)) (j + 1) (metI bt.1 (nI x) (nI y) i me))))) :: R) := hD
                  obtain ⟨x49, ex49⟩ : ∃ y : Int32, y = (nI j - 1) + 1 := ⟨_, rfl⟩
                  refine lv_iinc (v := x49) (lv' := [(4, .int x49), (5, .int (paN bt.1 (nI x + (nI j - 1)) (nI y + (nI i - 1)))), (3, .int (nI i - 1)), (0, .ref b_), (1, .int (nI x)), (2, .int (nI y))]) hx hb dX0_meetRound_49 hl (k := 1) rfl (by rw [ex49]; rfl) (by decide) rfl (fun ls hl => ?_)
                  obtain rfl : x49 = nI (j + 1) - 1 := by rw [ex49]; exact j1_s _
                  refine lv_goto (tgt := 10) hx hb dX0_meetRound_52 (by decide) ?_
                  exact ih_10 (j + 1) (by omega) (by omega) H locs ls hP hD hS (lv_sub hl [0, 2, 3, 4, 5] rfl)
        exact L_10 _ 0 (Nat.zero_le _) (Nat.lt_succ_self _) H locs ls hP hD hS (lv_sub hl [0, 1, 2, 3, 4] rfl)
  exact L_2 _ 0 (Nat.zero_le _) (Nat.lt_succ_self _) H locs ls hP hD hS (lv_sub hl [0, 1, 2, 3] rfl)
abbrev rX0_countNeighbours : Room := { frames := 3, cells := 0, slots := 0, locals := 68 }
set_option maxHeartbeats 4000000 in
set_option maxRecDepth 100000 in
theorem c_X0_countNeighbours (l : Launch) (D : va_G) (cI cJ cG : ClassId) (sz : Nat) (R : va_W) (b_ ka_ na_ jo_ me_ : Nat) (kd me : Nat → Nat) (px pcs : Nat) (bt : Bst) (q : Nat) (hq : q ≤ 256) (hkd : ∀ p, kd p ≤ 6) (hbt : Bok bt) : Met l yX0_countNeighbours wsX0_countNeighbours rX0_countNeighbours (gP D (tyl cI cJ cG) [.ref b_, .int (nI q)] ((b_, .inr (1, [.ref ka_, .ref na_, .ref jo_, .ref me_, .int (nI bt.2.2), .int (nI px), .int (nI pcs)])) :: (ka_, .inl (cI, 256, .inl (k2 kd))) :: (na_, .inl (cI, 256, .inl (l1 bt.1))) :: (jo_, .inl (cI, 100, .inl (nf bt.2.1))) :: (me_, .inl (cI, 100, .inl (nf me))) :: R) sz) (gQi D (tyl cI cJ cG) ((b_, .inr (1, [.ref ka_, .ref na_, .ref jo_, .ref me_, .int (nI bt.2.2), .int (nI px), .int (nI pcs)])) :: (ka_, .inl (cI, 256, .inl (k2 kd))) :: (na_, .inl (cI, 256, .inl (l1 bt.1))) :: (jo_, .inl (cI, 100, .inl (nf bt.2.1))) :: (me_, .inl (cI, 100, .inl (nf me))) :: R) sz (fun r (_ : Unit) => r = nI (nbN bt.1 q (fu (fun _ => 0) me 100) 100)) (fun _ => ((b_, .inr (1, [.ref ka_, .ref na_, .ref jo_, .ref me_, .int (nI bt.2.2), .int (nI px), .int (nI pcs)])) :: (ka_, .inl (cI, 256, .inl (k2 kd))) :: (na_, .inl (cI, 256, .inl (l1 bt.1))) :: (jo_, .inl (cI, 100, .inl (nf bt.2.1))) :: (me_, .inl (cI, 100, .inl (nf (metP bt.1 q (fu (fun _ => 0) me 100) 256)))) :: R))) 0 0 (va_A ((b_, .inr (1, [.ref ka_, .ref na_, .ref jo_, .ref me_, .int (nI bt.2.2), .int (nI px), .int (nI pcs)])) :: (ka_, .inl (cI, 256, .inl (k2 kd))) :: (na_, .inl (cI, 256, .inl (l1 bt.1))) :: (jo_, .inl (cI, 100, .inl (nf bt.2.1))) :: (me_, .inl (cI, 100, .inl (nf me))) :: R) sz) := by
  refine gMet (cc := cX0_countNeighbours) (maxL := 4) (ret := (some .int)) (ls0 := [(0, .ref b_), (1, .int (nI q))]) (by decide) rfl (Nat.le_of_ble_eq_true rfl) rfl ?_
  intro p e s m below meth c hx hb hr hts hown hlocks hml hname A hA hAe hsz Q hQe H locs hP hK hD hS ls hl
  have hown : s.vm.findClass RX0 = some m.cls := hown
  have in_X0 : ∀ w ∈ wsX00, w ∈ wsX0_countNeighbours := by decide +kernel
  have f_21 := hts (.fieldLink RX0 21 "SpectrumHeads$Belt" "met" "[I") (by decide +kernel)
  have f_15 := hts (.fieldLink RX0 15 "SpectrumHeads$Belt" "numberAt" "[I") (by decide +kernel)
  refine lv_aload_n hx hb dX0_countNeighbours_0 rfl (lv_at hl 0 rfl) ?_
  refine va_get (D := D) (ci := 1) (v := .ref me_) (C := RX0) (T := TX0) (N := 7) hx hb hts in_X0 hown hK hP 0 rfl rfl 3 (by decide) f_21 (fun _ h9 => h9) rfl dX0_countNeighbours_1 ?_
  refine lv_iconst (v := 0) hx hb dX0_countNeighbours_4 (by decide) ?_
  have hP := pm_4_0_1_2_3_P hP
  have hD := pm_4_0_1_2_3_D hD
  refine gc_Sv (As := [.ref me_, .int 0]) (rest := []) ⟨hx, hb, hml, hown, hts⟩ (c_J7_fill_53178 l D cI cJ cG H.size ((b_, .inr (1, [.ref ka_, .ref na_, .ref jo_, .ref me_, .int (nI bt.2.2), .int (nI px), .int (nI pcs)])) :: (ka_, .inl (cI, 256, .inl (k2 kd))) :: (na_, .inl (cI, 256, .inl (l1 bt.1))) :: (jo_, .inl (cI, 100, .inl (nf bt.2.1))) :: R) me_ 100 (nf me) 0 (by omega)) (va_cwS 2 hts gX0_countNeighbours_J7_fill_53178 rfl rfl rfl (by decide +kernel) ⟨Nat.le_of_ble_eq_true rfl, Nat.le_of_ble_eq_true rfl⟩) hK hP hD hS hA rfl hl.1 rfl (Nat.le_of_ble_eq_true rfl) dX0_countNeighbours_5 ⟨Nat.le_of_ble_eq_true rfl, Nat.le_of_ble_eq_true rfl⟩ (fun u5 H locs h5 hP hD hS => ?_)
  have hP : va_P D vwCl ((me_, .inl (cI, 100, .inl (fu (fun _ => (0 : Int32)) (nf me) 100))) :: (b_, .inr (1, [.ref ka_, .ref na_, .ref jo_, .ref me_, .int (nI bt.2.2), .int (nI px), .int (nI pcs)])) :: (ka_, .inl (cI, 256, .inl (k2 kd))) :: (na_, .inl (cI, 256, .inl (l1 bt.1))) :: (jo_, .inl (cI, 100, .inl (nf bt.2.1))) :: R) H := hP
  have hD : va_D A ((me_, .inl (cI, 100, .inl (fu (fun _ => (0 : Int32)) (nf me) 100))) :: (b_, .inr (1, [.ref ka_, .ref na_, .ref jo_, .ref me_, .int (nI bt.2.2), .int (nI px), .int (nI pcs)])) :: (ka_, .inl (cI, 256, .inl (k2 kd))) :: (na_, .inl (cI, 256, .inl (l1 bt.1))) :: (jo_, .inl (cI, 100, .inl (nf bt.2.1))) :: R) := hD
  rw [show fu (fun _ => (0 : Int32)) (nf me) 100 = nf (metP bt.1 q (fu (fun _ => 0) me 100) 0) from fu_nf (g := fun _ => 0)] at hP hD
  have hP := pm_1_2_3_4_0_P hP
  have hD := pm_1_2_3_4_0_D hD
  have hP : va_P D vwCl ((b_, .inr (1, [.ref ka_, .ref na_, .ref jo_, .ref me_, .int (nI bt.2.2), .int (nI px), .int (nI pcs)])) :: (ka_, .inl (cI, 256, .inl (k2 kd))) :: (na_, .inl (cI, 256, .inl (l1 bt.1))) :: (jo_, .inl (cI, 100, .inl (nf bt.2.1))) :: (me_, .inl (cI, 100, .inl (nf (metP bt.1 q (fu (fun _ => 0) me 100) 0)))) :: R) H := hP
  have hD : va_D A ((b_, .inr (1, [.ref ka_, .ref na_, .ref jo_, .ref me_, .int (nI bt.2.2), .int (nI px), .int (nI pcs)])) :: (ka_, .inl (cI, 256, .inl (k2 kd))) :: (na_, .inl (cI, 256, .inl (l1 bt.1))) :: (jo_, .inl (cI, 100, .inl (nf bt.2.1))) :: (me_, .inl (cI, 100, .inl (nf (metP bt.1 q (fu (fun _ => 0) me 100) 0)))) :: R) := hD
  refine lv_iconst (v := 0) hx hb dX0_countNeighbours_8 (by decide) ?_
  refine lv_istore_n (lv' := [(2, .int 0), (0, .ref b_), (1, .int (nI q))]) hx hb dX0_countNeighbours_9 rfl hl (by decide) rfl (fun ls hl => ?_)
  have L_10 : ∀ (n_10 : Nat) (i : Nat) (hi : i ≤ 256), 256 - i < n_10 → ∀ (H : Heap) (locs : List Loc) (ls : Array Slot), va_P D vwCl ((b_, .inr (1, [.ref ka_, .ref na_, .ref jo_, .ref me_, .int (nI bt.2.2), .int (nI px), .int (nI pcs)])) :: (ka_, .inl (cI, 256, .inl (k2 kd))) :: (na_, .inl (cI, 256, .inl (l1 bt.1))) :: (jo_, .inl (cI, 100, .inl (nf bt.2.1))) :: (me_, .inl (cI, 100, .inl (nf (metP bt.1 q (fu (fun _ => 0) me 100) i)))) :: R) H → va_D A ((b_, .inr (1, [.ref ka_, .ref na_, .ref jo_, .ref me_, .int (nI bt.2.2), .int (nI px), .int (nI pcs)])) :: (ka_, .inl (cI, 256, .inl (k2 kd))) :: (na_, .inl (cI, 256, .inl (l1 bt.1))) :: (jo_, .inl (cI, 100, .inl (nf bt.2.1))) :: (me_, .inl (cI, 100, .inl (nf (metP bt.1 q (fu (fun _ => 0) me 100) i)))) :: R) → va_S A s.heap H locs → lv_has ls 4 [(2, .int (nI i)), (0, .ref b_), (1, .int (nI q))] → W p l e (headSpec wsX0_countNeighbours rX0_countNeighbours).room s m ([.ref b_, .int (nI q)] : List Value).toArray below meth c H locs 0 0 Q (F0 m 10 ls []) := by
    intro n_10
    induction n_10 with
    | zero => intro i hi hn_; exact absurd hn_ (Nat.not_lt_zero _)
    | succ n_10 ih_10 =>
      intro i hi hn_10 H locs ls hP hD hS hl
      refine lv_iload_n hx hb dX0_countNeighbours_10 rfl (lv_at hl 0 rfl) ?_
      refine lv_sipush (v := 256) hx hb dX0_countNeighbours_11 (by decide) ?_
      refine lv_icmp_ge (tgt := 45) hx hb dX0_countNeighbours_14 (by decide) (fun c14 => ?_) (fun c14 => ?_)
      · skip
        have hE14 := lp_e (n := 256) c14 hi
        subst hE14
        refine lv_iconst (v := 0) hx hb dX0_countNeighbours_45 (by decide) ?_
        refine lv_istore_n (lv' := [(2, .int 0), (0, .ref b_), (1, .int (nI q))]) hx hb dX0_countNeighbours_46 rfl hl (by decide) rfl (fun ls hl => ?_)
        refine lv_iconst (v := 0) hx hb dX0_countNeighbours_47 (by decide) ?_
        refine lv_istore_n (lv' := [(3, .int 0), (2, .int 0), (0, .ref b_), (1, .int (nI q))]) hx hb dX0_countNeighbours_48 rfl hl (by decide) rfl (fun ls hl => ?_)
        have L_49 : ∀ (n_49 : Nat) (o : Nat) (ho : o ≤ 100), 100 - o < n_49 → ∀ (H : Heap) (locs : List Loc) (ls : Array Slot), va_P D vwCl ((b_, .inr (1, [.ref ka_, .ref na_, .ref jo_, .ref me_, .int (nI bt.2.2), .int (nI px), .int (nI pcs)])) :: (ka_, .inl (cI, 256, .inl (k2 kd))) :: (na_, .inl (cI, 256, .inl (l1 bt.1))) :: (jo_, .inl (cI, 100, .inl (nf bt.2.1))) :: (me_, .inl (cI, 100, .inl (nf (metP bt.1 q (fu (fun _ => 0) me 100) 256)))) :: R) H → va_D A ((b_, .inr (1, [.ref ka_, .ref na_, .ref jo_, .ref me_, .int (nI bt.2.2), .int (nI px), .int (nI pcs)])) :: (ka_, .inl (cI, 256, .inl (k2 kd))) :: (na_, .inl (cI, 256, .inl (l1 bt.1))) :: (jo_, .inl (cI, 100, .inl (nf bt.2.1))) :: (me_, .inl (cI, 100, .inl (nf (metP bt.1 q (fu (fun _ => 0) me 100) 256)))) :: R) → va_S A s.heap H locs → lv_has ls 4 [(3, .int (nI o)), (2, .int (nI (nbN bt.1 q (fu (fun _ => 0) me 100) o))), (0, .ref b_), (1, .int (nI q))] → W p l e (headSpec wsX0_countNeighbours rX0_countNeighbours).room s m ([.ref b_, .int (nI q)] : List Value).toArray below meth c H locs 0 0 Q (F0 m 49 ls []) := by
          intro n_49
          induction n_49 with
          | zero => intro o ho hn_; exact absurd hn_ (Nat.not_lt_zero _)
          | succ n_49 ih_49 =>
            intro o ho hn_49 H locs ls hP hD hS hl
            refine lv_iload_n hx hb dX0_countNeighbours_49 rfl (lv_at hl 0 rfl) ?_
            refine lv_bipush (v := 100) hx hb dX0_countNeighbours_50 (by decide) ?_
            refine lv_icmp_ge (tgt := 79) hx hb dX0_countNeighbours_52 (by decide) (fun c52 => ?_) (fun c52 => ?_)
            · skip
              have hE52 := lp_e (n := 100) c52 ho
              subst hE52
              refine lv_iload_n hx hb dX0_countNeighbours_79 rfl (lv_at hl 1 rfl) ?_
              subst hQe
              subst hAe
              subst hsz
              exact g_iret hx hb hr hlocks () rfl hP hK hD hS dX0_countNeighbours_80
            · skip
              have ho8 := lp_l (n := 100) c52 ho
              refine lv_iload_n hx hb dX0_countNeighbours_55 rfl (lv_at hl 1 rfl) ?_
              refine lv_iload_n hx hb dX0_countNeighbours_56 rfl (lv_at hl 0 rfl) ?_
              refine lv_iload_n hx hb dX0_countNeighbours_57 rfl (lv_at hl 3 rfl) ?_
              refine lv_icmp_ne (tgt := 65) hx hb dX0_countNeighbours_58 (by decide) (fun c58 => ?_) (fun c58 => ?_)
              · skip
                have hoq : ¬ o = q := fun h => c58 (by rw [h])
                refine lv_aload_n hx hb dX0_countNeighbours_65 rfl (lv_at hl 2 rfl) ?_
                refine va_get (D := D) (ci := 1) (v := .ref me_) (C := RX0) (T := TX0) (N := 7) hx hb hts in_X0 hown hK hP 0 rfl rfl 3 (by decide) f_21 (fun _ h9 => h9) rfl dX0_countNeighbours_66 ?_
                refine lv_iload_n hx hb dX0_countNeighbours_69 rfl (lv_at hl 0 rfl) ?_
                refine va_iald hx hb hK hP (4) 0 rfl rfl (by first | exact vp_in_nI (by omega) (by omega) | assumption) dX0_countNeighbours_70 ?_
                refine lv_topi (fun x70 ex70 => ?_)
                rw [nI_clamp (by omega)] at ex70
                obtain rfl : x70 = nI ((metP bt.1 q (fu (fun _ => 0) me 100) 256) o) := by exact ex70
                refine lv_iadd hx hb dX0_countNeighbours_71 ?_
                refine lv_topi (fun x71 ex71 => ?_)
                obtain rfl : x71 = nI (nbN bt.1 q (fu (fun _ => 0) me 100) (o + 1)) := by rw [ex71]; first | exact (nI_add _ _).trans (congrArg nI (nbN_n hoq)) | exact (nI_add _ 0).trans (congrArg nI (nbN_s hoq))
                refine lv_istore_n (lv' := [(2, .int (nI (nbN bt.1 q (fu (fun _ => 0) me 100) (o + 1)))), (3, .int (nI o)), (0, .ref b_), (1, .int (nI q))]) hx hb dX0_countNeighbours_72 rfl hl (by decide) rfl (fun ls hl => ?_)
                obtain ⟨x73, ex73⟩ : ∃ y : Int32, y = (nI o) + 1 := ⟨_, rfl⟩
                refine lv_iinc (v := x73) (lv' := [(3, .int x73), (2, .int (nI (nbN bt.1 q (fu (fun _ => 0) me 100) (o + 1)))), (0, .ref b_), (1, .int (nI q))]) hx hb dX0_countNeighbours_73 hl (k := 1) rfl (by rw [ex73]; rfl) (by decide) rfl (fun ls hl => ?_)
                obtain rfl : x73 = nI (o + 1) := by rw [ex73]; exact nI_1 _
                refine lv_goto (tgt := 49) hx hb dX0_countNeighbours_76 (by decide) ?_
                exact ih_49 (o + 1) (by omega) (by omega) H locs ls hP hD hS (lv_sub hl [0, 1, 2, 3] rfl)
              · skip
                have hoq : o = q := (nI_eq (by omega) (by omega)).mp c58
                refine lv_iconst (v := 0) hx hb dX0_countNeighbours_61 (by decide) ?_
                refine lv_goto (tgt := 71) hx hb dX0_countNeighbours_62 (by decide) ?_
                refine lv_iadd hx hb dX0_countNeighbours_71 ?_
                refine lv_topi (fun x71 ex71 => ?_)
                obtain rfl : x71 = nI (nbN bt.1 q (fu (fun _ => 0) me 100) (o + 1)) := by rw [ex71]; first | exact (nI_add _ _).trans (congrArg nI (nbN_n hoq)) | exact (nI_add _ 0).trans (congrArg nI (nbN_s hoq))
                refine lv_istore_n (lv' := [(2, .int (nI (nbN bt.1 q (fu (fun _ => 0) me 100) (o + 1)))), (3, .int (nI o)), (0, .ref b_), (1, .int (nI q))]) hx hb dX0_countNeighbours_72 rfl hl (by decide) rfl (fun ls hl => ?_)
                obtain ⟨x73, ex73⟩ : ∃ y : Int32, y = (nI o) + 1 := ⟨_, rfl⟩
                refine lv_iinc (v := x73) (lv' := [(3, .int x73), (2, .int (nI (nbN bt.1 q (fu (fun _ => 0) me 100) (o + 1)))), (0, .ref b_), (1, .int (nI q))]) hx hb dX0_countNeighbours_73 hl (k := 1) rfl (by rw [ex73]; rfl) (by decide) rfl (fun ls hl => ?_)
                obtain rfl : x73 = nI (o + 1) := by rw [ex73]; exact nI_1 _
                refine lv_goto (tgt := 49) hx hb dX0_countNeighbours_76 (by decide) ?_
                exact ih_49 (o + 1) (by omega) (by omega) H locs ls hP hD hS (lv_sub hl [0, 1, 2, 3] rfl)
        exact L_49 _ 0 (Nat.zero_le _) (Nat.lt_succ_self _) H locs ls hP hD hS (lv_sub hl [0, 1, 2, 3] rfl)
      · skip
        have hi8 := lp_l (n := 256) c14 hi
        have hl6 := hbt.1 i
        refine lv_aload_n hx hb dX0_countNeighbours_17 rfl (lv_at hl 1 rfl) ?_
        refine va_get (D := D) (ci := 1) (v := .ref na_) (C := RX0) (T := TX0) (N := 7) hx hb hts in_X0 hown hK hP 0 rfl rfl 1 (by decide) f_15 (fun _ h9 => h9) rfl dX0_countNeighbours_18 ?_
        refine lv_iload_n hx hb dX0_countNeighbours_21 rfl (lv_at hl 0 rfl) ?_
        refine va_iald hx hb hK hP (2) 0 rfl rfl (by first | exact vp_in_nI (by omega) (by omega) | assumption) dX0_countNeighbours_22 ?_
        refine lv_topi (fun x22 ex22 => ?_)
        rw [nI_clamp (by omega)] at ex22
        obtain rfl : x22 = nI (bt.1 i) - 1 := by exact ex22
        refine lv_iload_n hx hb dX0_countNeighbours_23 rfl (lv_at hl 2 rfl) ?_
        refine lv_icmp_ne (tgt := 39) hx hb dX0_countNeighbours_24 (by decide) (fun c24 => ?_) (fun c24 => ?_)
        · skip
          have hno : ¬ bt.1 i = q + 1 := mt (l1_eq (b := q) (by omega) (by omega)).mpr c24
          rw [metP_n hno] at hP hD
          obtain ⟨x39, ex39⟩ : ∃ y : Int32, y = (nI i) + 1 := ⟨_, rfl⟩
          refine lv_iinc (v := x39) (lv' := [(2, .int x39), (0, .ref b_), (1, .int (nI q))]) hx hb dX0_countNeighbours_39 hl (k := 0) rfl (by rw [ex39]; rfl) (by decide) rfl (fun ls hl => ?_)
          obtain rfl : x39 = nI (i + 1) := by rw [ex39]; exact nI_1 _
          refine lv_goto (tgt := 10) hx hb dX0_countNeighbours_42 (by decide) ?_
          exact ih_10 (i + 1) (by omega) (by omega) H locs ls hP hD hS (lv_sub hl [0, 1, 2] rfl)
        · skip
          have hyes : bt.1 i = q + 1 := (l1_eq (by omega) (by omega)).mp c24
          refine lv_aload_n hx hb dX0_countNeighbours_27 rfl (lv_at hl 1 rfl) ?_
          refine lv_iload_n hx hb dX0_countNeighbours_28 rfl (lv_at hl 0 rfl) ?_
          refine lv_bipush (v := 16) hx hb dX0_countNeighbours_29 (by decide) ?_
          refine lv_irem hx hb dX0_countNeighbours_31 (by decide) ?_
          refine lv_topi (fun x31 ex31 => ?_)
          obtain rfl : x31 = nI (i % 16) := by rw [ex31]; exact pk_rem (d := 16) (by omega) (by omega) (by omega)
          refine lv_iload_n hx hb dX0_countNeighbours_32 rfl (lv_at hl 0 rfl) ?_
          refine lv_bipush (v := 16) hx hb dX0_countNeighbours_33 (by decide) ?_
          refine lv_idiv hx hb dX0_countNeighbours_35 (by decide) ?_
          refine lv_topi (fun x35 ex35 => ?_)
          obtain rfl : x35 = nI (i / 16) := by rw [ex35]; exact pk_div (d := 16) (by omega) (by omega) (by omega)
          refine gc_Vv (As := [.int (nI (i % 16)), .int (nI (i / 16))]) (rest := []) (ci := 1) (q0 := 0) ⟨hx, hb, hml, hown, hts⟩ (c_X0_meetRound l D cI cJ cG H.size R b_ ka_ na_ jo_ me_ kd (metP bt.1 q (fu (fun _ => 0) me 100) i) px pcs bt (i % 16) (i / 16) (by omega) (by omega)) (cwV 2 hts gX0_countNeighbours_X0_meetRound rfl rfl rfl (by decide +kernel) ⟨Nat.le_of_ble_eq_true rfl, Nat.le_of_ble_eq_true rfl⟩) rfl rfl rfl hK hP hD hS hA rfl hl.1 rfl (Nat.le_of_ble_eq_true rfl) dX0_countNeighbours_36 ⟨Nat.le_of_ble_eq_true rfl, Nat.le_of_ble_eq_true rfl⟩ (fun u36 H locs h36 hP hD hS => ?_)
          rw [metP_s hyes] at hP hD
          have hP : va_P D vwCl ((b_, .inr (1, [.ref ka_, .ref na_, .ref jo_, .ref me_, .int (nI bt.2.2), .int (nI px), .int (nI pcs)])) :: (ka_, .inl (cI, 256, .inl (k2 kd))) :: (na_, .inl (cI, 256, .inl (l1 bt.1))) :: (jo_, .inl (cI, 100, .inl (nf bt.2.1))) :: (me_, .inl (cI, 100, .inl (nf (metP bt.1 q (fu (fun _ => 0) me 100) (i + 1))))) :: R) H := hP
          have hD : va_D A ((b_, .inr (1, [.ref ka_, .ref na_, .ref jo_, .ref me_, .int (nI bt.2.2), .int (nI px), .int (nI pcs)])) :: (ka_, .inl (cI, 256, .inl (k2 kd))) :: (na_, .inl (cI, 256, .inl (l1 bt.1))) :: (jo_, .inl (cI, 100, .inl (nf bt.2.1))) :: (me_, .inl (cI, 100, .inl (nf (metP bt.1 q (fu (fun _ => 0) me 100) (i + 1))))) :: R) := hD
          obtain ⟨x39, ex39⟩ : ∃ y : Int32, y = (nI i) + 1 := ⟨_, rfl⟩
          refine lv_iinc (v := x39) (lv' := [(2, .int x39), (0, .ref b_), (1, .int (nI q))]) hx hb dX0_countNeighbours_39 hl (k := 0) rfl (by rw [ex39]; rfl) (by decide) rfl (fun ls hl => ?_)
          obtain rfl : x39 = nI (i + 1) := by rw [ex39]; exact nI_1 _
          refine lv_goto (tgt := 10) hx hb dX0_countNeighbours_42 (by decide) ?_
          exact ih_10 (i + 1) (by omega) (by omega) H locs ls hP hD hS (lv_sub hl [0, 1, 2] rfl)
  exact L_10 _ 0 (Nat.zero_le _) (Nat.lt_succ_self _) H locs ls hP hD hS (lv_sub hl [0, 1, 2] rfl)
end
section
/-! HEADS, pure -/
def lf (sc : Nat → Nat) : Nat → Int64 := fun k => lN (sc k)
theorem lf_upd (f : Nat → Nat) (k x : Nat) : vp_updL (lf f) k (lN x) = lf (un f k x) := by
  funext j
  by_cases h : j = k
  · simp [vp_updL, lf, un, h]
  · simp [vp_updL, lf, un, h]
/-- a channel's number is set, where there is one such and it is a byte -/
def setN (x y : Int32) (f : Nat → Nat) : Nat → Nat := if (inB x 8 && inB y 256) = true then un f x.toNatClampNeg y.toNatClampNeg else f
theorem setN_t {a b : Nat} {f : Nat → Nat} (ha : a < 8) (hb : b < 256) : un f a b = setN (nI a) (nI b) f := by
  unfold setN; rw [inB_nI ha (by omega), inB_nI hb (by omega), nI_clamp (by omega), nI_clamp (by omega)]; rfl
theorem setN_f1 {x y : Int32} {f : Nat → Nat} (h : inB x 8 = false) : f = setN x y f := by unfold setN; rw [h]; rfl
theorem setN_f2 {x y : Int32} {f : Nat → Nat} (h : inB y 256 = false) : f = setN x y f := by unfold setN; rw [h, Bool.and_false]; rfl
theorem setN_le {x y : Int32} {f : Nat → Nat} (h : ∀ k, f k ≤ 255) : ∀ k, setN x y f k ≤ 255 := by
  unfold setN
  split
  · rename_i hc
    rw [Bool.and_eq_true] at hc
    obtain ⟨b, hb, rfl⟩ := inB_of hc.2 (by omega)
    rw [nI_clamp (by omega)]
    exact un_le h (by omega)
  · exact h
/-- the white at a tick -/
def refN (x y : Int32) (t : Int64) (wn : Nat → Nat) (tk : Int64) : (Nat → Nat) × Int64 := if ((inB x 8 && inB y 256) && decide (tk < t)) = true then (un wn x.toNatClampNeg y.toNatClampNeg, t) else (wn, tk)
theorem refN_t {a b : Nat} {t tk : Int64} {wn : Nat → Nat} (ha : a < 8) (hb : b < 256) : (if tk < t then (un wn a b, t) else (wn, tk)) = refN (nI a) (nI b) t wn tk := by
  unfold refN; rw [inB_nI ha (by omega), inB_nI hb (by omega), nI_clamp (by omega), nI_clamp (by omega)]; simp
theorem refN_f1 {x y : Int32} {t tk : Int64} {wn : Nat → Nat} (h : inB x 8 = false) : (wn, tk) = refN x y t wn tk := by unfold refN; rw [h]; rfl
theorem refN_f2 {x y : Int32} {t tk : Int64} {wn : Nat → Nat} (h : inB y 256 = false) : (wn, tk) = refN x y t wn tk := by unfold refN; rw [h, Bool.and_false]; rfl
def bdB (v : Int64) : Bool := !decide (v < 0) && decide (v ≤ 10000)
def wtB (v : Int64) : Bool := !decide (v < 0) && decide (v ≤ 1000000)
theorem bdB_t {v : Int64} (h1 : ¬ v < 0) (h2 : v ≤ 10000) : bdB v = true := by simp [bdB, h1, h2]
theorem bdB_f1 {v : Int64} (h1 : v < 0) : bdB v = false := by simp [bdB, h1]
theorem bdB_f2 {v : Int64} (h2 : ¬ v ≤ 10000) : bdB v = false := by simp [bdB, h2]
theorem wtB_t {v : Int64} (h1 : ¬ v < 0) (h2 : v ≤ 1000000) : wtB v = true := by simp [wtB, h1, h2]
theorem wtB_f1 {v : Int64} (h1 : v < 0) : wtB v = false := by simp [wtB, h1]
theorem wtB_f2 {v : Int64} (h2 : ¬ v ≤ 1000000) : wtB v = false := by simp [wtB, h2]
/-- the kind chosen: by score, then by worth, then the least -/
def grN (sc : Nat → Nat) (wo : Nat → Int64) : Nat → Nat
  | 0 => 0
  | k + 1 => if k = 0 then 0 else if sc (grN sc wo k) < sc k ∨ (sc k = sc (grN sc wo k) ∧ wo (grN sc wo k) < wo k) then k else grN sc wo k
theorem grN_lt {sc : Nat → Nat} {wo : Nat → Int64} : ∀ k, 1 ≤ k → grN sc wo k < k
  | 0, h => by omega
  | 1, _ => by simp [grN]
  | k + 2, _ => by
    have := grN_lt (sc := sc) (wo := wo) (k + 1) (by omega)
    unfold grN
    rw [if_neg (by omega)]
    split
    · omega
    · omega
theorem grN_t {sc : Nat → Nat} {wo : Nat → Int64} {k : Nat} (hk : 1 ≤ k) (h : sc (grN sc wo k) < sc k ∨ (sc k = sc (grN sc wo k) ∧ wo (grN sc wo k) < wo k)) : k = grN sc wo (k + 1) := by
  conv => rhs; unfold grN
  rw [if_neg (by omega), if_pos h]
theorem grN_f {sc : Nat → Nat} {wo : Nat → Int64} {k : Nat} (hk : 1 ≤ k) (h : ¬ (sc (grN sc wo k) < sc k ∨ (sc k = sc (grN sc wo k) ∧ wo (grN sc wo k) < wo k))) : grN sc wo k = grN sc wo (k + 1) := by
  conv => rhs; unfold grN
  rw [if_neg (by omega), if_neg h]
theorem grN_congr {sc sc' : Nat → Nat} {wo : Nat → Int64} : ∀ K, (∀ k, k < K → sc k = sc' k) → grN sc wo K = grN sc' wo K
  | 0, _ => rfl
  | 1, _ => rfl
  | k + 2, h => by
    have ih := grN_congr (wo := wo) (k + 1) (fun j hj => h j (by omega))
    have hl := grN_lt (sc := sc') (wo := wo) (k + 1) (by omega)
    conv => lhs; unfold grN
    conv => rhs; unfold grN
    rw [ih, h (grN sc' wo (k + 1)) (by omega), h (k + 1) (by omega)]
/-- a row reads -/
def rdN (sc : Nat → Nat) (wo : Nat → Int64) (le : Int64) (K : Nat) : Int32 := if lN (sc (grN sc wo K)) < le then -1 else nI (grN sc wo K)
def RD (kn : Nat → Nat) (C : Nat → Nat → Nat) (fc : Nat → Nat) (w : Int32) (n : Nat) (wo : Nat → Int64) (le : Int64) (K : Nat) : Int32 := rdN (fun k => SUM kn C fc k w n) wo le K
theorem RD_of {kn : Nat → Nat} {C : Nat → Nat → Nat} {fc : Nat → Nat} {w : Int32} {n : Nat} {wo : Nat → Int64} {le : Int64} {K : Nat} {sc : Nat → Nat} (hK : 1 ≤ K) (h : ∀ k, k < K → sc k = SUM kn C fc k w n) : rdN sc wo le K = RD kn C fc w n wo le K := by
  unfold RD rdN
  rw [grN_congr (sc' := fun k => SUM kn C fc k w n) K h, h _ (grN_lt K hK)]
theorem SUM_le {kn : Nat → Nat} {C : Nat → Nat → Nat} {fc : Nat → Nat} {kd : Nat} {w : Int32} {n : Nat} : SUM kn C fc kd w n ≤ 7000 := by
  unfold SUM
  refine Nat.le_trans (sumN_le (m := 1000) (fun k => ?_) 7) (by omega)
  split
  · omega
  · rename_i h
    refine Nat.div_le_of_le_mul ?_
    have : cnt (samR kn C fc kd w k) n ≤ cnt (okR kn kd w) n := cnt_mono (fun i hi => by unfold samR at hi; rw [Bool.and_eq_true] at hi; exact hi.1) n
    exact Nat.mul_le_mul_right 1000 this
/-- other cells behind the pool, and back -/
theorem sw_P {D : va_G} {cl : List vw_C} {Xt Xo p q R : va_W} {H : Heap} (h : va_P D cl ((Xt ++ Xo) ++ (p ++ (q ++ R))) H) : va_P D cl (Xt ++ (p ++ (q ++ (R ++ Xo)))) H := by
  have := h.swap
  simpa [List.append_assoc] using this
theorem sw_D {A : Nat → Prop} {Xt Xo p q R : va_W} (h : va_D A ((Xt ++ Xo) ++ (p ++ (q ++ R)))) : va_D A (Xt ++ (p ++ (q ++ (R ++ Xo)))) := by
  have := h.swap
  simpa [List.append_assoc] using this
theorem ws_P {D : va_G} {cl : List vw_C} {Xt Xo p q R : va_W} {H : Heap} (h : va_P D cl (Xt ++ (p ++ (q ++ (R ++ Xo)))) H) : va_P D cl ((Xt ++ Xo) ++ (p ++ (q ++ R))) H := by
  have h2 : va_P D cl ((Xt ++ (p ++ (q ++ R))) ++ Xo) H := by simpa [List.append_assoc] using h
  exact h2.swap
theorem ws_D {A : Nat → Prop} {Xt Xo p q R : va_W} (h : va_D A (Xt ++ (p ++ (q ++ (R ++ Xo))))) : va_D A ((Xt ++ Xo) ++ (p ++ (q ++ R))) := by
  have h2 : va_D A ((Xt ++ (p ++ (q ++ R))) ++ Xo) := by simpa [List.append_assoc] using h
  exact h2.swap
theorem tl_get {cI : ClassId} {ar ac : Nat → Nat} {M C : Nat → Nat → Nat} {R Xo : va_W} (k : Nat) {x : Nat × va_E} (h : Xo[k]? = some x) : (pr cI ar M ++ (pq cI ac C ++ (R ++ Xo)))[80 + R.length + k]? = some x := by
  rw [List.getElem?_append_right (by rw [pr_len]; omega), pr_len, List.getElem?_append_right (by rw [pq_len]; omega), pq_len, List.getElem?_append_right (by omega)]
  rw [show 80 + R.length + k - 40 - 40 - R.length = k by omega]
  exact h
/-- what holds of a state of the heads -/
def HI (K n : Nat) (dn wn vn kn : Nat → Nat) (M C : Nat → Nat → Nat) (kd : Nat → Nat) (px pcs : Nat) (bt : Bst) (F : Nat → Nat) (fc : Nat) (nr nc : Nat → Nat) : Prop :=
  (1 ≤ K ∧ K ≤ 4) ∧ n ≤ 40 ∧ ((∀ k, dn k ≤ 255) ∧ (∀ k, wn k ≤ 255) ∧ (∀ k, vn k ≤ 255)) ∧ ((∀ i, kn i ≤ 255) ∧ (∀ i k, M i k ≤ 255) ∧ (∀ i k, C i k < 8)) ∧ ((∀ p, kd p ≤ 6) ∧ px ≤ 100 ∧ pcs ≤ 256 ∧ Bok bt) ∧ ((∀ k, F k ≤ 255) ∧ fc ≤ 400) ∧ ((∀ k, nr k ≤ 255) ∧ (∀ k, nc k < 8))
theorem gr_loc {ls : Array Slot} {nL i k g : Nat} {rest : List (Nat × Value)} (h : lv_has ls nL ((i, .int (nI k)) :: rest)) (e : k = g) : lv_has ls nL ((i, .int (nI g)) :: rest) := by
  subst e; exact h
end
section
abbrev hwW (cI cJ cG : ClassId) (R : va_W) (h_ c_ d_ w_ v_ t_ rk_ ro_ rc_ al_ b_ ka_ na_ jo_ me_ wo_ fd_ nr_ nc_ sc_ : Nat) (ar ac : Nat → Nat) (K : Nat) (n : Nat) (dn : Nat → Nat) (wn : Nat → Nat) (vn : Nat → Nat) (tk : Int64) (kn : Nat → Nat) (M : Nat → Nat → Nat) (C : Nat → Nat → Nat) (al : Nat → Nat) (kd : Nat → Nat) (me : Nat → Nat) (px : Nat) (pcs : Nat) (bt : Bst) (wo : Nat → Int64) (le : Int64) (F : Nat → Nat) (fc : Nat) (nr : Nat → Nat) (nc : Nat → Nat) (sc : Nat → Nat) : va_W := ((h_, .inr (4, [.int (nI K), .ref c_, .ref t_, .ref b_, .ref wo_, .long le, .ref fd_, .int (nI fc), .ref nr_, .ref nc_, .ref sc_])) :: (c_, .inr (2, [.ref d_, .ref w_, .ref v_, .long tk])) :: (d_, .inl (cI, 8, .inl (nf dn))) :: (w_, .inl (cI, 8, .inl (nf wn))) :: (v_, .inl (cI, 8, .inl (nf vn))) :: (t_, .inr (3, [.int (nI K), .ref rk_, .ref ro_, .ref rc_, .ref al_, .int (nI n)])) :: (rk_, .inl (cI, 40, .inl (nf kn))) :: (ro_, .inl (cG, 40, .inr (.inr (.inr (.inr (og ar)))))) :: (rc_, .inl (cG, 40, .inr (.inr (.inr (.inr (og ac)))))) :: (al_, .inl (cI, 7, .inl (nf al))) :: (b_, .inr (1, [.ref ka_, .ref na_, .ref jo_, .ref me_, .int (nI bt.2.2), .int (nI px), .int (nI pcs)])) :: (ka_, .inl (cI, 256, .inl (k2 kd))) :: (na_, .inl (cI, 256, .inl (l1 bt.1))) :: (jo_, .inl (cI, 100, .inl (nf bt.2.1))) :: (me_, .inl (cI, 100, .inl (nf me))) :: (wo_, .inl (cJ, K, .inr (.inl wo))) :: (fd_, .inl (cI, 400, .inl (nf F))) :: (nr_, .inl (cI, 8, .inl (nf nr))) :: (nc_, .inl (cI, 7, .inl (nf nc))) :: (sc_, .inl (cJ, K, .inr (.inl (lf sc)))) :: (pr cI ar M ++ (pq cI ac C ++ R)))
abbrev rX3_isKind : Room := { frames := 0, cells := 0, slots := 0, locals := 0 }
set_option maxHeartbeats 4000000 in
set_option maxRecDepth 100000 in
theorem c_X3_isKind (l : Launch) (D : va_G) (cI cJ cG : ClassId) (sz : Nat) (R : va_W) (h_ c_ t_ b_ wo_ fd_ nr_ nc_ sc_ K fc : Nat) (le : Int64) (x : Int32) (hK4 : K ≤ 4) : Met l yX3_isKind wsX3_isKind rX3_isKind (gP D (tyl cI cJ cG) [.ref h_, .int x] ((h_, .inr (4, [.int (nI K), .ref c_, .ref t_, .ref b_, .ref wo_, .long le, .ref fd_, .int (nI fc), .ref nr_, .ref nc_, .ref sc_])) :: R) sz) (gQi D (tyl cI cJ cG) ((h_, .inr (4, [.int (nI K), .ref c_, .ref t_, .ref b_, .ref wo_, .long le, .ref fd_, .int (nI fc), .ref nr_, .ref nc_, .ref sc_])) :: R) sz (fun r (_ : Unit) => r = bI (inB x K)) (fun _ => ((h_, .inr (4, [.int (nI K), .ref c_, .ref t_, .ref b_, .ref wo_, .long le, .ref fd_, .int (nI fc), .ref nr_, .ref nc_, .ref sc_])) :: R))) 0 0 (va_A ((h_, .inr (4, [.int (nI K), .ref c_, .ref t_, .ref b_, .ref wo_, .long le, .ref fd_, .int (nI fc), .ref nr_, .ref nc_, .ref sc_])) :: R) sz) := by
  refine gMet (cc := cX3_isKind) (maxL := 2) (ret := (some .boolean)) (ls0 := [(0, .ref h_), (1, .int x)]) (by decide) rfl (Nat.le_of_ble_eq_true rfl) rfl ?_
  intro p e s m below meth c hx hb hr hts hown hlocks hml hname A hA hAe hsz Q hQe H locs hP hK hD hS ls hl
  have hown : s.vm.findClass RX3 = some m.cls := hown
  have in_X3 : ∀ w ∈ wsX30, w ∈ wsX3_isKind := by decide +kernel
  have f_9 := hts (.fieldLink RX3 9 "SpectrumHeads" "kinds" "I") (by decide +kernel)
  refine lv_iload_n hx hb dX3_isKind_0 rfl (lv_at hl 1 rfl) ?_
  refine lv_if_lt (tgt := 16) hx hb dX3_isKind_1 (by decide) (fun c1 => ?_) (fun c1 => ?_)
  · skip
    refine lv_iconst (v := 0) hx hb dX3_isKind_16 (by decide) ?_
    subst hQe
    subst hAe
    subst hsz
    exact g_zret hx hb hr hlocks rfl () (by first | (rw [inB_f1 c1]; rfl) | (rw [inB_f2 (n := K) (by omega) c9]; rfl) | (rw [inB_t (n := K) (by omega) c1 c9]; rfl)) hP hK hD hS dX3_isKind_17
  · skip
    refine lv_iload_n hx hb dX3_isKind_4 rfl (lv_at hl 1 rfl) ?_
    refine lv_aload_n hx hb dX3_isKind_5 rfl (lv_at hl 0 rfl) ?_
    refine va_get (D := D) (ci := 4) (v := .int (nI K)) (C := RX3) (T := TX3) (N := 11) hx hb hts in_X3 hown hK hP 0 rfl rfl 0 (by decide) f_9 (fun _ h9 => h9) rfl dX3_isKind_6 ?_
    refine lv_icmp_ge (tgt := 16) hx hb dX3_isKind_9 (by decide) (fun c9 => ?_) (fun c9 => ?_)
    · skip
      refine lv_iconst (v := 0) hx hb dX3_isKind_16 (by decide) ?_
      subst hQe
      subst hAe
      subst hsz
      exact g_zret hx hb hr hlocks rfl () (by first | (rw [inB_f1 c1]; rfl) | (rw [inB_f2 (n := K) (by omega) c9]; rfl) | (rw [inB_t (n := K) (by omega) c1 c9]; rfl)) hP hK hD hS dX3_isKind_17
    · skip
      refine lv_iconst (v := 1) hx hb dX3_isKind_12 (by decide) ?_
      refine lv_goto (tgt := 17) hx hb dX3_isKind_13 (by decide) ?_
      subst hQe
      subst hAe
      subst hsz
      exact g_zret hx hb hr hlocks rfl () (by first | (rw [inB_f1 c1]; rfl) | (rw [inB_f2 (n := K) (by omega) c9]; rfl) | (rw [inB_t (n := K) (by omega) c1 c9]; rfl)) hP hK hD hS dX3_isKind_17
theorem pm_1_2_3_4_0_5_6_7_8_9_10_11_12_13_14_15_16_17_18_19_P {D : va_G} {cl : List vw_C} {H : Heap} {x0 x1 x2 x3 x4 x5 x6 x7 x8 x9 x10 x11 x12 x13 x14 x15 x16 x17 x18 x19 : Nat × va_E} {T : va_W} (h : va_P D cl (x0 :: x1 :: x2 :: x3 :: x4 :: x5 :: x6 :: x7 :: x8 :: x9 :: x10 :: x11 :: x12 :: x13 :: x14 :: x15 :: x16 :: x17 :: x18 :: x19 :: T) H) : va_P D cl (x1 :: x2 :: x3 :: x4 :: x0 :: x5 :: x6 :: x7 :: x8 :: x9 :: x10 :: x11 :: x12 :: x13 :: x14 :: x15 :: x16 :: x17 :: x18 :: x19 :: T) H := va_P.part (X := [x0, x1, x2, x3, x4, x5, x6, x7, x8, x9, x10, x11, x12, x13, x14, x15, x16, x17, x18, x19]) (pl := T) (cx := [x1, x2, x3, x4, x0, x5, x6, x7, x8, x9, x10, x11, x12, x13, x14, x15, x16, x17, x18, x19]) h [1, 2, 3, 4, 0, 5, 6, 7, 8, 9, 10, 11, 12, 13, 14, 15, 16, 17, 18, 19] rfl
theorem pm_1_2_3_4_0_5_6_7_8_9_10_11_12_13_14_15_16_17_18_19_D {A : Nat → Prop} {x0 x1 x2 x3 x4 x5 x6 x7 x8 x9 x10 x11 x12 x13 x14 x15 x16 x17 x18 x19 : Nat × va_E} {T : va_W} (h : va_D A (x0 :: x1 :: x2 :: x3 :: x4 :: x5 :: x6 :: x7 :: x8 :: x9 :: x10 :: x11 :: x12 :: x13 :: x14 :: x15 :: x16 :: x17 :: x18 :: x19 :: T)) : va_D A (x1 :: x2 :: x3 :: x4 :: x0 :: x5 :: x6 :: x7 :: x8 :: x9 :: x10 :: x11 :: x12 :: x13 :: x14 :: x15 :: x16 :: x17 :: x18 :: x19 :: T) := va_D.part (X := [x0, x1, x2, x3, x4, x5, x6, x7, x8, x9, x10, x11, x12, x13, x14, x15, x16, x17, x18, x19]) (pl := T) (cx := [x1, x2, x3, x4, x0, x5, x6, x7, x8, x9, x10, x11, x12, x13, x14, x15, x16, x17, x18, x19]) h [1, 2, 3, 4, 0, 5, 6, 7, 8, 9, 10, 11, 12, 13, 14, 15, 16, 17, 18, 19] (by decide) rfl
theorem pm_4_0_1_2_3_5_6_7_8_9_10_11_12_13_14_15_16_17_18_19_P {D : va_G} {cl : List vw_C} {H : Heap} {x0 x1 x2 x3 x4 x5 x6 x7 x8 x9 x10 x11 x12 x13 x14 x15 x16 x17 x18 x19 : Nat × va_E} {T : va_W} (h : va_P D cl (x0 :: x1 :: x2 :: x3 :: x4 :: x5 :: x6 :: x7 :: x8 :: x9 :: x10 :: x11 :: x12 :: x13 :: x14 :: x15 :: x16 :: x17 :: x18 :: x19 :: T) H) : va_P D cl (x4 :: x0 :: x1 :: x2 :: x3 :: x5 :: x6 :: x7 :: x8 :: x9 :: x10 :: x11 :: x12 :: x13 :: x14 :: x15 :: x16 :: x17 :: x18 :: x19 :: T) H := va_P.part (X := [x0, x1, x2, x3, x4, x5, x6, x7, x8, x9, x10, x11, x12, x13, x14, x15, x16, x17, x18, x19]) (pl := T) (cx := [x4, x0, x1, x2, x3, x5, x6, x7, x8, x9, x10, x11, x12, x13, x14, x15, x16, x17, x18, x19]) h [4, 0, 1, 2, 3, 5, 6, 7, 8, 9, 10, 11, 12, 13, 14, 15, 16, 17, 18, 19] rfl
theorem pm_4_0_1_2_3_5_6_7_8_9_10_11_12_13_14_15_16_17_18_19_D {A : Nat → Prop} {x0 x1 x2 x3 x4 x5 x6 x7 x8 x9 x10 x11 x12 x13 x14 x15 x16 x17 x18 x19 : Nat × va_E} {T : va_W} (h : va_D A (x0 :: x1 :: x2 :: x3 :: x4 :: x5 :: x6 :: x7 :: x8 :: x9 :: x10 :: x11 :: x12 :: x13 :: x14 :: x15 :: x16 :: x17 :: x18 :: x19 :: T)) : va_D A (x4 :: x0 :: x1 :: x2 :: x3 :: x5 :: x6 :: x7 :: x8 :: x9 :: x10 :: x11 :: x12 :: x13 :: x14 :: x15 :: x16 :: x17 :: x18 :: x19 :: T) := va_D.part (X := [x0, x1, x2, x3, x4, x5, x6, x7, x8, x9, x10, x11, x12, x13, x14, x15, x16, x17, x18, x19]) (pl := T) (cx := [x4, x0, x1, x2, x3, x5, x6, x7, x8, x9, x10, x11, x12, x13, x14, x15, x16, x17, x18, x19]) h [4, 0, 1, 2, 3, 5, 6, 7, 8, 9, 10, 11, 12, 13, 14, 15, 16, 17, 18, 19] (by decide) rfl
abbrev rX3_dark : Room := { frames := 1, cells := 0, slots := 0, locals := 22 }
set_option maxHeartbeats 4000000 in
set_option maxRecDepth 100000 in
theorem c_X3_dark (l : Launch) (D : va_G) (cI cJ cG : ClassId) (sz : Nat) (R : va_W) (h_ c_ d_ w_ v_ t_ rk_ ro_ rc_ al_ b_ ka_ na_ jo_ me_ wo_ fd_ nr_ nc_ sc_ : Nat) (ar ac : Nat → Nat) (K : Nat) (n : Nat) (dn : Nat → Nat) (wn : Nat → Nat) (vn : Nat → Nat) (tk : Int64) (kn : Nat → Nat) (M : Nat → Nat → Nat) (C : Nat → Nat → Nat) (al : Nat → Nat) (kd : Nat → Nat) (me : Nat → Nat) (px : Nat) (pcs : Nat) (bt : Bst) (wo : Nat → Int64) (le : Int64) (F : Nat → Nat) (fc : Nat) (nr : Nat → Nat) (nc : Nat → Nat) (sc : Nat → Nat) (x y : Int32) (hI : HI K n dn wn vn kn M C kd px pcs bt F fc nr nc) : Met l yX3_dark wsX3_dark rX3_dark (gP D (tyl cI cJ cG) [.ref h_, .int x, .int y] (hwW cI cJ cG R h_ c_ d_ w_ v_ t_ rk_ ro_ rc_ al_ b_ ka_ na_ jo_ me_ wo_ fd_ nr_ nc_ sc_ ar ac K n dn wn vn tk kn M C al kd me px pcs bt wo le F fc nr nc sc) sz) (gQi D (tyl cI cJ cG) (hwW cI cJ cG R h_ c_ d_ w_ v_ t_ rk_ ro_ rc_ al_ b_ ka_ na_ jo_ me_ wo_ fd_ nr_ nc_ sc_ ar ac K n dn wn vn tk kn M C al kd me px pcs bt wo le F fc nr nc sc) sz (fun r (u : Nat → Nat) => r = bI (inB x 8 && inB y 256) ∧ u = setN x y dn) (fun u => (hwW cI cJ cG R h_ c_ d_ w_ v_ t_ rk_ ro_ rc_ al_ b_ ka_ na_ jo_ me_ wo_ fd_ nr_ nc_ sc_ ar ac K n u wn vn tk kn M C al kd me px pcs bt wo le F fc nr nc sc))) 0 0 (va_A (hwW cI cJ cG R h_ c_ d_ w_ v_ t_ rk_ ro_ rc_ al_ b_ ka_ na_ jo_ me_ wo_ fd_ nr_ nc_ sc_ ar ac K n dn wn vn tk kn M C al kd me px pcs bt wo le F fc nr nc sc) sz) := by
  refine gMet (cc := cX3_dark) (maxL := 3) (ret := (some .boolean)) (ls0 := [(0, .ref h_), (1, .int x), (2, .int y)]) (by decide) rfl (Nat.le_of_ble_eq_true rfl) rfl ?_
  intro p e s m below meth c hx hb hr hts hown hlocks hml hname A hA hAe hsz Q hQe H locs hP hK hD hS ls hl
  have hown : s.vm.findClass RX3 = some m.cls := hown
  have in_X3 : ∀ w ∈ wsX30, w ∈ wsX3_dark := by decide +kernel
  have f_16 := hts (.fieldLink RX3 16 "SpectrumHeads" "channels" "LSpectrumHeads$Channels;") (by decide +kernel)
  refine lv_iload_n hx hb dX3_dark_0 rfl (lv_at hl 1 rfl) ?_
  refine gc_Si (As := [.int x]) (rest := []) ⟨hx, hb, hml, hown, hts⟩ (c_X3_isChannel l D cI cJ cG H.size _ x) (va_cwS 1 hts gX3_dark_X3_isChannel rfl rfl rfl (by decide +kernel) ⟨Nat.le_of_ble_eq_true rfl, Nat.le_of_ble_eq_true rfl⟩) hK hP hD hS hA rfl hl.1 rfl (Nat.le_of_ble_eq_true rfl) dX3_dark_1 ⟨Nat.le_of_ble_eq_true rfl, Nat.le_of_ble_eq_true rfl⟩ (fun r1 u1 H locs h1 hP hD hS => ?_)
  subst h1
  have hP : va_P D vwCl (hwW cI cJ cG R h_ c_ d_ w_ v_ t_ rk_ ro_ rc_ al_ b_ ka_ na_ jo_ me_ wo_ fd_ nr_ nc_ sc_ ar ac K n dn wn vn tk kn M C al kd me px pcs bt wo le F fc nr nc sc) H := hP
  have hD : va_D A (hwW cI cJ cG R h_ c_ d_ w_ v_ t_ rk_ ro_ rc_ al_ b_ ka_ na_ jo_ me_ wo_ fd_ nr_ nc_ sc_ ar ac K n dn wn vn tk kn M C al kd me px pcs bt wo le F fc nr nc sc) := hD
  refine lv_if_eq (tgt := 30) hx hb dX3_dark_4 (by decide) (fun c4 => ?_) (fun c4 => ?_)
  · skip
    have hB4 := bI_0.mp c4
    refine lv_iconst (v := 0) hx hb dX3_dark_30 (by decide) ?_
    subst hQe
    subst hAe
    subst hsz
    exact g_zret hx hb hr hlocks rfl dn (by first | exact ⟨by rw [hB4]; rfl, setN_f1 hB4⟩ | exact ⟨by rw [hB11, Bool.and_false]; rfl, setN_f2 hB11⟩) hP hK hD hS dX3_dark_31
  · skip
    have hB4 := bI_n0.mp c4
    obtain ⟨a, ha_, rfl⟩ := inB_of hB4 (by omega)
    refine lv_iload_n hx hb dX3_dark_7 rfl (lv_at hl 2 rfl) ?_
    refine gc_Si (As := [.int y]) (rest := []) ⟨hx, hb, hml, hown, hts⟩ (c_X3_isByte l D cI cJ cG H.size _ y) (va_cwS 1 hts gX3_dark_X3_isByte rfl rfl rfl (by decide +kernel) ⟨Nat.le_of_ble_eq_true rfl, Nat.le_of_ble_eq_true rfl⟩) hK hP hD hS hA rfl hl.1 rfl (Nat.le_of_ble_eq_true rfl) dX3_dark_8 ⟨Nat.le_of_ble_eq_true rfl, Nat.le_of_ble_eq_true rfl⟩ (fun r8 u8 H locs h8 hP hD hS => ?_)
    subst h8
    have hP : va_P D vwCl (hwW cI cJ cG R h_ c_ d_ w_ v_ t_ rk_ ro_ rc_ al_ b_ ka_ na_ jo_ me_ wo_ fd_ nr_ nc_ sc_ ar ac K n dn wn vn tk kn M C al kd me px pcs bt wo le F fc nr nc sc) H := hP
    have hD : va_D A (hwW cI cJ cG R h_ c_ d_ w_ v_ t_ rk_ ro_ rc_ al_ b_ ka_ na_ jo_ me_ wo_ fd_ nr_ nc_ sc_ ar ac K n dn wn vn tk kn M C al kd me px pcs bt wo le F fc nr nc sc) := hD
    refine lv_if_eq (tgt := 30) hx hb dX3_dark_11 (by decide) (fun c11 => ?_) (fun c11 => ?_)
    · skip
      have hB11 := bI_0.mp c11
      refine lv_iconst (v := 0) hx hb dX3_dark_30 (by decide) ?_
      subst hQe
      subst hAe
      subst hsz
      exact g_zret hx hb hr hlocks rfl dn (by first | exact ⟨by rw [hB4]; rfl, setN_f1 hB4⟩ | exact ⟨by rw [hB11, Bool.and_false]; rfl, setN_f2 hB11⟩) hP hK hD hS dX3_dark_31
    · skip
      have hB11 := bI_n0.mp c11
      obtain ⟨b, hb_, rfl⟩ := inB_of hB11 (by omega)
      refine lv_aload_n hx hb dX3_dark_14 rfl (lv_at hl 0 rfl) ?_
      refine va_get (D := D) (ci := 4) (v := .ref c_) (C := RX3) (T := TX3) (N := 11) hx hb hts in_X3 hown hK hP 0 rfl rfl 1 (by decide) f_16 (fun _ h9 => h9) rfl dX3_dark_15 ?_
      refine lv_iload_n hx hb dX3_dark_18 rfl (lv_at hl 1 rfl) ?_
      refine lv_iload_n hx hb dX3_dark_19 rfl (lv_at hl 2 rfl) ?_
      have hP := pm_1_2_3_4_0_5_6_7_8_9_10_11_12_13_14_15_16_17_18_19_P hP
      have hD := pm_1_2_3_4_0_5_6_7_8_9_10_11_12_13_14_15_16_17_18_19_D hD
      refine gc_Vi (As := [.int (nI a), .int (nI b)]) (rest := []) (ci := 2) (q0 := 0) ⟨hx, hb, hml, hown, hts⟩ (c_X1_setDark l D cI cJ cG H.size _ c_ d_ w_ v_ dn wn vn tk a b ha_) (cwV 2 hts gX3_dark_X1_setDark rfl rfl rfl (by decide +kernel) ⟨Nat.le_of_ble_eq_true rfl, Nat.le_of_ble_eq_true rfl⟩) rfl rfl rfl hK hP hD hS hA rfl hl.1 rfl (Nat.le_of_ble_eq_true rfl) dX3_dark_20 ⟨Nat.le_of_ble_eq_true rfl, Nat.le_of_ble_eq_true rfl⟩ (fun r20 u20 H locs h20 hP hD hS => ?_)
      subst h20
      have hP := pm_4_0_1_2_3_5_6_7_8_9_10_11_12_13_14_15_16_17_18_19_P hP
      have hD := pm_4_0_1_2_3_5_6_7_8_9_10_11_12_13_14_15_16_17_18_19_D hD
      have hP : va_P D vwCl (hwW cI cJ cG R h_ c_ d_ w_ v_ t_ rk_ ro_ rc_ al_ b_ ka_ na_ jo_ me_ wo_ fd_ nr_ nc_ sc_ ar ac K n (un dn a b) wn vn tk kn M C al kd me px pcs bt wo le F fc nr nc sc) H := hP
      have hD : va_D A (hwW cI cJ cG R h_ c_ d_ w_ v_ t_ rk_ ro_ rc_ al_ b_ ka_ na_ jo_ me_ wo_ fd_ nr_ nc_ sc_ ar ac K n (un dn a b) wn vn tk kn M C al kd me px pcs bt wo le F fc nr nc sc) := hD
      refine lv_if_eq (tgt := 30) hx hb dX3_dark_23 (by decide) (fun c23 => ?_) (fun c23 => ?_)
      · skip
        exact absurd c23 (by decide)
      · skip
        refine lv_iconst (v := 1) hx hb dX3_dark_26 (by decide) ?_
        refine lv_goto (tgt := 31) hx hb dX3_dark_27 (by decide) ?_
        subst hQe
        subst hAe
        subst hsz
        exact g_zret hx hb hr hlocks rfl (un dn a b) ⟨by rw [inB_nI ha_ (by omega), inB_nI hb_ (by omega)]; rfl, setN_t ha_ hb_⟩ hP hK hD hS dX3_dark_31
abbrev rX3_value : Room := { frames := 1, cells := 0, slots := 0, locals := 22 }
set_option maxHeartbeats 4000000 in
set_option maxRecDepth 100000 in
theorem c_X3_value (l : Launch) (D : va_G) (cI cJ cG : ClassId) (sz : Nat) (R : va_W) (h_ c_ d_ w_ v_ t_ rk_ ro_ rc_ al_ b_ ka_ na_ jo_ me_ wo_ fd_ nr_ nc_ sc_ : Nat) (ar ac : Nat → Nat) (K : Nat) (n : Nat) (dn : Nat → Nat) (wn : Nat → Nat) (vn : Nat → Nat) (tk : Int64) (kn : Nat → Nat) (M : Nat → Nat → Nat) (C : Nat → Nat → Nat) (al : Nat → Nat) (kd : Nat → Nat) (me : Nat → Nat) (px : Nat) (pcs : Nat) (bt : Bst) (wo : Nat → Int64) (le : Int64) (F : Nat → Nat) (fc : Nat) (nr : Nat → Nat) (nc : Nat → Nat) (sc : Nat → Nat) (x y : Int32) (hI : HI K n dn wn vn kn M C kd px pcs bt F fc nr nc) : Met l yX3_value wsX3_value rX3_value (gP D (tyl cI cJ cG) [.ref h_, .int x, .int y] (hwW cI cJ cG R h_ c_ d_ w_ v_ t_ rk_ ro_ rc_ al_ b_ ka_ na_ jo_ me_ wo_ fd_ nr_ nc_ sc_ ar ac K n dn wn vn tk kn M C al kd me px pcs bt wo le F fc nr nc sc) sz) (gQi D (tyl cI cJ cG) (hwW cI cJ cG R h_ c_ d_ w_ v_ t_ rk_ ro_ rc_ al_ b_ ka_ na_ jo_ me_ wo_ fd_ nr_ nc_ sc_ ar ac K n dn wn vn tk kn M C al kd me px pcs bt wo le F fc nr nc sc) sz (fun r (u : Nat → Nat) => r = bI (inB x 8 && inB y 256) ∧ u = setN x y vn) (fun u => (hwW cI cJ cG R h_ c_ d_ w_ v_ t_ rk_ ro_ rc_ al_ b_ ka_ na_ jo_ me_ wo_ fd_ nr_ nc_ sc_ ar ac K n dn wn u tk kn M C al kd me px pcs bt wo le F fc nr nc sc))) 0 0 (va_A (hwW cI cJ cG R h_ c_ d_ w_ v_ t_ rk_ ro_ rc_ al_ b_ ka_ na_ jo_ me_ wo_ fd_ nr_ nc_ sc_ ar ac K n dn wn vn tk kn M C al kd me px pcs bt wo le F fc nr nc sc) sz) := by
  refine gMet (cc := cX3_value) (maxL := 3) (ret := (some .boolean)) (ls0 := [(0, .ref h_), (1, .int x), (2, .int y)]) (by decide) rfl (Nat.le_of_ble_eq_true rfl) rfl ?_
  intro p e s m below meth c hx hb hr hts hown hlocks hml hname A hA hAe hsz Q hQe H locs hP hK hD hS ls hl
  have hown : s.vm.findClass RX3 = some m.cls := hown
  have in_X3 : ∀ w ∈ wsX30, w ∈ wsX3_value := by decide +kernel
  have f_16 := hts (.fieldLink RX3 16 "SpectrumHeads" "channels" "LSpectrumHeads$Channels;") (by decide +kernel)
  refine lv_iload_n hx hb dX3_value_0 rfl (lv_at hl 1 rfl) ?_
  refine gc_Si (As := [.int x]) (rest := []) ⟨hx, hb, hml, hown, hts⟩ (c_X3_isChannel l D cI cJ cG H.size _ x) (va_cwS 1 hts gX3_value_X3_isChannel rfl rfl rfl (by decide +kernel) ⟨Nat.le_of_ble_eq_true rfl, Nat.le_of_ble_eq_true rfl⟩) hK hP hD hS hA rfl hl.1 rfl (Nat.le_of_ble_eq_true rfl) dX3_value_1 ⟨Nat.le_of_ble_eq_true rfl, Nat.le_of_ble_eq_true rfl⟩ (fun r1 u1 H locs h1 hP hD hS => ?_)
  subst h1
  have hP : va_P D vwCl (hwW cI cJ cG R h_ c_ d_ w_ v_ t_ rk_ ro_ rc_ al_ b_ ka_ na_ jo_ me_ wo_ fd_ nr_ nc_ sc_ ar ac K n dn wn vn tk kn M C al kd me px pcs bt wo le F fc nr nc sc) H := hP
  have hD : va_D A (hwW cI cJ cG R h_ c_ d_ w_ v_ t_ rk_ ro_ rc_ al_ b_ ka_ na_ jo_ me_ wo_ fd_ nr_ nc_ sc_ ar ac K n dn wn vn tk kn M C al kd me px pcs bt wo le F fc nr nc sc) := hD
  refine lv_if_eq (tgt := 30) hx hb dX3_value_4 (by decide) (fun c4 => ?_) (fun c4 => ?_)
  · skip
    have hB4 := bI_0.mp c4
    refine lv_iconst (v := 0) hx hb dX3_value_30 (by decide) ?_
    subst hQe
    subst hAe
    subst hsz
    exact g_zret hx hb hr hlocks rfl vn (by first | exact ⟨by rw [hB4]; rfl, setN_f1 hB4⟩ | exact ⟨by rw [hB11, Bool.and_false]; rfl, setN_f2 hB11⟩) hP hK hD hS dX3_value_31
  · skip
    have hB4 := bI_n0.mp c4
    obtain ⟨a, ha_, rfl⟩ := inB_of hB4 (by omega)
    refine lv_iload_n hx hb dX3_value_7 rfl (lv_at hl 2 rfl) ?_
    refine gc_Si (As := [.int y]) (rest := []) ⟨hx, hb, hml, hown, hts⟩ (c_X3_isByte l D cI cJ cG H.size _ y) (va_cwS 1 hts gX3_value_X3_isByte rfl rfl rfl (by decide +kernel) ⟨Nat.le_of_ble_eq_true rfl, Nat.le_of_ble_eq_true rfl⟩) hK hP hD hS hA rfl hl.1 rfl (Nat.le_of_ble_eq_true rfl) dX3_value_8 ⟨Nat.le_of_ble_eq_true rfl, Nat.le_of_ble_eq_true rfl⟩ (fun r8 u8 H locs h8 hP hD hS => ?_)
    subst h8
    have hP : va_P D vwCl (hwW cI cJ cG R h_ c_ d_ w_ v_ t_ rk_ ro_ rc_ al_ b_ ka_ na_ jo_ me_ wo_ fd_ nr_ nc_ sc_ ar ac K n dn wn vn tk kn M C al kd me px pcs bt wo le F fc nr nc sc) H := hP
    have hD : va_D A (hwW cI cJ cG R h_ c_ d_ w_ v_ t_ rk_ ro_ rc_ al_ b_ ka_ na_ jo_ me_ wo_ fd_ nr_ nc_ sc_ ar ac K n dn wn vn tk kn M C al kd me px pcs bt wo le F fc nr nc sc) := hD
    refine lv_if_eq (tgt := 30) hx hb dX3_value_11 (by decide) (fun c11 => ?_) (fun c11 => ?_)
    · skip
      have hB11 := bI_0.mp c11
      refine lv_iconst (v := 0) hx hb dX3_value_30 (by decide) ?_
      subst hQe
      subst hAe
      subst hsz
      exact g_zret hx hb hr hlocks rfl vn (by first | exact ⟨by rw [hB4]; rfl, setN_f1 hB4⟩ | exact ⟨by rw [hB11, Bool.and_false]; rfl, setN_f2 hB11⟩) hP hK hD hS dX3_value_31
    · skip
      have hB11 := bI_n0.mp c11
      obtain ⟨b, hb_, rfl⟩ := inB_of hB11 (by omega)
      refine lv_aload_n hx hb dX3_value_14 rfl (lv_at hl 0 rfl) ?_
      refine va_get (D := D) (ci := 4) (v := .ref c_) (C := RX3) (T := TX3) (N := 11) hx hb hts in_X3 hown hK hP 0 rfl rfl 1 (by decide) f_16 (fun _ h9 => h9) rfl dX3_value_15 ?_
      refine lv_iload_n hx hb dX3_value_18 rfl (lv_at hl 1 rfl) ?_
      refine lv_iload_n hx hb dX3_value_19 rfl (lv_at hl 2 rfl) ?_
      have hP := pm_1_2_3_4_0_5_6_7_8_9_10_11_12_13_14_15_16_17_18_19_P hP
      have hD := pm_1_2_3_4_0_5_6_7_8_9_10_11_12_13_14_15_16_17_18_19_D hD
      refine gc_Vi (As := [.int (nI a), .int (nI b)]) (rest := []) (ci := 2) (q0 := 0) ⟨hx, hb, hml, hown, hts⟩ (c_X1_setValue l D cI cJ cG H.size _ c_ d_ w_ v_ dn wn vn tk a b ha_) (cwV 2 hts gX3_value_X1_setValue rfl rfl rfl (by decide +kernel) ⟨Nat.le_of_ble_eq_true rfl, Nat.le_of_ble_eq_true rfl⟩) rfl rfl rfl hK hP hD hS hA rfl hl.1 rfl (Nat.le_of_ble_eq_true rfl) dX3_value_20 ⟨Nat.le_of_ble_eq_true rfl, Nat.le_of_ble_eq_true rfl⟩ (fun r20 u20 H locs h20 hP hD hS => ?_)
      subst h20
      have hP := pm_4_0_1_2_3_5_6_7_8_9_10_11_12_13_14_15_16_17_18_19_P hP
      have hD := pm_4_0_1_2_3_5_6_7_8_9_10_11_12_13_14_15_16_17_18_19_D hD
      have hP : va_P D vwCl (hwW cI cJ cG R h_ c_ d_ w_ v_ t_ rk_ ro_ rc_ al_ b_ ka_ na_ jo_ me_ wo_ fd_ nr_ nc_ sc_ ar ac K n dn wn (un vn a b) tk kn M C al kd me px pcs bt wo le F fc nr nc sc) H := hP
      have hD : va_D A (hwW cI cJ cG R h_ c_ d_ w_ v_ t_ rk_ ro_ rc_ al_ b_ ka_ na_ jo_ me_ wo_ fd_ nr_ nc_ sc_ ar ac K n dn wn (un vn a b) tk kn M C al kd me px pcs bt wo le F fc nr nc sc) := hD
      refine lv_if_eq (tgt := 30) hx hb dX3_value_23 (by decide) (fun c23 => ?_) (fun c23 => ?_)
      · skip
        exact absurd c23 (by decide)
      · skip
        refine lv_iconst (v := 1) hx hb dX3_value_26 (by decide) ?_
        refine lv_goto (tgt := 31) hx hb dX3_value_27 (by decide) ?_
        subst hQe
        subst hAe
        subst hsz
        exact g_zret hx hb hr hlocks rfl (un vn a b) ⟨by rw [inB_nI ha_ (by omega), inB_nI hb_ (by omega)]; rfl, setN_t ha_ hb_⟩ hP hK hD hS dX3_value_31
abbrev rX3_reference : Room := { frames := 2, cells := 0, slots := 0, locals := 46 }
set_option maxHeartbeats 4000000 in
set_option maxRecDepth 100000 in
theorem c_X3_reference (l : Launch) (D : va_G) (cI cJ cG : ClassId) (sz : Nat) (R : va_W) (h_ c_ d_ w_ v_ t_ rk_ ro_ rc_ al_ b_ ka_ na_ jo_ me_ wo_ fd_ nr_ nc_ sc_ : Nat) (ar ac : Nat → Nat) (K : Nat) (n : Nat) (dn : Nat → Nat) (wn : Nat → Nat) (vn : Nat → Nat) (tk : Int64) (kn : Nat → Nat) (M : Nat → Nat → Nat) (C : Nat → Nat → Nat) (al : Nat → Nat) (kd : Nat → Nat) (me : Nat → Nat) (px : Nat) (pcs : Nat) (bt : Bst) (wo : Nat → Int64) (le : Int64) (F : Nat → Nat) (fc : Nat) (nr : Nat → Nat) (nc : Nat → Nat) (sc : Nat → Nat) (x y : Int32) (t : Int64) (hI : HI K n dn wn vn kn M C kd px pcs bt F fc nr nc) : Met l yX3_reference wsX3_reference rX3_reference (gP D (tyl cI cJ cG) [.ref h_, .int x, .int y, .long t] (hwW cI cJ cG R h_ c_ d_ w_ v_ t_ rk_ ro_ rc_ al_ b_ ka_ na_ jo_ me_ wo_ fd_ nr_ nc_ sc_ ar ac K n dn wn vn tk kn M C al kd me px pcs bt wo le F fc nr nc sc) sz) (gQi D (tyl cI cJ cG) (hwW cI cJ cG R h_ c_ d_ w_ v_ t_ rk_ ro_ rc_ al_ b_ ka_ na_ jo_ me_ wo_ fd_ nr_ nc_ sc_ ar ac K n dn wn vn tk kn M C al kd me px pcs bt wo le F fc nr nc sc) sz (fun r (u : (Nat → Nat) × Int64) => r = bI ((inB x 8 && inB y 256) && decide (tk < t)) ∧ u = refN x y t wn tk) (fun u => (hwW cI cJ cG R h_ c_ d_ w_ v_ t_ rk_ ro_ rc_ al_ b_ ka_ na_ jo_ me_ wo_ fd_ nr_ nc_ sc_ ar ac K n dn u.1 vn u.2 kn M C al kd me px pcs bt wo le F fc nr nc sc))) 0 0 (va_A (hwW cI cJ cG R h_ c_ d_ w_ v_ t_ rk_ ro_ rc_ al_ b_ ka_ na_ jo_ me_ wo_ fd_ nr_ nc_ sc_ ar ac K n dn wn vn tk kn M C al kd me px pcs bt wo le F fc nr nc sc) sz) := by
  refine gMet (cc := cX3_reference) (maxL := 5) (ret := (some .boolean)) (ls0 := [(0, .ref h_), (1, .int x), (2, .int y), (3, .long t)]) (by decide) rfl (Nat.le_of_ble_eq_true rfl) rfl ?_
  intro p e s m below meth c hx hb hr hts hown hlocks hml hname A hA hAe hsz Q hQe H locs hP hK hD hS ls hl
  have hown : s.vm.findClass RX3 = some m.cls := hown
  have in_X3 : ∀ w ∈ wsX30, w ∈ wsX3_reference := by decide +kernel
  have f_16 := hts (.fieldLink RX3 16 "SpectrumHeads" "channels" "LSpectrumHeads$Channels;") (by decide +kernel)
  refine lv_iload_n hx hb dX3_reference_0 rfl (lv_at hl 1 rfl) ?_
  refine gc_Si (As := [.int x]) (rest := []) ⟨hx, hb, hml, hown, hts⟩ (c_X3_isChannel l D cI cJ cG H.size _ x) (va_cwS 1 hts gX3_reference_X3_isChannel rfl rfl rfl (by decide +kernel) ⟨Nat.le_of_ble_eq_true rfl, Nat.le_of_ble_eq_true rfl⟩) hK hP hD hS hA rfl hl.1 rfl (Nat.le_of_ble_eq_true rfl) dX3_reference_1 ⟨Nat.le_of_ble_eq_true rfl, Nat.le_of_ble_eq_true rfl⟩ (fun r1 u1 H locs h1 hP hD hS => ?_)
  subst h1
  have hP : va_P D vwCl (hwW cI cJ cG R h_ c_ d_ w_ v_ t_ rk_ ro_ rc_ al_ b_ ka_ na_ jo_ me_ wo_ fd_ nr_ nc_ sc_ ar ac K n dn wn vn tk kn M C al kd me px pcs bt wo le F fc nr nc sc) H := hP
  have hD : va_D A (hwW cI cJ cG R h_ c_ d_ w_ v_ t_ rk_ ro_ rc_ al_ b_ ka_ na_ jo_ me_ wo_ fd_ nr_ nc_ sc_ ar ac K n dn wn vn tk kn M C al kd me px pcs bt wo le F fc nr nc sc) := hD
  refine lv_if_eq (tgt := 31) hx hb dX3_reference_4 (by decide) (fun c4 => ?_) (fun c4 => ?_)
  · skip
    have hB4 := bI_0.mp c4
    refine lv_iconst (v := 0) hx hb dX3_reference_31 (by decide) ?_
    subst hQe
    subst hAe
    subst hsz
    exact g_zret hx hb hr hlocks rfl (wn, tk) (by first | exact ⟨by rw [hB4]; rfl, refN_f1 hB4⟩ | exact ⟨by rw [hB11, Bool.and_false]; rfl, refN_f2 hB11⟩) hP hK hD hS dX3_reference_32
  · skip
    have hB4 := bI_n0.mp c4
    obtain ⟨a, ha_, rfl⟩ := inB_of hB4 (by omega)
    refine lv_iload_n hx hb dX3_reference_7 rfl (lv_at hl 2 rfl) ?_
    refine gc_Si (As := [.int y]) (rest := []) ⟨hx, hb, hml, hown, hts⟩ (c_X3_isByte l D cI cJ cG H.size _ y) (va_cwS 1 hts gX3_reference_X3_isByte rfl rfl rfl (by decide +kernel) ⟨Nat.le_of_ble_eq_true rfl, Nat.le_of_ble_eq_true rfl⟩) hK hP hD hS hA rfl hl.1 rfl (Nat.le_of_ble_eq_true rfl) dX3_reference_8 ⟨Nat.le_of_ble_eq_true rfl, Nat.le_of_ble_eq_true rfl⟩ (fun r8 u8 H locs h8 hP hD hS => ?_)
    subst h8
    have hP : va_P D vwCl (hwW cI cJ cG R h_ c_ d_ w_ v_ t_ rk_ ro_ rc_ al_ b_ ka_ na_ jo_ me_ wo_ fd_ nr_ nc_ sc_ ar ac K n dn wn vn tk kn M C al kd me px pcs bt wo le F fc nr nc sc) H := hP
    have hD : va_D A (hwW cI cJ cG R h_ c_ d_ w_ v_ t_ rk_ ro_ rc_ al_ b_ ka_ na_ jo_ me_ wo_ fd_ nr_ nc_ sc_ ar ac K n dn wn vn tk kn M C al kd me px pcs bt wo le F fc nr nc sc) := hD
    refine lv_if_eq (tgt := 31) hx hb dX3_reference_11 (by decide) (fun c11 => ?_) (fun c11 => ?_)
    · skip
      have hB11 := bI_0.mp c11
      refine lv_iconst (v := 0) hx hb dX3_reference_31 (by decide) ?_
      subst hQe
      subst hAe
      subst hsz
      exact g_zret hx hb hr hlocks rfl (wn, tk) (by first | exact ⟨by rw [hB4]; rfl, refN_f1 hB4⟩ | exact ⟨by rw [hB11, Bool.and_false]; rfl, refN_f2 hB11⟩) hP hK hD hS dX3_reference_32
    · skip
      have hB11 := bI_n0.mp c11
      obtain ⟨b, hb_, rfl⟩ := inB_of hB11 (by omega)
      refine lv_aload_n hx hb dX3_reference_14 rfl (lv_at hl 0 rfl) ?_
      refine va_get (D := D) (ci := 4) (v := .ref c_) (C := RX3) (T := TX3) (N := 11) hx hb hts in_X3 hown hK hP 0 rfl rfl 1 (by decide) f_16 (fun _ h9 => h9) rfl dX3_reference_15 ?_
      refine lv_iload_n hx hb dX3_reference_18 rfl (lv_at hl 1 rfl) ?_
      refine lv_iload_n hx hb dX3_reference_19 rfl (lv_at hl 2 rfl) ?_
      refine lv_lload_n hx hb dX3_reference_20 rfl (lv_at hl 3 rfl) ?_
      have hP := pm_1_2_3_4_0_5_6_7_8_9_10_11_12_13_14_15_16_17_18_19_P hP
      have hD := pm_1_2_3_4_0_5_6_7_8_9_10_11_12_13_14_15_16_17_18_19_D hD
      refine gc_Vi (As := [.int (nI a), .int (nI b), .long t]) (rest := []) (ci := 2) (q0 := 0) ⟨hx, hb, hml, hown, hts⟩ (c_X1_setWhiteAt l D cI cJ cG H.size _ c_ d_ w_ v_ dn wn vn tk a b t ha_) (cwV 3 hts gX3_reference_X1_setWhiteAt rfl rfl rfl (by decide +kernel) ⟨Nat.le_of_ble_eq_true rfl, Nat.le_of_ble_eq_true rfl⟩) rfl rfl rfl hK hP hD hS hA rfl hl.1 rfl (Nat.le_of_ble_eq_true rfl) dX3_reference_21 ⟨Nat.le_of_ble_eq_true rfl, Nat.le_of_ble_eq_true rfl⟩ (fun r21 u21 H locs h21 hP hD hS => ?_)
      obtain ⟨rfl, hu21⟩ := h21
      have hP := pm_4_0_1_2_3_5_6_7_8_9_10_11_12_13_14_15_16_17_18_19_P hP
      have hD := pm_4_0_1_2_3_5_6_7_8_9_10_11_12_13_14_15_16_17_18_19_D hD
      have hP : va_P D vwCl (hwW cI cJ cG R h_ c_ d_ w_ v_ t_ rk_ ro_ rc_ al_ b_ ka_ na_ jo_ me_ wo_ fd_ nr_ nc_ sc_ ar ac K n dn u21.1 vn u21.2 kn M C al kd me px pcs bt wo le F fc nr nc sc) H := hP
      have hD : va_D A (hwW cI cJ cG R h_ c_ d_ w_ v_ t_ rk_ ro_ rc_ al_ b_ ka_ na_ jo_ me_ wo_ fd_ nr_ nc_ sc_ ar ac K n dn u21.1 vn u21.2 kn M C al kd me px pcs bt wo le F fc nr nc sc) := hD
      refine lv_if_eq (tgt := 31) hx hb dX3_reference_24 (by decide) (fun c24 => ?_) (fun c24 => ?_)
      · skip
        have hB24 := bI_0.mp c24
        refine lv_iconst (v := 0) hx hb dX3_reference_31 (by decide) ?_
        subst hQe
        subst hAe
        subst hsz
        exact g_zret hx hb hr hlocks rfl u21 ⟨by rw [inB_nI ha_ (by omega), inB_nI hb_ (by omega), hB24]; rfl, by rw [hu21]; exact refN_t ha_ hb_⟩ hP hK hD hS dX3_reference_32
      · skip
        have hB24 := bI_n0.mp c24
        refine lv_iconst (v := 1) hx hb dX3_reference_27 (by decide) ?_
        refine lv_goto (tgt := 32) hx hb dX3_reference_28 (by decide) ?_
        subst hQe
        subst hAe
        subst hsz
        exact g_zret hx hb hr hlocks rfl u21 ⟨by rw [inB_nI ha_ (by omega), inB_nI hb_ (by omega), hB24]; rfl, by rw [hu21]; exact refN_t ha_ hb_⟩ hP hK hD hS dX3_reference_32
abbrev rX3_bound : Room := { frames := 0, cells := 0, slots := 0, locals := 0 }
set_option maxHeartbeats 4000000 in
set_option maxRecDepth 100000 in
theorem c_X3_bound (l : Launch) (D : va_G) (cI cJ cG : ClassId) (sz : Nat) (R : va_W) (h_ c_ d_ w_ v_ t_ rk_ ro_ rc_ al_ b_ ka_ na_ jo_ me_ wo_ fd_ nr_ nc_ sc_ : Nat) (ar ac : Nat → Nat) (K : Nat) (n : Nat) (dn : Nat → Nat) (wn : Nat → Nat) (vn : Nat → Nat) (tk : Int64) (kn : Nat → Nat) (M : Nat → Nat → Nat) (C : Nat → Nat → Nat) (al : Nat → Nat) (kd : Nat → Nat) (me : Nat → Nat) (px : Nat) (pcs : Nat) (bt : Bst) (wo : Nat → Int64) (le : Int64) (F : Nat → Nat) (fc : Nat) (nr : Nat → Nat) (nc : Nat → Nat) (sc : Nat → Nat) (x : Int64) : Met l yX3_bound wsX3_bound rX3_bound (gP D (tyl cI cJ cG) [.ref h_, .long x] (hwW cI cJ cG R h_ c_ d_ w_ v_ t_ rk_ ro_ rc_ al_ b_ ka_ na_ jo_ me_ wo_ fd_ nr_ nc_ sc_ ar ac K n dn wn vn tk kn M C al kd me px pcs bt wo le F fc nr nc sc) sz) (gQi D (tyl cI cJ cG) (hwW cI cJ cG R h_ c_ d_ w_ v_ t_ rk_ ro_ rc_ al_ b_ ka_ na_ jo_ me_ wo_ fd_ nr_ nc_ sc_ ar ac K n dn wn vn tk kn M C al kd me px pcs bt wo le F fc nr nc sc) sz (fun r (u : Int64) => r = bI (bdB x) ∧ u = if bdB x = true then x else le) (fun u => (hwW cI cJ cG R h_ c_ d_ w_ v_ t_ rk_ ro_ rc_ al_ b_ ka_ na_ jo_ me_ wo_ fd_ nr_ nc_ sc_ ar ac K n dn wn vn tk kn M C al kd me px pcs bt wo u F fc nr nc sc))) 0 0 (va_A (hwW cI cJ cG R h_ c_ d_ w_ v_ t_ rk_ ro_ rc_ al_ b_ ka_ na_ jo_ me_ wo_ fd_ nr_ nc_ sc_ ar ac K n dn wn vn tk kn M C al kd me px pcs bt wo le F fc nr nc sc) sz) := by
  refine gMet (cc := cX3_bound) (maxL := 3) (ret := (some .boolean)) (ls0 := [(0, .ref h_), (1, .long x)]) (by decide) rfl (Nat.le_of_ble_eq_true rfl) rfl ?_
  intro p e s m below meth c hx hb hr hts hown hlocks hml hname A hA hAe hsz Q hQe H locs hP hK hD hS ls hl
  have hown : s.vm.findClass RX3 = some m.cls := hown
  have in_X3 : ∀ w ∈ wsX30, w ∈ wsX3_bound := by decide +kernel
  have f_40 := hts (.fieldLink RX3 40 "SpectrumHeads" "least" "J") (by decide +kernel)
  refine lv_lload_n hx hb dX3_bound_0 rfl (lv_at hl 1 rfl) ?_
  refine lv_lconst (v := 0) hx hb dX3_bound_1 (by decide) ?_
  refine W.lcmp hx hb dX3_bound_2 ?_
  refine lv_if_lt (tgt := 14) hx hb dX3_bound_3 (by decide) (fun c3 => ?_) (fun c3 => ?_)
  · skip
    have hB := bdB_f1 ((lg_cmp_lt _ _).mp c3)
    refine lv_iconst (v := 0) hx hb dX3_bound_14 (by decide) ?_
    subst hQe
    subst hAe
    subst hsz
    exact g_zret hx hb hr hlocks rfl le ⟨by rw [hB]; rfl, by rw [hB]; rfl⟩ hP hK hD hS dX3_bound_15
  · skip
    have h3 : ¬ x < 0 := fun h => c3 ((lg_cmp_lt _ _).mpr h)
    refine lv_lload_n hx hb dX3_bound_6 rfl (lv_at hl 1 rfl) ?_
    refine lv_ldc2 (v := 10000) hx hb hown (hts (.constantLong RX3 108 (10000)) (by decide +kernel)) dX3_bound_7 ?_
    refine W.lcmp hx hb dX3_bound_10 ?_
    refine lv_if_le (tgt := 16) hx hb dX3_bound_11 (by decide) (fun c11 => ?_) (fun c11 => ?_)
    · skip
      have hB := bdB_t h3 ((lg_cmp_le _ _).mp c11)
      refine lv_aload_n hx hb dX3_bound_16 rfl (lv_at hl 0 rfl) ?_
      refine lv_lload_n hx hb dX3_bound_17 rfl (lv_at hl 1 rfl) ?_
      refine va_put (D := D) (ci := 4) (v := .long x) (ty := .long) (C := RX3) (T := TX3) (N := 11) hx hb hts in_X3 tyX3 tyX3_ok nmX3 hown hK hP hD hS 0 rfl rfl 5 (by decide) f_40 (fun _ h9 => h9) rfl (by decide +kernel) rfl rfl (Nat.le_of_ble_eq_true rfl) dX3_bound_18 (fun H locs hP hD hS => ?_)
      have hP : va_P D vwCl (hwW cI cJ cG R h_ c_ d_ w_ v_ t_ rk_ ro_ rc_ al_ b_ ka_ na_ jo_ me_ wo_ fd_ nr_ nc_ sc_ ar ac K n dn wn vn tk kn M C al kd me px pcs bt wo x F fc nr nc sc) H := hP
      have hD : va_D A (hwW cI cJ cG R h_ c_ d_ w_ v_ t_ rk_ ro_ rc_ al_ b_ ka_ na_ jo_ me_ wo_ fd_ nr_ nc_ sc_ ar ac K n dn wn vn tk kn M C al kd me px pcs bt wo x F fc nr nc sc) := hD
      refine lv_iconst (v := 1) hx hb dX3_bound_21 (by decide) ?_
      subst hQe
      subst hAe
      subst hsz
      exact g_zret hx hb hr hlocks rfl x ⟨by rw [hB]; rfl, by rw [hB]; rfl⟩ hP hK hD hS dX3_bound_22
    · skip
      have hB := bdB_f2 (fun h => c11 ((lg_cmp_le _ _).mpr h))
      refine lv_iconst (v := 0) hx hb dX3_bound_14 (by decide) ?_
      subst hQe
      subst hAe
      subst hsz
      exact g_zret hx hb hr hlocks rfl le ⟨by rw [hB]; rfl, by rw [hB]; rfl⟩ hP hK hD hS dX3_bound_15
abbrev rX3_worth : Room := { frames := 1, cells := 0, slots := 0, locals := 21 }
set_option maxHeartbeats 4000000 in
set_option maxRecDepth 100000 in
theorem c_X3_worth (l : Launch) (D : va_G) (cI cJ cG : ClassId) (sz : Nat) (R : va_W) (h_ c_ d_ w_ v_ t_ rk_ ro_ rc_ al_ b_ ka_ na_ jo_ me_ wo_ fd_ nr_ nc_ sc_ : Nat) (ar ac : Nat → Nat) (K : Nat) (n : Nat) (dn : Nat → Nat) (wn : Nat → Nat) (vn : Nat → Nat) (tk : Int64) (kn : Nat → Nat) (M : Nat → Nat → Nat) (C : Nat → Nat → Nat) (al : Nat → Nat) (kd : Nat → Nat) (me : Nat → Nat) (px : Nat) (pcs : Nat) (bt : Bst) (wo : Nat → Int64) (le : Int64) (F : Nat → Nat) (fc : Nat) (nr : Nat → Nat) (nc : Nat → Nat) (sc : Nat → Nat) (x : Int32) (y : Int64) (hI : HI K n dn wn vn kn M C kd px pcs bt F fc nr nc) : Met l yX3_worth wsX3_worth rX3_worth (gP D (tyl cI cJ cG) [.ref h_, .int x, .long y] (hwW cI cJ cG R h_ c_ d_ w_ v_ t_ rk_ ro_ rc_ al_ b_ ka_ na_ jo_ me_ wo_ fd_ nr_ nc_ sc_ ar ac K n dn wn vn tk kn M C al kd me px pcs bt wo le F fc nr nc sc) sz) (gQi D (tyl cI cJ cG) (hwW cI cJ cG R h_ c_ d_ w_ v_ t_ rk_ ro_ rc_ al_ b_ ka_ na_ jo_ me_ wo_ fd_ nr_ nc_ sc_ ar ac K n dn wn vn tk kn M C al kd me px pcs bt wo le F fc nr nc sc) sz (fun r (u : Nat → Int64) => r = bI (inB x K && wtB y) ∧ u = if (inB x K && wtB y) = true then vp_updL wo x.toNatClampNeg y else wo) (fun u => (hwW cI cJ cG R h_ c_ d_ w_ v_ t_ rk_ ro_ rc_ al_ b_ ka_ na_ jo_ me_ wo_ fd_ nr_ nc_ sc_ ar ac K n dn wn vn tk kn M C al kd me px pcs bt u le F fc nr nc sc))) 0 0 (va_A (hwW cI cJ cG R h_ c_ d_ w_ v_ t_ rk_ ro_ rc_ al_ b_ ka_ na_ jo_ me_ wo_ fd_ nr_ nc_ sc_ ar ac K n dn wn vn tk kn M C al kd me px pcs bt wo le F fc nr nc sc) sz) := by
  refine gMet (cc := cX3_worth) (maxL := 4) (ret := (some .boolean)) (ls0 := [(0, .ref h_), (1, .int x), (2, .long y)]) (by decide) rfl (Nat.le_of_ble_eq_true rfl) rfl ?_
  intro p e s m below meth c hx hb hr hts hown hlocks hml hname A hA hAe hsz Q hQe H locs hP hK hD hS ls hl
  have hown : s.vm.findClass RX3 = some m.cls := hown
  have in_X3 : ∀ w ∈ wsX30, w ∈ wsX3_worth := by decide +kernel
  have f_36 := hts (.fieldLink RX3 36 "SpectrumHeads" "worths" "[J") (by decide +kernel)
  obtain ⟨⟨hK1, hK4⟩, hn, ⟨hdn, hwn, hvn⟩, ⟨hkn, hM, hC⟩, ⟨hkd, hpx, hpcs, hbt⟩, ⟨hF, hfc⟩, ⟨hnr, hnc⟩⟩ := id hI
  refine lv_aload_n hx hb dX3_worth_0 rfl (lv_at hl 0 rfl) ?_
  refine lv_iload_n hx hb dX3_worth_1 rfl (lv_at hl 1 rfl) ?_
  refine gc_Vi (As := [.int x]) (rest := []) (ci := 4) (q0 := 0) ⟨hx, hb, hml, hown, hts⟩ (c_X3_isKind l D cI cJ cG H.size _ h_ c_ t_ b_ wo_ fd_ nr_ nc_ sc_ K fc le x hK4) (cwV 1 hts gX3_worth_X3_isKind rfl rfl rfl (by decide +kernel) ⟨Nat.le_of_ble_eq_true rfl, Nat.le_of_ble_eq_true rfl⟩) rfl rfl rfl hK hP hD hS hA rfl hl.1 rfl (Nat.le_of_ble_eq_true rfl) dX3_worth_2 ⟨Nat.le_of_ble_eq_true rfl, Nat.le_of_ble_eq_true rfl⟩ (fun r2 u2 H locs h2 hP hD hS => ?_)
  subst h2
  have hP : va_P D vwCl (hwW cI cJ cG R h_ c_ d_ w_ v_ t_ rk_ ro_ rc_ al_ b_ ka_ na_ jo_ me_ wo_ fd_ nr_ nc_ sc_ ar ac K n dn wn vn tk kn M C al kd me px pcs bt wo le F fc nr nc sc) H := hP
  have hD : va_D A (hwW cI cJ cG R h_ c_ d_ w_ v_ t_ rk_ ro_ rc_ al_ b_ ka_ na_ jo_ me_ wo_ fd_ nr_ nc_ sc_ ar ac K n dn wn vn tk kn M C al kd me px pcs bt wo le F fc nr nc sc) := hD
  refine lv_if_eq (tgt := 22) hx hb dX3_worth_5 (by decide) (fun c5 => ?_) (fun c5 => ?_)
  · skip
    have hB5 := bI_0.mp c5
    have hB : (inB x K && wtB y) = false := by rw [hB5]; rfl
    refine lv_iconst (v := 0) hx hb dX3_worth_22 (by decide) ?_
    subst hQe
    subst hAe
    subst hsz
    exact g_zret hx hb hr hlocks rfl wo ⟨by rw [hB]; rfl, by rw [hB]; rfl⟩ hP hK hD hS dX3_worth_23
  · skip
    have hB5 := bI_n0.mp c5
    refine lv_lload_n hx hb dX3_worth_8 rfl (lv_at hl 2 rfl) ?_
    refine lv_lconst (v := 0) hx hb dX3_worth_9 (by decide) ?_
    refine W.lcmp hx hb dX3_worth_10 ?_
    refine lv_if_lt (tgt := 22) hx hb dX3_worth_11 (by decide) (fun c11 => ?_) (fun c11 => ?_)
    · skip
      have hB : (inB x K && wtB y) = false := by rw [wtB_f1 ((lg_cmp_lt _ _).mp c11), Bool.and_false]
      refine lv_iconst (v := 0) hx hb dX3_worth_22 (by decide) ?_
      subst hQe
      subst hAe
      subst hsz
      exact g_zret hx hb hr hlocks rfl wo ⟨by rw [hB]; rfl, by rw [hB]; rfl⟩ hP hK hD hS dX3_worth_23
    · skip
      have h3 : ¬ y < 0 := fun h => c11 ((lg_cmp_lt _ _).mpr h)
      refine lv_lload_n hx hb dX3_worth_14 rfl (lv_at hl 2 rfl) ?_
      refine lv_ldc2 (v := 1000000) hx hb hown (hts (.constantLong RX3 110 (1000000)) (by decide +kernel)) dX3_worth_15 ?_
      refine W.lcmp hx hb dX3_worth_18 ?_
      refine lv_if_le (tgt := 24) hx hb dX3_worth_19 (by decide) (fun c19 => ?_) (fun c19 => ?_)
      · skip
        have hB : (inB x K && wtB y) = true := by rw [hB5, wtB_t h3 ((lg_cmp_le _ _).mp c19)]; rfl
        refine lv_aload_n hx hb dX3_worth_24 rfl (lv_at hl 0 rfl) ?_
        refine va_get (D := D) (ci := 4) (v := .ref wo_) (C := RX3) (T := TX3) (N := 11) hx hb hts in_X3 hown hK hP 0 rfl rfl 4 (by decide) f_36 (fun _ h9 => h9) rfl dX3_worth_25 ?_
        refine lv_iload_n hx hb dX3_worth_28 rfl (lv_at hl 1 rfl) ?_
        refine lv_lload_n hx hb dX3_worth_29 rfl (lv_at hl 2 rfl) ?_
        refine va_last hx hb hK hP hD hS 15 1 rfl rfl (inB_vp hB5) dX3_worth_30 (fun H locs hP hD hS => ?_)
        have hP : va_P D vwCl (hwW cI cJ cG R h_ c_ d_ w_ v_ t_ rk_ ro_ rc_ al_ b_ ka_ na_ jo_ me_ wo_ fd_ nr_ nc_ sc_ ar ac K n dn wn vn tk kn M C al kd me px pcs bt (vp_updL wo (x).toNatClampNeg y) le F fc nr nc sc) H := hP
        have hD : va_D A (hwW cI cJ cG R h_ c_ d_ w_ v_ t_ rk_ ro_ rc_ al_ b_ ka_ na_ jo_ me_ wo_ fd_ nr_ nc_ sc_ ar ac K n dn wn vn tk kn M C al kd me px pcs bt (vp_updL wo (x).toNatClampNeg y) le F fc nr nc sc) := hD
        refine lv_iconst (v := 1) hx hb dX3_worth_31 (by decide) ?_
        subst hQe
        subst hAe
        subst hsz
        exact g_zret hx hb hr hlocks rfl (vp_updL wo x.toNatClampNeg y) ⟨by rw [hB]; rfl, by rw [hB]; rfl⟩ hP hK hD hS dX3_worth_32
      · skip
        have hB : (inB x K && wtB y) = false := by rw [wtB_f2 (fun h => c19 ((lg_cmp_le _ _).mpr h)), Bool.and_false]
        refine lv_iconst (v := 0) hx hb dX3_worth_22 (by decide) ?_
        subst hQe
        subst hAe
        subst hsz
        exact g_zret hx hb hr hlocks rfl wo ⟨by rw [hB]; rfl, by rw [hB]; rfl⟩ hP hK hD hS dX3_worth_23
abbrev rX3_feed : Room := { frames := 1, cells := 0, slots := 0, locals := 20 }
set_option maxHeartbeats 4000000 in
set_option maxRecDepth 100000 in
theorem c_X3_feed (l : Launch) (D : va_G) (cI cJ cG : ClassId) (sz : Nat) (R : va_W) (h_ c_ d_ w_ v_ t_ rk_ ro_ rc_ al_ b_ ka_ na_ jo_ me_ wo_ fd_ nr_ nc_ sc_ : Nat) (ar ac : Nat → Nat) (K : Nat) (n : Nat) (dn : Nat → Nat) (wn : Nat → Nat) (vn : Nat → Nat) (tk : Int64) (kn : Nat → Nat) (M : Nat → Nat → Nat) (C : Nat → Nat → Nat) (al : Nat → Nat) (kd : Nat → Nat) (me : Nat → Nat) (px : Nat) (pcs : Nat) (bt : Bst) (wo : Nat → Int64) (le : Int64) (F : Nat → Nat) (fc : Nat) (nr : Nat → Nat) (nc : Nat → Nat) (sc : Nat → Nat) (x : Int32) (hI : HI K n dn wn vn kn M C kd px pcs bt F fc nr nc) : Met l yX3_feed wsX3_feed rX3_feed (gP D (tyl cI cJ cG) [.ref h_, .int x] (hwW cI cJ cG R h_ c_ d_ w_ v_ t_ rk_ ro_ rc_ al_ b_ ka_ na_ jo_ me_ wo_ fd_ nr_ nc_ sc_ ar ac K n dn wn vn tk kn M C al kd me px pcs bt wo le F fc nr nc sc) sz) (gQi D (tyl cI cJ cG) (hwW cI cJ cG R h_ c_ d_ w_ v_ t_ rk_ ro_ rc_ al_ b_ ka_ na_ jo_ me_ wo_ fd_ nr_ nc_ sc_ ar ac K n dn wn vn tk kn M C al kd me px pcs bt wo le F fc nr nc sc) sz (fun r (u : (Nat → Nat) × Nat) => r = bI (inB x 256 && decide (fc < 400)) ∧ u = if (inB x 256 && decide (fc < 400)) = true then (un F fc x.toNatClampNeg, fc + 1) else (F, fc)) (fun u => (hwW cI cJ cG R h_ c_ d_ w_ v_ t_ rk_ ro_ rc_ al_ b_ ka_ na_ jo_ me_ wo_ fd_ nr_ nc_ sc_ ar ac K n dn wn vn tk kn M C al kd me px pcs bt wo le u.1 u.2 nr nc sc))) 0 0 (va_A (hwW cI cJ cG R h_ c_ d_ w_ v_ t_ rk_ ro_ rc_ al_ b_ ka_ na_ jo_ me_ wo_ fd_ nr_ nc_ sc_ ar ac K n dn wn vn tk kn M C al kd me px pcs bt wo le F fc nr nc sc) sz) := by
  refine gMet (cc := cX3_feed) (maxL := 2) (ret := (some .boolean)) (ls0 := [(0, .ref h_), (1, .int x)]) (by decide) rfl (Nat.le_of_ble_eq_true rfl) rfl ?_
  intro p e s m below meth c hx hb hr hts hown hlocks hml hname A hA hAe hsz Q hQe H locs hP hK hD hS ls hl
  have hown : s.vm.findClass RX3 = some m.cls := hown
  have in_X3 : ∀ w ∈ wsX30, w ∈ wsX3_feed := by decide +kernel
  have f_48 := hts (.fieldLink RX3 48 "SpectrumHeads" "fedCount" "I") (by decide +kernel)
  have f_44 := hts (.fieldLink RX3 44 "SpectrumHeads" "fed" "[I") (by decide +kernel)
  obtain ⟨⟨hK1, hK4⟩, hn, ⟨hdn, hwn, hvn⟩, ⟨hkn, hM, hC⟩, ⟨hkd, hpx, hpcs, hbt⟩, ⟨hF, hfc⟩, ⟨hnr, hnc⟩⟩ := id hI
  refine lv_iload_n hx hb dX3_feed_0 rfl (lv_at hl 1 rfl) ?_
  refine gc_Si (As := [.int x]) (rest := []) ⟨hx, hb, hml, hown, hts⟩ (c_X3_isByte l D cI cJ cG H.size _ x) (va_cwS 1 hts gX3_feed_X3_isByte rfl rfl rfl (by decide +kernel) ⟨Nat.le_of_ble_eq_true rfl, Nat.le_of_ble_eq_true rfl⟩) hK hP hD hS hA rfl hl.1 rfl (Nat.le_of_ble_eq_true rfl) dX3_feed_1 ⟨Nat.le_of_ble_eq_true rfl, Nat.le_of_ble_eq_true rfl⟩ (fun r1 u1 H locs h1 hP hD hS => ?_)
  subst h1
  have hP : va_P D vwCl (hwW cI cJ cG R h_ c_ d_ w_ v_ t_ rk_ ro_ rc_ al_ b_ ka_ na_ jo_ me_ wo_ fd_ nr_ nc_ sc_ ar ac K n dn wn vn tk kn M C al kd me px pcs bt wo le F fc nr nc sc) H := hP
  have hD : va_D A (hwW cI cJ cG R h_ c_ d_ w_ v_ t_ rk_ ro_ rc_ al_ b_ ka_ na_ jo_ me_ wo_ fd_ nr_ nc_ sc_ ar ac K n dn wn vn tk kn M C al kd me px pcs bt wo le F fc nr nc sc) := hD
  refine lv_if_eq (tgt := 17) hx hb dX3_feed_4 (by decide) (fun c4 => ?_) (fun c4 => ?_)
  · skip
    have hB4 := bI_0.mp c4
    have hB : (inB x 256 && decide (fc < 400)) = false := by rw [hB4]; rfl
    refine lv_iconst (v := 0) hx hb dX3_feed_17 (by decide) ?_
    subst hQe
    subst hAe
    subst hsz
    exact g_zret hx hb hr hlocks rfl (F, fc) ⟨by rw [hB]; rfl, by rw [hB]; rfl⟩ hP hK hD hS dX3_feed_18
  · skip
    have hB4 := bI_n0.mp c4
    obtain ⟨a, ha_, rfl⟩ := inB_of hB4 (by omega)
    refine lv_aload_n hx hb dX3_feed_7 rfl (lv_at hl 0 rfl) ?_
    refine va_get (D := D) (ci := 4) (v := .int (nI fc)) (C := RX3) (T := TX3) (N := 11) hx hb hts in_X3 hown hK hP 0 rfl rfl 7 (by decide) f_48 (fun _ h9 => h9) rfl dX3_feed_8 ?_
    refine lv_sipush (v := 400) hx hb dX3_feed_11 (by decide) ?_
    refine lv_icmp_lt (tgt := 19) hx hb dX3_feed_14 (by decide) (fun c14 => ?_) (fun c14 => ?_)
    · skip
      have h14 : fc < 400 := (nI_ltI (b := 400) (by omega) (by omega)).mp c14
      have hB : (inB (nI a) 256 && decide (fc < 400)) = true := by rw [hB4, decide_eq_true h14]; rfl
      refine lv_aload_n hx hb dX3_feed_19 rfl (lv_at hl 0 rfl) ?_
      refine va_get (D := D) (ci := 4) (v := .ref fd_) (C := RX3) (T := TX3) (N := 11) hx hb hts in_X3 hown hK hP 0 rfl rfl 6 (by decide) f_44 (fun _ h9 => h9) rfl dX3_feed_20 ?_
      refine lv_aload_n hx hb dX3_feed_23 rfl (lv_at hl 0 rfl) ?_
      refine va_get (D := D) (ci := 4) (v := .int (nI fc)) (C := RX3) (T := TX3) (N := 11) hx hb hts in_X3 hown hK hP 0 rfl rfl 7 (by decide) f_48 (fun _ h9 => h9) rfl dX3_feed_24 ?_
      refine lv_iload_n hx hb dX3_feed_27 rfl (lv_at hl 1 rfl) ?_
      refine va_iast hx hb hK hP hD hS 16 0 rfl rfl (by first | exact vp_in_nI (by omega) (by omega) | assumption) dX3_feed_28 (fun H locs hP hD hS => ?_)
      rw [nI_clamp (by omega)] at hP hD
      have hP : va_P D vwCl ((h_, .inr (4, [.int (nI K), .ref c_, .ref t_, .ref b_, .ref wo_, .long le, .ref fd_, .int (nI fc), .ref nr_, .ref nc_, .ref sc_])) :: (c_, .inr (2, [.ref d_, .ref w_, .ref v_, .long tk])) :: (d_, .inl (cI, 8, .inl (nf dn))) :: (w_, .inl (cI, 8, .inl (nf wn))) :: (v_, .inl (cI, 8, .inl (nf vn))) :: (t_, .inr (3, [.int (nI K), .ref rk_, .ref ro_, .ref rc_, .ref al_, .int (nI n)])) :: (rk_, .inl (cI, 40, .inl (nf kn))) :: (ro_, .inl (cG, 40, .inr (.inr (.inr (.inr (og ar)))))) :: (rc_, .inl (cG, 40, .inr (.inr (.inr (.inr (og ac)))))) :: (al_, .inl (cI, 7, .inl (nf al))) :: (b_, .inr (1, [.ref ka_, .ref na_, .ref jo_, .ref me_, .int (nI bt.2.2), .int (nI px), .int (nI pcs)])) :: (ka_, .inl (cI, 256, .inl (k2 kd))) :: (na_, .inl (cI, 256, .inl (l1 bt.1))) :: (jo_, .inl (cI, 100, .inl (nf bt.2.1))) :: (me_, .inl (cI, 100, .inl (nf me))) :: (wo_, .inl (cJ, K, .inr (.inl wo))) :: (fd_, .inl (cI, 400, .inl (upd (nf F) fc (nI a)))) :: (nr_, .inl (cI, 8, .inl (nf nr))) :: (nc_, .inl (cI, 7, .inl (nf nc))) :: (sc_, .inl (cJ, K, .inr (.inl (lf sc)))) :: (pr cI ar M ++ (pq cI ac C ++ R))) H := hP
      have hD : va_D A ((h_, .inr (4, [.int (nI K), .ref c_, .ref t_, .ref b_, .ref wo_, .long le, .ref fd_, .int (nI fc), .ref nr_, .ref nc_, .ref sc_])) :: (c_, .inr (2, [.ref d_, .ref w_, .ref v_, .long tk])) :: (d_, .inl (cI, 8, .inl (nf dn))) :: (w_, .inl (cI, 8, .inl (nf wn))) :: (v_, .inl (cI, 8, .inl (nf vn))) :: (t_, .inr (3, [.int (nI K), .ref rk_, .ref ro_, .ref rc_, .ref al_, .int (nI n)])) :: (rk_, .inl (cI, 40, .inl (nf kn))) :: (ro_, .inl (cG, 40, .inr (.inr (.inr (.inr (og ar)))))) :: (rc_, .inl (cG, 40, .inr (.inr (.inr (.inr (og ac)))))) :: (al_, .inl (cI, 7, .inl (nf al))) :: (b_, .inr (1, [.ref ka_, .ref na_, .ref jo_, .ref me_, .int (nI bt.2.2), .int (nI px), .int (nI pcs)])) :: (ka_, .inl (cI, 256, .inl (k2 kd))) :: (na_, .inl (cI, 256, .inl (l1 bt.1))) :: (jo_, .inl (cI, 100, .inl (nf bt.2.1))) :: (me_, .inl (cI, 100, .inl (nf me))) :: (wo_, .inl (cJ, K, .inr (.inl wo))) :: (fd_, .inl (cI, 400, .inl (upd (nf F) fc (nI a)))) :: (nr_, .inl (cI, 8, .inl (nf nr))) :: (nc_, .inl (cI, 7, .inl (nf nc))) :: (sc_, .inl (cJ, K, .inr (.inl (lf sc)))) :: (pr cI ar M ++ (pq cI ac C ++ R))) := hD
      have hW_ : upd (nf F) fc (nI a) = nf (un F fc a) := by exact nf_upd _ _ _
      rw [hW_] at hP hD
      have hP : va_P D vwCl (hwW cI cJ cG R h_ c_ d_ w_ v_ t_ rk_ ro_ rc_ al_ b_ ka_ na_ jo_ me_ wo_ fd_ nr_ nc_ sc_ ar ac K n dn wn vn tk kn M C al kd me px pcs bt wo le (un F fc a) fc nr nc sc) H := hP
      have hD : va_D A (hwW cI cJ cG R h_ c_ d_ w_ v_ t_ rk_ ro_ rc_ al_ b_ ka_ na_ jo_ me_ wo_ fd_ nr_ nc_ sc_ ar ac K n dn wn vn tk kn M C al kd me px pcs bt wo le (un F fc a) fc nr nc sc) := hD
      refine lv_aload_n hx hb dX3_feed_29 rfl (lv_at hl 0 rfl) ?_
      refine lv_dup hx hb dX3_feed_30 rfl ?_
      refine va_get (D := D) (ci := 4) (v := .int (nI fc)) (C := RX3) (T := TX3) (N := 11) hx hb hts in_X3 hown hK hP 0 rfl rfl 7 (by decide) f_48 (fun _ h9 => h9) rfl dX3_feed_31 ?_
      refine lv_iconst (v := 1) hx hb dX3_feed_34 (by decide) ?_
      refine lv_iadd hx hb dX3_feed_35 ?_
      refine lv_topi (fun x35 ex35 => ?_)
      obtain rfl : x35 = nI (fc + 1) := by rw [ex35]; exact nI_1 _
      refine va_put (D := D) (ci := 4) (v := .int (nI (fc + 1))) (ty := .int) (C := RX3) (T := TX3) (N := 11) hx hb hts in_X3 tyX3 tyX3_ok nmX3 hown hK hP hD hS 0 rfl rfl 7 (by decide) f_48 (fun _ h9 => h9) rfl (by decide +kernel) rfl rfl (Nat.le_of_ble_eq_true rfl) dX3_feed_36 (fun H locs hP hD hS => ?_)
      have hP : va_P D vwCl (hwW cI cJ cG R h_ c_ d_ w_ v_ t_ rk_ ro_ rc_ al_ b_ ka_ na_ jo_ me_ wo_ fd_ nr_ nc_ sc_ ar ac K n dn wn vn tk kn M C al kd me px pcs bt wo le (un F fc a) (fc + 1) nr nc sc) H := hP
      have hD : va_D A (hwW cI cJ cG R h_ c_ d_ w_ v_ t_ rk_ ro_ rc_ al_ b_ ka_ na_ jo_ me_ wo_ fd_ nr_ nc_ sc_ ar ac K n dn wn vn tk kn M C al kd me px pcs bt wo le (un F fc a) (fc + 1) nr nc sc) := hD
      refine lv_iconst (v := 1) hx hb dX3_feed_39 (by decide) ?_
      subst hQe
      subst hAe
      subst hsz
      exact g_zret hx hb hr hlocks rfl (un F fc a, fc + 1) ⟨by rw [hB]; rfl, by rw [hB, nI_clamp (by omega)]; rfl⟩ hP hK hD hS dX3_feed_40
    · skip
      have hB : (inB (nI a) 256 && decide (fc < 400)) = false := by rw [decide_eq_false (mt (nI_ltI (b := 400) (by omega) (by omega)).mpr c14), Bool.and_false]
      refine lv_iconst (v := 0) hx hb dX3_feed_17 (by decide) ?_
      subst hQe
      subst hAe
      subst hsz
      exact g_zret hx hb hr hlocks rfl (F, fc) ⟨by rw [hB]; rfl, by rw [hB]; rfl⟩ hP hK hD hS dX3_feed_18
theorem sw_5_6_7_8_9_of_20_P {D : va_G} {cl : List vw_C} {H : Heap} {x0 x1 x2 x3 x4 x5 x6 x7 x8 x9 x10 x11 x12 x13 x14 x15 x16 x17 x18 x19 : Nat × va_E} {p q R : va_W} (h : va_P D cl (x0 :: x1 :: x2 :: x3 :: x4 :: x5 :: x6 :: x7 :: x8 :: x9 :: x10 :: x11 :: x12 :: x13 :: x14 :: x15 :: x16 :: x17 :: x18 :: x19 :: (p ++ (q ++ R))) H) : va_P D cl (x5 :: x6 :: x7 :: x8 :: x9 :: (p ++ (q ++ (R ++ [x0, x1, x2, x3, x4, x10, x11, x12, x13, x14, x15, x16, x17, x18, x19])))) H := sw_P (Xt := [x5, x6, x7, x8, x9]) (Xo := [x0, x1, x2, x3, x4, x10, x11, x12, x13, x14, x15, x16, x17, x18, x19]) (va_P.part (X := [x0, x1, x2, x3, x4, x5, x6, x7, x8, x9, x10, x11, x12, x13, x14, x15, x16, x17, x18, x19]) (pl := p ++ (q ++ R)) (cx := [x5, x6, x7, x8, x9, x0, x1, x2, x3, x4, x10, x11, x12, x13, x14, x15, x16, x17, x18, x19]) h [5, 6, 7, 8, 9, 0, 1, 2, 3, 4, 10, 11, 12, 13, 14, 15, 16, 17, 18, 19] rfl)
theorem sw_5_6_7_8_9_of_20_D {A : Nat → Prop} {x0 x1 x2 x3 x4 x5 x6 x7 x8 x9 x10 x11 x12 x13 x14 x15 x16 x17 x18 x19 : Nat × va_E} {p q R : va_W} (h : va_D A (x0 :: x1 :: x2 :: x3 :: x4 :: x5 :: x6 :: x7 :: x8 :: x9 :: x10 :: x11 :: x12 :: x13 :: x14 :: x15 :: x16 :: x17 :: x18 :: x19 :: (p ++ (q ++ R)))) : va_D A (x5 :: x6 :: x7 :: x8 :: x9 :: (p ++ (q ++ (R ++ [x0, x1, x2, x3, x4, x10, x11, x12, x13, x14, x15, x16, x17, x18, x19])))) := sw_D (Xt := [x5, x6, x7, x8, x9]) (Xo := [x0, x1, x2, x3, x4, x10, x11, x12, x13, x14, x15, x16, x17, x18, x19]) (va_D.part (X := [x0, x1, x2, x3, x4, x5, x6, x7, x8, x9, x10, x11, x12, x13, x14, x15, x16, x17, x18, x19]) (pl := p ++ (q ++ R)) (cx := [x5, x6, x7, x8, x9, x0, x1, x2, x3, x4, x10, x11, x12, x13, x14, x15, x16, x17, x18, x19]) h [5, 6, 7, 8, 9, 0, 1, 2, 3, 4, 10, 11, 12, 13, 14, 15, 16, 17, 18, 19] (by decide) rfl)
theorem sw_5_6_7_8_9_of_20_Pb {D : va_G} {cl : List vw_C} {H : Heap} {x0 x1 x2 x3 x4 x5 x6 x7 x8 x9 x10 x11 x12 x13 x14 x15 x16 x17 x18 x19 : Nat × va_E} {p q R : va_W} (h : va_P D cl (x5 :: x6 :: x7 :: x8 :: x9 :: (p ++ (q ++ (R ++ [x0, x1, x2, x3, x4, x10, x11, x12, x13, x14, x15, x16, x17, x18, x19])))) H) : va_P D cl (x0 :: x1 :: x2 :: x3 :: x4 :: x5 :: x6 :: x7 :: x8 :: x9 :: x10 :: x11 :: x12 :: x13 :: x14 :: x15 :: x16 :: x17 :: x18 :: x19 :: (p ++ (q ++ R))) H := va_P.part (X := [x5, x6, x7, x8, x9, x0, x1, x2, x3, x4, x10, x11, x12, x13, x14, x15, x16, x17, x18, x19]) (pl := p ++ (q ++ R)) (cx := [x0, x1, x2, x3, x4, x5, x6, x7, x8, x9, x10, x11, x12, x13, x14, x15, x16, x17, x18, x19]) (ws_P (Xt := [x5, x6, x7, x8, x9]) (Xo := [x0, x1, x2, x3, x4, x10, x11, x12, x13, x14, x15, x16, x17, x18, x19]) h) [5, 6, 7, 8, 9, 0, 1, 2, 3, 4, 10, 11, 12, 13, 14, 15, 16, 17, 18, 19] rfl
theorem sw_5_6_7_8_9_of_20_Db {A : Nat → Prop} {x0 x1 x2 x3 x4 x5 x6 x7 x8 x9 x10 x11 x12 x13 x14 x15 x16 x17 x18 x19 : Nat × va_E} {p q R : va_W} (h : va_D A (x5 :: x6 :: x7 :: x8 :: x9 :: (p ++ (q ++ (R ++ [x0, x1, x2, x3, x4, x10, x11, x12, x13, x14, x15, x16, x17, x18, x19]))))) : va_D A (x0 :: x1 :: x2 :: x3 :: x4 :: x5 :: x6 :: x7 :: x8 :: x9 :: x10 :: x11 :: x12 :: x13 :: x14 :: x15 :: x16 :: x17 :: x18 :: x19 :: (p ++ (q ++ R))) := va_D.part (X := [x5, x6, x7, x8, x9, x0, x1, x2, x3, x4, x10, x11, x12, x13, x14, x15, x16, x17, x18, x19]) (pl := p ++ (q ++ R)) (cx := [x0, x1, x2, x3, x4, x5, x6, x7, x8, x9, x10, x11, x12, x13, x14, x15, x16, x17, x18, x19]) (ws_D (Xt := [x5, x6, x7, x8, x9]) (Xo := [x0, x1, x2, x3, x4, x10, x11, x12, x13, x14, x15, x16, x17, x18, x19]) h) [5, 6, 7, 8, 9, 0, 1, 2, 3, 4, 10, 11, 12, 13, 14, 15, 16, 17, 18, 19] (by decide) rfl
abbrev rX3_pack : Room := { frames := 3, cells := 0, slots := 0, locals := 68 }
set_option maxHeartbeats 4000000 in
set_option maxRecDepth 100000 in
theorem c_X3_pack (l : Launch) (D : va_G) (cI cJ cG : ClassId) (sz : Nat) (R : va_W) (h_ c_ d_ w_ v_ t_ rk_ ro_ rc_ al_ b_ ka_ na_ jo_ me_ wo_ fd_ nr_ nc_ sc_ : Nat) (ar ac : Nat → Nat) (K : Nat) (n : Nat) (dn : Nat → Nat) (wn : Nat → Nat) (vn : Nat → Nat) (tk : Int64) (kn : Nat → Nat) (M : Nat → Nat → Nat) (C : Nat → Nat → Nat) (al : Nat → Nat) (kd : Nat → Nat) (me : Nat → Nat) (px : Nat) (pcs : Nat) (bt : Bst) (wo : Nat → Int64) (le : Int64) (F : Nat → Nat) (fc : Nat) (nr : Nat → Nat) (nc : Nat → Nat) (sc : Nat → Nat) (x : Int32) (hI : HI K n dn wn vn kn M C kd px pcs bt F fc nr nc) : Met l yX3_pack wsX3_pack rX3_pack (gP D (tyl cI cJ cG) [.ref h_, .int x] (hwW cI cJ cG R h_ c_ d_ w_ v_ t_ rk_ ro_ rc_ al_ b_ ka_ na_ jo_ me_ wo_ fd_ nr_ nc_ sc_ ar ac K n dn wn vn tk kn M C al kd me px pcs bt wo le F fc nr nc sc) sz) (gQi D (tyl cI cJ cG) (hwW cI cJ cG R h_ c_ d_ w_ v_ t_ rk_ ro_ rc_ al_ b_ ka_ na_ jo_ me_ wo_ fd_ nr_ nc_ sc_ ar ac K n dn wn vn tk kn M C al kd me px pcs bt wo le F fc nr nc sc) sz (fun r (_ : Unit) => r = pkN K n kn M x) (fun _ => (hwW cI cJ cG R h_ c_ d_ w_ v_ t_ rk_ ro_ rc_ al_ b_ ka_ na_ jo_ me_ wo_ fd_ nr_ nc_ sc_ ar ac K n dn wn vn tk kn M C al kd me px pcs bt wo le F fc nr nc sc))) 0 0 (va_A (hwW cI cJ cG R h_ c_ d_ w_ v_ t_ rk_ ro_ rc_ al_ b_ ka_ na_ jo_ me_ wo_ fd_ nr_ nc_ sc_ ar ac K n dn wn vn tk kn M C al kd me px pcs bt wo le F fc nr nc sc) sz) := by
  refine gMet (cc := cX3_pack) (maxL := 2) (ret := (some .int)) (ls0 := [(0, .ref h_), (1, .int x)]) (by decide) rfl (Nat.le_of_ble_eq_true rfl) rfl ?_
  intro p e s m below meth c hx hb hr hts hown hlocks hml hname A hA hAe hsz Q hQe H locs hP hK hD hS ls hl
  have hown : s.vm.findClass RX3 = some m.cls := hown
  have in_X3 : ∀ w ∈ wsX30, w ∈ wsX3_pack := by decide +kernel
  have f_25 := hts (.fieldLink RX3 25 "SpectrumHeads" "table" "LSpectrumHeads$Table;") (by decide +kernel)
  obtain ⟨⟨hK1, hK4⟩, hn, ⟨hdn, hwn, hvn⟩, ⟨hkn, hM, hC⟩, ⟨hkd, hpx, hpcs, hbt⟩, ⟨hF, hfc⟩, ⟨hnr, hnc⟩⟩ := id hI
  refine lv_aload_n hx hb dX3_pack_0 rfl (lv_at hl 0 rfl) ?_
  refine va_get (D := D) (ci := 4) (v := .ref t_) (C := RX3) (T := TX3) (N := 11) hx hb hts in_X3 hown hK hP 0 rfl rfl 2 (by decide) f_25 (fun _ h9 => h9) rfl dX3_pack_1 ?_
  refine lv_iload_n hx hb dX3_pack_4 rfl (lv_at hl 1 rfl) ?_
  have hP := sw_5_6_7_8_9_of_20_P hP
  have hD := sw_5_6_7_8_9_of_20_D hD
  refine gc_Vi (As := [.int x]) (rest := []) (ci := 3) (q0 := 0) ⟨hx, hb, hml, hown, hts⟩ (c_X2_packedByte l D cI cJ cG H.size _ t_ rk_ ro_ rc_ al_ ar ac K n kn M C al x hn (by omega) hkn hM) (cwV 1 hts gX3_pack_X2_packedByte rfl rfl rfl (by decide +kernel) ⟨Nat.le_of_ble_eq_true rfl, Nat.le_of_ble_eq_true rfl⟩) rfl rfl rfl hK hP hD hS hA rfl hl.1 rfl (Nat.le_of_ble_eq_true rfl) dX3_pack_5 ⟨Nat.le_of_ble_eq_true rfl, Nat.le_of_ble_eq_true rfl⟩ (fun r5 u5 H locs h5 hP hD hS => ?_)
  subst h5
  have hP := sw_5_6_7_8_9_of_20_Pb hP
  have hD := sw_5_6_7_8_9_of_20_Db hD
  have hP : va_P D vwCl (hwW cI cJ cG R h_ c_ d_ w_ v_ t_ rk_ ro_ rc_ al_ b_ ka_ na_ jo_ me_ wo_ fd_ nr_ nc_ sc_ ar ac K n dn wn vn tk kn M C al kd me px pcs bt wo le F fc nr nc sc) H := hP
  have hD : va_D A (hwW cI cJ cG R h_ c_ d_ w_ v_ t_ rk_ ro_ rc_ al_ b_ ka_ na_ jo_ me_ wo_ fd_ nr_ nc_ sc_ ar ac K n dn wn vn tk kn M C al kd me px pcs bt wo le F fc nr nc sc) := hD
  subst hQe
  subst hAe
  subst hsz
  exact g_iret hx hb hr hlocks () rfl hP hK hD hS dX3_pack_8
theorem pm_10_11_12_13_14_0_1_2_3_4_5_6_7_8_9_15_16_17_18_19_P {D : va_G} {cl : List vw_C} {H : Heap} {x0 x1 x2 x3 x4 x5 x6 x7 x8 x9 x10 x11 x12 x13 x14 x15 x16 x17 x18 x19 : Nat × va_E} {T : va_W} (h : va_P D cl (x0 :: x1 :: x2 :: x3 :: x4 :: x5 :: x6 :: x7 :: x8 :: x9 :: x10 :: x11 :: x12 :: x13 :: x14 :: x15 :: x16 :: x17 :: x18 :: x19 :: T) H) : va_P D cl (x10 :: x11 :: x12 :: x13 :: x14 :: x0 :: x1 :: x2 :: x3 :: x4 :: x5 :: x6 :: x7 :: x8 :: x9 :: x15 :: x16 :: x17 :: x18 :: x19 :: T) H := va_P.part (X := [x0, x1, x2, x3, x4, x5, x6, x7, x8, x9, x10, x11, x12, x13, x14, x15, x16, x17, x18, x19]) (pl := T) (cx := [x10, x11, x12, x13, x14, x0, x1, x2, x3, x4, x5, x6, x7, x8, x9, x15, x16, x17, x18, x19]) h [10, 11, 12, 13, 14, 0, 1, 2, 3, 4, 5, 6, 7, 8, 9, 15, 16, 17, 18, 19] rfl
theorem pm_10_11_12_13_14_0_1_2_3_4_5_6_7_8_9_15_16_17_18_19_D {A : Nat → Prop} {x0 x1 x2 x3 x4 x5 x6 x7 x8 x9 x10 x11 x12 x13 x14 x15 x16 x17 x18 x19 : Nat × va_E} {T : va_W} (h : va_D A (x0 :: x1 :: x2 :: x3 :: x4 :: x5 :: x6 :: x7 :: x8 :: x9 :: x10 :: x11 :: x12 :: x13 :: x14 :: x15 :: x16 :: x17 :: x18 :: x19 :: T)) : va_D A (x10 :: x11 :: x12 :: x13 :: x14 :: x0 :: x1 :: x2 :: x3 :: x4 :: x5 :: x6 :: x7 :: x8 :: x9 :: x15 :: x16 :: x17 :: x18 :: x19 :: T) := va_D.part (X := [x0, x1, x2, x3, x4, x5, x6, x7, x8, x9, x10, x11, x12, x13, x14, x15, x16, x17, x18, x19]) (pl := T) (cx := [x10, x11, x12, x13, x14, x0, x1, x2, x3, x4, x5, x6, x7, x8, x9, x15, x16, x17, x18, x19]) h [10, 11, 12, 13, 14, 0, 1, 2, 3, 4, 5, 6, 7, 8, 9, 15, 16, 17, 18, 19] (by decide) rfl
theorem pm_5_6_7_8_9_10_11_12_13_14_0_1_2_3_4_15_16_17_18_19_P {D : va_G} {cl : List vw_C} {H : Heap} {x0 x1 x2 x3 x4 x5 x6 x7 x8 x9 x10 x11 x12 x13 x14 x15 x16 x17 x18 x19 : Nat × va_E} {T : va_W} (h : va_P D cl (x0 :: x1 :: x2 :: x3 :: x4 :: x5 :: x6 :: x7 :: x8 :: x9 :: x10 :: x11 :: x12 :: x13 :: x14 :: x15 :: x16 :: x17 :: x18 :: x19 :: T) H) : va_P D cl (x5 :: x6 :: x7 :: x8 :: x9 :: x10 :: x11 :: x12 :: x13 :: x14 :: x0 :: x1 :: x2 :: x3 :: x4 :: x15 :: x16 :: x17 :: x18 :: x19 :: T) H := va_P.part (X := [x0, x1, x2, x3, x4, x5, x6, x7, x8, x9, x10, x11, x12, x13, x14, x15, x16, x17, x18, x19]) (pl := T) (cx := [x5, x6, x7, x8, x9, x10, x11, x12, x13, x14, x0, x1, x2, x3, x4, x15, x16, x17, x18, x19]) h [5, 6, 7, 8, 9, 10, 11, 12, 13, 14, 0, 1, 2, 3, 4, 15, 16, 17, 18, 19] rfl
theorem pm_5_6_7_8_9_10_11_12_13_14_0_1_2_3_4_15_16_17_18_19_D {A : Nat → Prop} {x0 x1 x2 x3 x4 x5 x6 x7 x8 x9 x10 x11 x12 x13 x14 x15 x16 x17 x18 x19 : Nat × va_E} {T : va_W} (h : va_D A (x0 :: x1 :: x2 :: x3 :: x4 :: x5 :: x6 :: x7 :: x8 :: x9 :: x10 :: x11 :: x12 :: x13 :: x14 :: x15 :: x16 :: x17 :: x18 :: x19 :: T)) : va_D A (x5 :: x6 :: x7 :: x8 :: x9 :: x10 :: x11 :: x12 :: x13 :: x14 :: x0 :: x1 :: x2 :: x3 :: x4 :: x15 :: x16 :: x17 :: x18 :: x19 :: T) := va_D.part (X := [x0, x1, x2, x3, x4, x5, x6, x7, x8, x9, x10, x11, x12, x13, x14, x15, x16, x17, x18, x19]) (pl := T) (cx := [x5, x6, x7, x8, x9, x10, x11, x12, x13, x14, x0, x1, x2, x3, x4, x15, x16, x17, x18, x19]) h [5, 6, 7, 8, 9, 10, 11, 12, 13, 14, 0, 1, 2, 3, 4, 15, 16, 17, 18, 19] (by decide) rfl
abbrev rX3_piece : Room := { frames := 2, cells := 0, slots := 0, locals := 43 }
set_option maxHeartbeats 4000000 in
set_option maxRecDepth 100000 in
theorem c_X3_piece (l : Launch) (D : va_G) (cI cJ cG : ClassId) (sz : Nat) (R : va_W) (h_ c_ d_ w_ v_ t_ rk_ ro_ rc_ al_ b_ ka_ na_ jo_ me_ wo_ fd_ nr_ nc_ sc_ : Nat) (ar ac : Nat → Nat) (K : Nat) (n : Nat) (dn : Nat → Nat) (wn : Nat → Nat) (vn : Nat → Nat) (tk : Int64) (kn : Nat → Nat) (M : Nat → Nat → Nat) (C : Nat → Nat → Nat) (al : Nat → Nat) (kd : Nat → Nat) (me : Nat → Nat) (px : Nat) (pcs : Nat) (bt : Bst) (wo : Nat → Int64) (le : Int64) (F : Nat → Nat) (fc : Nat) (nr : Nat → Nat) (nc : Nat → Nat) (sc : Nat → Nat) (x y : Int32) : Met l yX3_piece wsX3_piece rX3_piece (gP D (tyl cI cJ cG) [.ref h_, .int x, .int y] (hwW cI cJ cG R h_ c_ d_ w_ v_ t_ rk_ ro_ rc_ al_ b_ ka_ na_ jo_ me_ wo_ fd_ nr_ nc_ sc_ ar ac K n dn wn vn tk kn M C al kd me px pcs bt wo le F fc nr nc sc) sz) (gQi D (tyl cI cJ cG) (hwW cI cJ cG R h_ c_ d_ w_ v_ t_ rk_ ro_ rc_ al_ b_ ka_ na_ jo_ me_ wo_ fd_ nr_ nc_ sc_ ar ac K n dn wn vn tk kn M C al kd me px pcs bt wo le F fc nr nc sc) sz (fun r (_ : Unit) => r = paN bt.1 x y) (fun _ => (hwW cI cJ cG R h_ c_ d_ w_ v_ t_ rk_ ro_ rc_ al_ b_ ka_ na_ jo_ me_ wo_ fd_ nr_ nc_ sc_ ar ac K n dn wn vn tk kn M C al kd me px pcs bt wo le F fc nr nc sc))) 0 0 (va_A (hwW cI cJ cG R h_ c_ d_ w_ v_ t_ rk_ ro_ rc_ al_ b_ ka_ na_ jo_ me_ wo_ fd_ nr_ nc_ sc_ ar ac K n dn wn vn tk kn M C al kd me px pcs bt wo le F fc nr nc sc) sz) := by
  refine gMet (cc := cX3_piece) (maxL := 3) (ret := (some .int)) (ls0 := [(0, .ref h_), (1, .int x), (2, .int y)]) (by decide) rfl (Nat.le_of_ble_eq_true rfl) rfl ?_
  intro p e s m below meth c hx hb hr hts hown hlocks hml hname A hA hAe hsz Q hQe H locs hP hK hD hS ls hl
  have hown : s.vm.findClass RX3 = some m.cls := hown
  have in_X3 : ∀ w ∈ wsX30, w ∈ wsX3_piece := by decide +kernel
  have f_32 := hts (.fieldLink RX3 32 "SpectrumHeads" "belt" "LSpectrumHeads$Belt;") (by decide +kernel)
  refine lv_aload_n hx hb dX3_piece_0 rfl (lv_at hl 0 rfl) ?_
  refine va_get (D := D) (ci := 4) (v := .ref b_) (C := RX3) (T := TX3) (N := 11) hx hb hts in_X3 hown hK hP 0 rfl rfl 3 (by decide) f_32 (fun _ h9 => h9) rfl dX3_piece_1 ?_
  refine lv_iload_n hx hb dX3_piece_4 rfl (lv_at hl 1 rfl) ?_
  refine lv_iload_n hx hb dX3_piece_5 rfl (lv_at hl 2 rfl) ?_
  have hP := pm_10_11_12_13_14_0_1_2_3_4_5_6_7_8_9_15_16_17_18_19_P hP
  have hD := pm_10_11_12_13_14_0_1_2_3_4_5_6_7_8_9_15_16_17_18_19_D hD
  refine gc_Vi (As := [.int x, .int y]) (rest := []) (ci := 1) (q0 := 0) ⟨hx, hb, hml, hown, hts⟩ (c_X0_pieceAt l D cI cJ cG H.size _ b_ ka_ na_ jo_ me_ kd me px pcs bt x y) (cwV 2 hts gX3_piece_X0_pieceAt rfl rfl rfl (by decide +kernel) ⟨Nat.le_of_ble_eq_true rfl, Nat.le_of_ble_eq_true rfl⟩) rfl rfl rfl hK hP hD hS hA rfl hl.1 rfl (Nat.le_of_ble_eq_true rfl) dX3_piece_6 ⟨Nat.le_of_ble_eq_true rfl, Nat.le_of_ble_eq_true rfl⟩ (fun r6 u6 H locs h6 hP hD hS => ?_)
  subst h6
  have hP := pm_5_6_7_8_9_10_11_12_13_14_0_1_2_3_4_15_16_17_18_19_P hP
  have hD := pm_5_6_7_8_9_10_11_12_13_14_0_1_2_3_4_15_16_17_18_19_D hD
  have hP : va_P D vwCl (hwW cI cJ cG R h_ c_ d_ w_ v_ t_ rk_ ro_ rc_ al_ b_ ka_ na_ jo_ me_ wo_ fd_ nr_ nc_ sc_ ar ac K n dn wn vn tk kn M C al kd me px pcs bt wo le F fc nr nc sc) H := hP
  have hD : va_D A (hwW cI cJ cG R h_ c_ d_ w_ v_ t_ rk_ ro_ rc_ al_ b_ ka_ na_ jo_ me_ wo_ fd_ nr_ nc_ sc_ ar ac K n dn wn vn tk kn M C al kd me px pcs bt wo le F fc nr nc sc) := hD
  subst hQe
  subst hAe
  subst hsz
  exact g_iret hx hb hr hlocks () rfl hP hK hD hS dX3_piece_9
abbrev rX3_neighbours : Room := { frames := 4, cells := 0, slots := 0, locals := 91 }
set_option maxHeartbeats 4000000 in
set_option maxRecDepth 100000 in
theorem c_X3_neighbours (l : Launch) (D : va_G) (cI cJ cG : ClassId) (sz : Nat) (R : va_W) (h_ c_ d_ w_ v_ t_ rk_ ro_ rc_ al_ b_ ka_ na_ jo_ me_ wo_ fd_ nr_ nc_ sc_ : Nat) (ar ac : Nat → Nat) (K : Nat) (n : Nat) (dn : Nat → Nat) (wn : Nat → Nat) (vn : Nat → Nat) (tk : Int64) (kn : Nat → Nat) (M : Nat → Nat → Nat) (C : Nat → Nat → Nat) (al : Nat → Nat) (kd : Nat → Nat) (me : Nat → Nat) (px : Nat) (pcs : Nat) (bt : Bst) (wo : Nat → Int64) (le : Int64) (F : Nat → Nat) (fc : Nat) (nr : Nat → Nat) (nc : Nat → Nat) (sc : Nat → Nat) (x : Int32) (hI : HI K n dn wn vn kn M C kd px pcs bt F fc nr nc) : Met l yX3_neighbours wsX3_neighbours rX3_neighbours (gP D (tyl cI cJ cG) [.ref h_, .int x] (hwW cI cJ cG R h_ c_ d_ w_ v_ t_ rk_ ro_ rc_ al_ b_ ka_ na_ jo_ me_ wo_ fd_ nr_ nc_ sc_ ar ac K n dn wn vn tk kn M C al kd me px pcs bt wo le F fc nr nc sc) sz) (gQi D (tyl cI cJ cG) (hwW cI cJ cG R h_ c_ d_ w_ v_ t_ rk_ ro_ rc_ al_ b_ ka_ na_ jo_ me_ wo_ fd_ nr_ nc_ sc_ ar ac K n dn wn vn tk kn M C al kd me px pcs bt wo le F fc nr nc sc) sz (fun r (u : Nat → Nat) => r = if inB x pcs = true then nI (nbN bt.1 x.toNatClampNeg (fu (fun _ => 0) me 100) 100) else -1) (fun u => (hwW cI cJ cG R h_ c_ d_ w_ v_ t_ rk_ ro_ rc_ al_ b_ ka_ na_ jo_ me_ wo_ fd_ nr_ nc_ sc_ ar ac K n dn wn vn tk kn M C al kd u px pcs bt wo le F fc nr nc sc))) 0 0 (va_A (hwW cI cJ cG R h_ c_ d_ w_ v_ t_ rk_ ro_ rc_ al_ b_ ka_ na_ jo_ me_ wo_ fd_ nr_ nc_ sc_ ar ac K n dn wn vn tk kn M C al kd me px pcs bt wo le F fc nr nc sc) sz) := by
  refine gMet (cc := cX3_neighbours) (maxL := 2) (ret := (some .int)) (ls0 := [(0, .ref h_), (1, .int x)]) (by decide) rfl (Nat.le_of_ble_eq_true rfl) rfl ?_
  intro p e s m below meth c hx hb hr hts hown hlocks hml hname A hA hAe hsz Q hQe H locs hP hK hD hS ls hl
  have hown : s.vm.findClass RX3 = some m.cls := hown
  have in_X3 : ∀ w ∈ wsX30, w ∈ wsX3_neighbours := by decide +kernel
  have f_32 := hts (.fieldLink RX3 32 "SpectrumHeads" "belt" "LSpectrumHeads$Belt;") (by decide +kernel)
  obtain ⟨⟨hK1, hK4⟩, hn, ⟨hdn, hwn, hvn⟩, ⟨hkn, hM, hC⟩, ⟨hkd, hpx, hpcs, hbt⟩, ⟨hF, hfc⟩, ⟨hnr, hnc⟩⟩ := id hI
  refine lv_aload_n hx hb dX3_neighbours_0 rfl (lv_at hl 0 rfl) ?_
  refine va_get (D := D) (ci := 4) (v := .ref b_) (C := RX3) (T := TX3) (N := 11) hx hb hts in_X3 hown hK hP 0 rfl rfl 3 (by decide) f_32 (fun _ h9 => h9) rfl dX3_neighbours_1 ?_
  refine lv_iload_n hx hb dX3_neighbours_4 rfl (lv_at hl 1 rfl) ?_
  have hP := pm_10_11_12_13_14_0_1_2_3_4_5_6_7_8_9_15_16_17_18_19_P hP
  have hD := pm_10_11_12_13_14_0_1_2_3_4_5_6_7_8_9_15_16_17_18_19_D hD
  refine gc_Vi (As := [.int x]) (rest := []) (ci := 1) (q0 := 0) ⟨hx, hb, hml, hown, hts⟩ (c_X0_hasPiece l D cI cJ cG H.size _ b_ ka_ na_ jo_ me_ kd me px pcs bt x hpcs) (cwV 1 hts gX3_neighbours_X0_hasPiece rfl rfl rfl (by decide +kernel) ⟨Nat.le_of_ble_eq_true rfl, Nat.le_of_ble_eq_true rfl⟩) rfl rfl rfl hK hP hD hS hA rfl hl.1 rfl (Nat.le_of_ble_eq_true rfl) dX3_neighbours_5 ⟨Nat.le_of_ble_eq_true rfl, Nat.le_of_ble_eq_true rfl⟩ (fun r5 u5 H locs h5 hP hD hS => ?_)
  subst h5
  have hP := pm_5_6_7_8_9_10_11_12_13_14_0_1_2_3_4_15_16_17_18_19_P hP
  have hD := pm_5_6_7_8_9_10_11_12_13_14_0_1_2_3_4_15_16_17_18_19_D hD
  have hP : va_P D vwCl (hwW cI cJ cG R h_ c_ d_ w_ v_ t_ rk_ ro_ rc_ al_ b_ ka_ na_ jo_ me_ wo_ fd_ nr_ nc_ sc_ ar ac K n dn wn vn tk kn M C al kd me px pcs bt wo le F fc nr nc sc) H := hP
  have hD : va_D A (hwW cI cJ cG R h_ c_ d_ w_ v_ t_ rk_ ro_ rc_ al_ b_ ka_ na_ jo_ me_ wo_ fd_ nr_ nc_ sc_ ar ac K n dn wn vn tk kn M C al kd me px pcs bt wo le F fc nr nc sc) := hD
  refine lv_if_eq (tgt := 22) hx hb dX3_neighbours_8 (by decide) (fun c8 => ?_) (fun c8 => ?_)
  · skip
    have hB8 := bI_0.mp c8
    refine lv_iconst (v := -1) hx hb dX3_neighbours_22 (by decide) ?_
    subst hQe
    subst hAe
    subst hsz
    exact g_iret hx hb hr hlocks me (by rw [hB8]; rfl) hP hK hD hS dX3_neighbours_23
  · skip
    have hB8 := bI_n0.mp c8
    obtain ⟨a, ha_, rfl⟩ := inB_of hB8 (by omega)
    refine lv_aload_n hx hb dX3_neighbours_11 rfl (lv_at hl 0 rfl) ?_
    refine va_get (D := D) (ci := 4) (v := .ref b_) (C := RX3) (T := TX3) (N := 11) hx hb hts in_X3 hown hK hP 0 rfl rfl 3 (by decide) f_32 (fun _ h9 => h9) rfl dX3_neighbours_12 ?_
    refine lv_iload_n hx hb dX3_neighbours_15 rfl (lv_at hl 1 rfl) ?_
    have hP := pm_10_11_12_13_14_0_1_2_3_4_5_6_7_8_9_15_16_17_18_19_P hP
    have hD := pm_10_11_12_13_14_0_1_2_3_4_5_6_7_8_9_15_16_17_18_19_D hD
    refine gc_Vi (As := [.int (nI a)]) (rest := []) (ci := 1) (q0 := 0) ⟨hx, hb, hml, hown, hts⟩ (c_X0_countNeighbours l D cI cJ cG H.size _ b_ ka_ na_ jo_ me_ kd me px pcs bt a (by omega) hkd hbt) (cwV 1 hts gX3_neighbours_X0_countNeighbours rfl rfl rfl (by decide +kernel) ⟨Nat.le_of_ble_eq_true rfl, Nat.le_of_ble_eq_true rfl⟩) rfl rfl rfl hK hP hD hS hA rfl hl.1 rfl (Nat.le_of_ble_eq_true rfl) dX3_neighbours_16 ⟨Nat.le_of_ble_eq_true rfl, Nat.le_of_ble_eq_true rfl⟩ (fun r16 u16 H locs h16 hP hD hS => ?_)
    subst h16
    have hP := pm_5_6_7_8_9_10_11_12_13_14_0_1_2_3_4_15_16_17_18_19_P hP
    have hD := pm_5_6_7_8_9_10_11_12_13_14_0_1_2_3_4_15_16_17_18_19_D hD
    have hP : va_P D vwCl (hwW cI cJ cG R h_ c_ d_ w_ v_ t_ rk_ ro_ rc_ al_ b_ ka_ na_ jo_ me_ wo_ fd_ nr_ nc_ sc_ ar ac K n dn wn vn tk kn M C al kd (metP bt.1 a (fu (fun _ => 0) me 100) 256) px pcs bt wo le F fc nr nc sc) H := hP
    have hD : va_D A (hwW cI cJ cG R h_ c_ d_ w_ v_ t_ rk_ ro_ rc_ al_ b_ ka_ na_ jo_ me_ wo_ fd_ nr_ nc_ sc_ ar ac K n dn wn vn tk kn M C al kd (metP bt.1 a (fu (fun _ => 0) me 100) 256) px pcs bt wo le F fc nr nc sc) := hD
    refine lv_goto (tgt := 23) hx hb dX3_neighbours_19 (by decide) ?_
    subst hQe
    subst hAe
    subst hsz
    exact g_iret hx hb hr hlocks (metP bt.1 a (fu (fun _ => 0) me 100) 256) (by rw [hB8, nI_clamp (by omega)]; rfl) hP hK hD hS dX3_neighbours_23
abbrev rX3_correct : Room := { frames := 1, cells := 0, slots := 0, locals := 22 }
set_option maxHeartbeats 4000000 in
set_option maxRecDepth 100000 in
theorem c_X3_correct (l : Launch) (D : va_G) (cI cJ cG : ClassId) (sz : Nat) (R : va_W) (h_ c_ d_ w_ v_ t_ rk_ ro_ rc_ al_ b_ ka_ na_ jo_ me_ wo_ fd_ nr_ nc_ sc_ : Nat) (ar ac : Nat → Nat) (K : Nat) (n : Nat) (dn : Nat → Nat) (wn : Nat → Nat) (vn : Nat → Nat) (tk : Int64) (kn : Nat → Nat) (M : Nat → Nat → Nat) (C : Nat → Nat → Nat) (al : Nat → Nat) (kd : Nat → Nat) (me : Nat → Nat) (px : Nat) (pcs : Nat) (bt : Bst) (wo : Nat → Int64) (le : Int64) (F : Nat → Nat) (fc : Nat) (nr : Nat → Nat) (nc : Nat → Nat) (sc : Nat → Nat) (x y : Int32) (hI : HI K n dn wn vn kn M C kd px pcs bt F fc nr nc) : Met l yX3_correct wsX3_correct rX3_correct (gP D (tyl cI cJ cG) [.ref h_, .int x, .int y] (hwW cI cJ cG R h_ c_ d_ w_ v_ t_ rk_ ro_ rc_ al_ b_ ka_ na_ jo_ me_ wo_ fd_ nr_ nc_ sc_ ar ac K n dn wn vn tk kn M C al kd me px pcs bt wo le F fc nr nc sc) sz) (gQi D (tyl cI cJ cG) (hwW cI cJ cG R h_ c_ d_ w_ v_ t_ rk_ ro_ rc_ al_ b_ ka_ na_ jo_ me_ wo_ fd_ nr_ nc_ sc_ ar ac K n dn wn vn tk kn M C al kd me px pcs bt wo le F fc nr nc sc) sz (fun r (u : Nat → Nat) => (r = if (inB x n && inB y K) = true then nI (kn x.toNatClampNeg) else -1) ∧ u = if (inB x n && inB y K) = true then un kn x.toNatClampNeg y.toNatClampNeg else kn) (fun u => (hwW cI cJ cG R h_ c_ d_ w_ v_ t_ rk_ ro_ rc_ al_ b_ ka_ na_ jo_ me_ wo_ fd_ nr_ nc_ sc_ ar ac K n dn wn vn tk u M C al kd me px pcs bt wo le F fc nr nc sc))) 0 0 (va_A (hwW cI cJ cG R h_ c_ d_ w_ v_ t_ rk_ ro_ rc_ al_ b_ ka_ na_ jo_ me_ wo_ fd_ nr_ nc_ sc_ ar ac K n dn wn vn tk kn M C al kd me px pcs bt wo le F fc nr nc sc) sz) := by
  refine gMet (cc := cX3_correct) (maxL := 4) (ret := (some .int)) (ls0 := [(0, .ref h_), (1, .int x), (2, .int y)]) (by decide) rfl (Nat.le_of_ble_eq_true rfl) rfl ?_
  intro p e s m below meth c hx hb hr hts hown hlocks hml hname A hA hAe hsz Q hQe H locs hP hK hD hS ls hl
  have hown : s.vm.findClass RX3 = some m.cls := hown
  have in_X3 : ∀ w ∈ wsX30, w ∈ wsX3_correct := by decide +kernel
  have f_25 := hts (.fieldLink RX3 25 "SpectrumHeads" "table" "LSpectrumHeads$Table;") (by decide +kernel)
  obtain ⟨⟨hK1, hK4⟩, hn, ⟨hdn, hwn, hvn⟩, ⟨hkn, hM, hC⟩, ⟨hkd, hpx, hpcs, hbt⟩, ⟨hF, hfc⟩, ⟨hnr, hnc⟩⟩ := id hI
  refine lv_aload_n hx hb dX3_correct_0 rfl (lv_at hl 0 rfl) ?_
  refine va_get (D := D) (ci := 4) (v := .ref t_) (C := RX3) (T := TX3) (N := 11) hx hb hts in_X3 hown hK hP 0 rfl rfl 2 (by decide) f_25 (fun _ h9 => h9) rfl dX3_correct_1 ?_
  refine lv_iload_n hx hb dX3_correct_4 rfl (lv_at hl 1 rfl) ?_
  have hP := sw_5_6_7_8_9_of_20_P hP
  have hD := sw_5_6_7_8_9_of_20_D hD
  refine gc_Vi (As := [.int x]) (rest := []) (ci := 3) (q0 := 0) ⟨hx, hb, hml, hown, hts⟩ (c_X2_has l D cI cJ cG H.size _ t_ rk_ ro_ rc_ al_ ar ac K n kn M C al x hn) (cwV 1 hts gX3_correct_X2_has rfl rfl rfl (by decide +kernel) ⟨Nat.le_of_ble_eq_true rfl, Nat.le_of_ble_eq_true rfl⟩) rfl rfl rfl hK hP hD hS hA rfl hl.1 rfl (Nat.le_of_ble_eq_true rfl) dX3_correct_5 ⟨Nat.le_of_ble_eq_true rfl, Nat.le_of_ble_eq_true rfl⟩ (fun r5 u5 H locs h5 hP hD hS => ?_)
  subst h5
  have hP := sw_5_6_7_8_9_of_20_Pb hP
  have hD := sw_5_6_7_8_9_of_20_Db hD
  have hP : va_P D vwCl (hwW cI cJ cG R h_ c_ d_ w_ v_ t_ rk_ ro_ rc_ al_ b_ ka_ na_ jo_ me_ wo_ fd_ nr_ nc_ sc_ ar ac K n dn wn vn tk kn M C al kd me px pcs bt wo le F fc nr nc sc) H := hP
  have hD : va_D A (hwW cI cJ cG R h_ c_ d_ w_ v_ t_ rk_ ro_ rc_ al_ b_ ka_ na_ jo_ me_ wo_ fd_ nr_ nc_ sc_ ar ac K n dn wn vn tk kn M C al kd me px pcs bt wo le F fc nr nc sc) := hD
  refine lv_if_eq (tgt := 19) hx hb dX3_correct_8 (by decide) (fun c8 => ?_) (fun c8 => ?_)
  · skip
    have hB8 := bI_0.mp c8
    have hB : (inB x n && inB y K) = false := by rw [hB8]; rfl
    refine lv_iconst (v := -1) hx hb dX3_correct_19 (by decide) ?_
    subst hQe
    subst hAe
    subst hsz
    exact g_iret hx hb hr hlocks kn ⟨by rw [hB]; rfl, by rw [hB]; rfl⟩ hP hK hD hS dX3_correct_20
  · skip
    have hB8 := bI_n0.mp c8
    obtain ⟨a, ha_, rfl⟩ := inB_of hB8 (by omega)
    refine lv_aload_n hx hb dX3_correct_11 rfl (lv_at hl 0 rfl) ?_
    refine lv_iload_n hx hb dX3_correct_12 rfl (lv_at hl 2 rfl) ?_
    refine gc_Vi (As := [.int y]) (rest := []) (ci := 4) (q0 := 0) ⟨hx, hb, hml, hown, hts⟩ (c_X3_isKind l D cI cJ cG H.size _ h_ c_ t_ b_ wo_ fd_ nr_ nc_ sc_ K fc le y hK4) (cwV 1 hts gX3_correct_X3_isKind rfl rfl rfl (by decide +kernel) ⟨Nat.le_of_ble_eq_true rfl, Nat.le_of_ble_eq_true rfl⟩) rfl rfl rfl hK hP hD hS hA rfl hl.1 rfl (Nat.le_of_ble_eq_true rfl) dX3_correct_13 ⟨Nat.le_of_ble_eq_true rfl, Nat.le_of_ble_eq_true rfl⟩ (fun r13 u13 H locs h13 hP hD hS => ?_)
    subst h13
    have hP : va_P D vwCl (hwW cI cJ cG R h_ c_ d_ w_ v_ t_ rk_ ro_ rc_ al_ b_ ka_ na_ jo_ me_ wo_ fd_ nr_ nc_ sc_ ar ac K n dn wn vn tk kn M C al kd me px pcs bt wo le F fc nr nc sc) H := hP
    have hD : va_D A (hwW cI cJ cG R h_ c_ d_ w_ v_ t_ rk_ ro_ rc_ al_ b_ ka_ na_ jo_ me_ wo_ fd_ nr_ nc_ sc_ ar ac K n dn wn vn tk kn M C al kd me px pcs bt wo le F fc nr nc sc) := hD
    refine lv_if_ne (tgt := 21) hx hb dX3_correct_16 (by decide) (fun c16 => ?_) (fun c16 => ?_)
    · skip
      have hB16 := bI_n0.mp c16
      obtain ⟨b, hb_, rfl⟩ := inB_of hB16 (by omega)
      have hB : (inB (nI a) n && inB (nI b) K) = true := by rw [hB8, hB16]; rfl
      refine lv_aload_n hx hb dX3_correct_21 rfl (lv_at hl 0 rfl) ?_
      refine va_get (D := D) (ci := 4) (v := .ref t_) (C := RX3) (T := TX3) (N := 11) hx hb hts in_X3 hown hK hP 0 rfl rfl 2 (by decide) f_25 (fun _ h9 => h9) rfl dX3_correct_22 ?_
      refine lv_iload_n hx hb dX3_correct_25 rfl (lv_at hl 1 rfl) ?_
      have hP := sw_5_6_7_8_9_of_20_P hP
      have hD := sw_5_6_7_8_9_of_20_D hD
      refine gc_Vi (As := [.int (nI a)]) (rest := []) (ci := 3) (q0 := 0) ⟨hx, hb, hml, hown, hts⟩ (c_X2_kindOf l D cI cJ cG H.size _ t_ rk_ ro_ rc_ al_ ar ac K n kn M C al a (by omega)) (cwV 1 hts gX3_correct_X2_kindOf rfl rfl rfl (by decide +kernel) ⟨Nat.le_of_ble_eq_true rfl, Nat.le_of_ble_eq_true rfl⟩) rfl rfl rfl hK hP hD hS hA rfl hl.1 rfl (Nat.le_of_ble_eq_true rfl) dX3_correct_26 ⟨Nat.le_of_ble_eq_true rfl, Nat.le_of_ble_eq_true rfl⟩ (fun r26 u26 H locs h26 hP hD hS => ?_)
      subst h26
      have hP := sw_5_6_7_8_9_of_20_Pb hP
      have hD := sw_5_6_7_8_9_of_20_Db hD
      have hP : va_P D vwCl (hwW cI cJ cG R h_ c_ d_ w_ v_ t_ rk_ ro_ rc_ al_ b_ ka_ na_ jo_ me_ wo_ fd_ nr_ nc_ sc_ ar ac K n dn wn vn tk kn M C al kd me px pcs bt wo le F fc nr nc sc) H := hP
      have hD : va_D A (hwW cI cJ cG R h_ c_ d_ w_ v_ t_ rk_ ro_ rc_ al_ b_ ka_ na_ jo_ me_ wo_ fd_ nr_ nc_ sc_ ar ac K n dn wn vn tk kn M C al kd me px pcs bt wo le F fc nr nc sc) := hD
      refine lv_istore_n (lv' := [(3, .int (nI (kn a))), (0, .ref h_), (1, .int (nI a)), (2, .int (nI b))]) hx hb dX3_correct_29 rfl hl (by decide) rfl (fun ls hl => ?_)
      refine lv_aload_n hx hb dX3_correct_30 rfl (lv_at hl 1 rfl) ?_
      refine va_get (D := D) (ci := 4) (v := .ref t_) (C := RX3) (T := TX3) (N := 11) hx hb hts in_X3 hown hK hP 0 rfl rfl 2 (by decide) f_25 (fun _ h9 => h9) rfl dX3_correct_31 ?_
      refine lv_iload_n hx hb dX3_correct_34 rfl (lv_at hl 2 rfl) ?_
      refine lv_iload_n hx hb dX3_correct_35 rfl (lv_at hl 3 rfl) ?_
      have hP := sw_5_6_7_8_9_of_20_P hP
      have hD := sw_5_6_7_8_9_of_20_D hD
      refine gc_Vv (As := [.int (nI a), .int (nI b)]) (rest := []) (ci := 3) (q0 := 0) ⟨hx, hb, hml, hown, hts⟩ (c_X2_setKind l D cI cJ cG H.size _ t_ rk_ ro_ rc_ al_ ar ac K n kn M C al a b (by omega)) (cwV 2 hts gX3_correct_X2_setKind rfl rfl rfl (by decide +kernel) ⟨Nat.le_of_ble_eq_true rfl, Nat.le_of_ble_eq_true rfl⟩) rfl rfl rfl hK hP hD hS hA rfl hl.1 rfl (Nat.le_of_ble_eq_true rfl) dX3_correct_36 ⟨Nat.le_of_ble_eq_true rfl, Nat.le_of_ble_eq_true rfl⟩ (fun u36 H locs h36 hP hD hS => ?_)
      have hP := sw_5_6_7_8_9_of_20_Pb hP
      have hD := sw_5_6_7_8_9_of_20_Db hD
      have hP : va_P D vwCl (hwW cI cJ cG R h_ c_ d_ w_ v_ t_ rk_ ro_ rc_ al_ b_ ka_ na_ jo_ me_ wo_ fd_ nr_ nc_ sc_ ar ac K n dn wn vn tk (un kn a b) M C al kd me px pcs bt wo le F fc nr nc sc) H := hP
      have hD : va_D A (hwW cI cJ cG R h_ c_ d_ w_ v_ t_ rk_ ro_ rc_ al_ b_ ka_ na_ jo_ me_ wo_ fd_ nr_ nc_ sc_ ar ac K n dn wn vn tk (un kn a b) M C al kd me px pcs bt wo le F fc nr nc sc) := hD
      refine lv_iload_n hx hb dX3_correct_39 rfl (lv_at hl 0 rfl) ?_
      subst hQe
      subst hAe
      subst hsz
      exact g_iret hx hb hr hlocks (un kn a b) ⟨by rw [hB, nI_clamp (by omega)]; rfl, by rw [hB, nI_clamp (by omega), nI_clamp (by omega)]; rfl⟩ hP hK hD hS dX3_correct_40
    · skip
      have hB16 := bI_0.mp c16
      have hB : (inB (nI a) n && inB y K) = false := by rw [hB16, Bool.and_false]
      refine lv_iconst (v := -1) hx hb dX3_correct_19 (by decide) ?_
      subst hQe
      subst hAe
      subst hsz
      exact g_iret hx hb hr hlocks kn ⟨by rw [hB]; rfl, by rw [hB]; rfl⟩ hP hK hD hS dX3_correct_20
abbrev rX3_greatest : Room := { frames := 0, cells := 0, slots := 0, locals := 0 }
set_option maxHeartbeats 4000000 in
set_option maxRecDepth 100000 in
theorem c_X3_greatest (l : Launch) (D : va_G) (cI cJ cG : ClassId) (sz : Nat) (R : va_W) (h_ c_ t_ b_ wo_ fd_ nr_ nc_ sc_ K fc : Nat) (le : Int64) (wo : Nat → Int64) (sc : Nat → Nat) (hK1 : 1 ≤ K) (hK4 : K ≤ 4) (hsc : ∀ k, k < K → sc k < 2 ^ 31) : Met l yX3_greatest wsX3_greatest rX3_greatest (gP D (tyl cI cJ cG) [.ref h_] ((h_, .inr (4, [.int (nI K), .ref c_, .ref t_, .ref b_, .ref wo_, .long le, .ref fd_, .int (nI fc), .ref nr_, .ref nc_, .ref sc_])) :: (wo_, .inl (cJ, K, .inr (.inl wo))) :: (sc_, .inl (cJ, K, .inr (.inl (lf sc)))) :: R) sz) (gQi D (tyl cI cJ cG) ((h_, .inr (4, [.int (nI K), .ref c_, .ref t_, .ref b_, .ref wo_, .long le, .ref fd_, .int (nI fc), .ref nr_, .ref nc_, .ref sc_])) :: (wo_, .inl (cJ, K, .inr (.inl wo))) :: (sc_, .inl (cJ, K, .inr (.inl (lf sc)))) :: R) sz (fun r (_ : Unit) => r = nI (grN sc wo K)) (fun _ => ((h_, .inr (4, [.int (nI K), .ref c_, .ref t_, .ref b_, .ref wo_, .long le, .ref fd_, .int (nI fc), .ref nr_, .ref nc_, .ref sc_])) :: (wo_, .inl (cJ, K, .inr (.inl wo))) :: (sc_, .inl (cJ, K, .inr (.inl (lf sc)))) :: R))) 0 0 (va_A ((h_, .inr (4, [.int (nI K), .ref c_, .ref t_, .ref b_, .ref wo_, .long le, .ref fd_, .int (nI fc), .ref nr_, .ref nc_, .ref sc_])) :: (wo_, .inl (cJ, K, .inr (.inl wo))) :: (sc_, .inl (cJ, K, .inr (.inl (lf sc)))) :: R) sz) := by
  refine gMet (cc := cX3_greatest) (maxL := 4) (ret := (some .int)) (ls0 := [(0, .ref h_)]) (by decide) rfl (Nat.le_of_ble_eq_true rfl) rfl ?_
  intro p e s m below meth c hx hb hr hts hown hlocks hml hname A hA hAe hsz Q hQe H locs hP hK hD hS ls hl
  have hown : s.vm.findClass RX3 = some m.cls := hown
  have in_X3 : ∀ w ∈ wsX30, w ∈ wsX3_greatest := by decide +kernel
  have f_9 := hts (.fieldLink RX3 9 "SpectrumHeads" "kinds" "I") (by decide +kernel)
  have f_57 := hts (.fieldLink RX3 57 "SpectrumHeads" "scores" "[J") (by decide +kernel)
  have f_36 := hts (.fieldLink RX3 36 "SpectrumHeads" "worths" "[J") (by decide +kernel)
  refine lv_iconst (v := 0) hx hb dX3_greatest_0 (by decide) ?_
  refine lv_istore_n (lv' := [(1, .int 0), (0, .ref h_)]) hx hb dX3_greatest_1 rfl hl (by decide) rfl (fun ls hl => ?_)
  refine lv_iconst (v := 1) hx hb dX3_greatest_2 (by decide) ?_
  refine lv_istore_n (lv' := [(2, .int 1), (1, .int 0), (0, .ref h_)]) hx hb dX3_greatest_3 rfl hl (by decide) rfl (fun ls hl => ?_)
  have L_4 : ∀ (n_4 : Nat) (k : Nat) (hk : k ≤ K) (hk1 : 1 ≤ k), K - k < n_4 → ∀ (H : Heap) (locs : List Loc) (ls : Array Slot), va_P D vwCl ((h_, .inr (4, [.int (nI K), .ref c_, .ref t_, .ref b_, .ref wo_, .long le, .ref fd_, .int (nI fc), .ref nr_, .ref nc_, .ref sc_])) :: (wo_, .inl (cJ, K, .inr (.inl wo))) :: (sc_, .inl (cJ, K, .inr (.inl (lf sc)))) :: R) H → va_D A ((h_, .inr (4, [.int (nI K), .ref c_, .ref t_, .ref b_, .ref wo_, .long le, .ref fd_, .int (nI fc), .ref nr_, .ref nc_, .ref sc_])) :: (wo_, .inl (cJ, K, .inr (.inl wo))) :: (sc_, .inl (cJ, K, .inr (.inl (lf sc)))) :: R) → va_S A s.heap H locs → lv_has ls 4 [(2, .int (nI k)), (1, .int (nI (grN sc wo k))), (0, .ref h_)] → W p l e (headSpec wsX3_greatest rX3_greatest).room s m ([.ref h_] : List Value).toArray below meth c H locs 0 0 Q (F0 m 4 ls []) := by
    intro n_4
    induction n_4 with
    | zero => intro k hk hk1 hn_; exact absurd hn_ (Nat.not_lt_zero _)
    | succ n_4 ih_4 =>
      intro k hk hk1 hn_4 H locs ls hP hD hS hl
      refine lv_iload_n hx hb dX3_greatest_4 rfl (lv_at hl 0 rfl) ?_
      refine lv_aload_n hx hb dX3_greatest_5 rfl (lv_at hl 2 rfl) ?_
      refine va_get (D := D) (ci := 4) (v := .int (nI K)) (C := RX3) (T := TX3) (N := 11) hx hb hts in_X3 hown hK hP 0 rfl rfl 0 (by decide) f_9 (fun _ h9 => h9) rfl dX3_greatest_6 ?_
      refine lv_icmp_ge (tgt := 78) hx hb dX3_greatest_9 (by decide) (fun c9 => ?_) (fun c9 => ?_)
      · skip
        have hE9 := lp_e (n := K) c9 hk
        subst hE9
        refine lv_iload_n hx hb dX3_greatest_78 rfl (lv_at hl 1 rfl) ?_
        subst hQe
        subst hAe
        subst hsz
        exact g_iret hx hb hr hlocks () rfl hP hK hD hS dX3_greatest_79
      · skip
        have hk8 := lp_l (n := K) c9 hk
        have hg : grN sc wo k < k := grN_lt k hk1
        have hs1 := hsc k hk8
        have hs2 := hsc (grN sc wo k) (by omega)
        refine lv_aload_n hx hb dX3_greatest_12 rfl (lv_at hl 2 rfl) ?_
        refine va_get (D := D) (ci := 4) (v := .ref sc_) (C := RX3) (T := TX3) (N := 11) hx hb hts in_X3 hown hK hP 0 rfl rfl 10 (by decide) f_57 (fun _ h9 => h9) rfl dX3_greatest_13 ?_
        refine lv_iload_n hx hb dX3_greatest_16 rfl (lv_at hl 0 rfl) ?_
        refine va_lald hx hb hK hP (2) 1 rfl rfl (by first | exact vp_in_nI (by omega) (by omega) | assumption) dX3_greatest_17 ?_
        refine lv_topl (fun x17 ex17 => ?_)
        rw [nI_clamp (by omega)] at ex17
        obtain rfl : x17 = lN (sc k) := by exact ex17
        refine lv_aload_n hx hb dX3_greatest_18 rfl (lv_at hl 2 rfl) ?_
        refine va_get (D := D) (ci := 4) (v := .ref sc_) (C := RX3) (T := TX3) (N := 11) hx hb hts in_X3 hown hK hP 0 rfl rfl 10 (by decide) f_57 (fun _ h9 => h9) rfl dX3_greatest_19 ?_
        refine lv_iload_n hx hb dX3_greatest_22 rfl (lv_at hl 1 rfl) ?_
        refine va_lald hx hb hK hP (2) 1 rfl rfl (by first | exact vp_in_nI (by omega) (by omega) | assumption) dX3_greatest_23 ?_
        refine lv_topl (fun x23 ex23 => ?_)
        rw [nI_clamp (by omega)] at ex23
        obtain rfl : x23 = lN (sc (grN sc wo k)) := by exact ex23
        refine W.lcmp hx hb dX3_greatest_24 ?_
        refine lv_if_ne (tgt := 32) hx hb dX3_greatest_25 (by decide) (fun c25 => ?_) (fun c25 => ?_)
        · skip
          have hse : ¬ sc k = sc (grN sc wo k) := fun h => c25 ((lg_cmp_eq _ _).mpr (by rw [h]))
          refine lv_iconst (v := 0) hx hb dX3_greatest_32 (by decide) ?_
          refine lv_istore_n (lv' := [(3, .int 0), (2, .int (nI k)), (1, .int (nI (grN sc wo k))), (0, .ref h_)]) hx hb dX3_greatest_33 rfl hl (by decide) rfl (fun ls hl => ?_)
          refine lv_aload_n hx hb dX3_greatest_34 rfl (lv_at hl 3 rfl) ?_
          refine va_get (D := D) (ci := 4) (v := .ref sc_) (C := RX3) (T := TX3) (N := 11) hx hb hts in_X3 hown hK hP 0 rfl rfl 10 (by decide) f_57 (fun _ h9 => h9) rfl dX3_greatest_35 ?_
          refine lv_iload_n hx hb dX3_greatest_38 rfl (lv_at hl 1 rfl) ?_
          refine va_lald hx hb hK hP (2) 1 rfl rfl (by first | exact vp_in_nI (by omega) (by omega) | assumption) dX3_greatest_39 ?_
          refine lv_topl (fun x39 ex39 => ?_)
          rw [nI_clamp (by omega)] at ex39
          obtain rfl : x39 = lN (sc k) := by exact ex39
          refine lv_aload_n hx hb dX3_greatest_40 rfl (lv_at hl 3 rfl) ?_
          refine va_get (D := D) (ci := 4) (v := .ref sc_) (C := RX3) (T := TX3) (N := 11) hx hb hts in_X3 hown hK hP 0 rfl rfl 10 (by decide) f_57 (fun _ h9 => h9) rfl dX3_greatest_41 ?_
          refine lv_iload_n hx hb dX3_greatest_44 rfl (lv_at hl 2 rfl) ?_
          refine va_lald hx hb hK hP (2) 1 rfl rfl (by first | exact vp_in_nI (by omega) (by omega) | assumption) dX3_greatest_45 ?_
          refine lv_topl (fun x45 ex45 => ?_)
          rw [nI_clamp (by omega)] at ex45
          obtain rfl : x45 = lN (sc (grN sc wo k)) := by exact ex45
          refine W.lcmp hx hb dX3_greatest_46 ?_
          refine lv_if_gt (tgt := 70) hx hb dX3_greatest_47 (by decide) (fun c47 => ?_) (fun c47 => ?_)
          · skip
            have hyes : sc (grN sc wo k) < sc k ∨ (sc k = sc (grN sc wo k) ∧ wo (grN sc wo k) < wo k) := Or.inl ((pk_lLT (by omega) (by omega)).mp ((lg_cmp_gt _ _).mp c47))
            refine lv_iload_n hx hb dX3_greatest_70 rfl (lv_at hl 1 rfl) ?_
            refine lv_istore_n (lv' := [(1, .int (nI k)), (3, .int 0), (2, .int (nI k)), (0, .ref h_)]) hx hb dX3_greatest_71 rfl hl (by decide) rfl (fun ls hl => ?_)
            have hl := gr_loc hl (grN_t hk1 hyes)
            obtain ⟨x72, ex72⟩ : ∃ y : Int32, y = (nI k) + 1 := ⟨_, rfl⟩
            refine lv_iinc (v := x72) (lv' := [(2, .int x72), (1, .int (nI (grN sc wo (k + 1)))), (3, .int 0), (0, .ref h_)]) hx hb dX3_greatest_72 hl (k := 2) rfl (by rw [ex72]; rfl) (by decide) rfl (fun ls hl => ?_)
            obtain rfl : x72 = nI (k + 1) := by rw [ex72]; exact nI_1 _
            refine lv_goto (tgt := 4) hx hb dX3_greatest_75 (by decide) ?_
            exact ih_4 (k + 1) (by omega) (by omega) (by omega) H locs ls hP hD hS (lv_sub hl [0, 1, 3] rfl)
          · skip
            have hgt : ¬ sc (grN sc wo k) < sc k := fun h => c47 ((lg_cmp_gt _ _).mpr ((pk_lLT (by omega) (by omega)).mpr h))
            refine lv_iload_n hx hb dX3_greatest_50 rfl (lv_at hl 0 rfl) ?_
            refine lv_if_eq (tgt := 72) hx hb dX3_greatest_51 (by decide) (fun c51 => ?_) (fun c51 => ?_)
            · skip
              have hno : ¬ (sc (grN sc wo k) < sc k ∨ (sc k = sc (grN sc wo k) ∧ wo (grN sc wo k) < wo k)) := fun h => h.elim hgt (fun h2 => hse h2.1)
              rw [grN_f hk1 hno] at hl
              obtain ⟨x72, ex72⟩ : ∃ y : Int32, y = (nI k) + 1 := ⟨_, rfl⟩
              refine lv_iinc (v := x72) (lv' := [(2, .int x72), (3, .int 0), (1, .int (nI (grN sc wo (k + 1)))), (0, .ref h_)]) hx hb dX3_greatest_72 hl (k := 1) rfl (by rw [ex72]; rfl) (by decide) rfl (fun ls hl => ?_)
              obtain rfl : x72 = nI (k + 1) := by rw [ex72]; exact nI_1 _
              refine lv_goto (tgt := 4) hx hb dX3_greatest_75 (by decide) ?_
              exact ih_4 (k + 1) (by omega) (by omega) (by omega) H locs ls hP hD hS (lv_sub hl [0, 2, 3] rfl)
            · skip
              exact absurd rfl c51
        · skip
          have hse : sc k = sc (grN sc wo k) := (pk_lEQ (by omega) (by omega)).mp ((lg_cmp_eq _ _).mp c25)
          refine lv_iconst (v := 1) hx hb dX3_greatest_28 (by decide) ?_
          refine lv_goto (tgt := 33) hx hb dX3_greatest_29 (by decide) ?_
          refine lv_istore_n (lv' := [(3, .int 1), (2, .int (nI k)), (1, .int (nI (grN sc wo k))), (0, .ref h_)]) hx hb dX3_greatest_33 rfl hl (by decide) rfl (fun ls hl => ?_)
          refine lv_aload_n hx hb dX3_greatest_34 rfl (lv_at hl 3 rfl) ?_
          refine va_get (D := D) (ci := 4) (v := .ref sc_) (C := RX3) (T := TX3) (N := 11) hx hb hts in_X3 hown hK hP 0 rfl rfl 10 (by decide) f_57 (fun _ h9 => h9) rfl dX3_greatest_35 ?_
          refine lv_iload_n hx hb dX3_greatest_38 rfl (lv_at hl 1 rfl) ?_
          refine va_lald hx hb hK hP (2) 1 rfl rfl (by first | exact vp_in_nI (by omega) (by omega) | assumption) dX3_greatest_39 ?_
          refine lv_topl (fun x39 ex39 => ?_)
          rw [nI_clamp (by omega)] at ex39
          obtain rfl : x39 = lN (sc k) := by exact ex39
          refine lv_aload_n hx hb dX3_greatest_40 rfl (lv_at hl 3 rfl) ?_
          refine va_get (D := D) (ci := 4) (v := .ref sc_) (C := RX3) (T := TX3) (N := 11) hx hb hts in_X3 hown hK hP 0 rfl rfl 10 (by decide) f_57 (fun _ h9 => h9) rfl dX3_greatest_41 ?_
          refine lv_iload_n hx hb dX3_greatest_44 rfl (lv_at hl 2 rfl) ?_
          refine va_lald hx hb hK hP (2) 1 rfl rfl (by first | exact vp_in_nI (by omega) (by omega) | assumption) dX3_greatest_45 ?_
          refine lv_topl (fun x45 ex45 => ?_)
          rw [nI_clamp (by omega)] at ex45
          obtain rfl : x45 = lN (sc (grN sc wo k)) := by exact ex45
          refine W.lcmp hx hb dX3_greatest_46 ?_
          refine lv_if_gt (tgt := 70) hx hb dX3_greatest_47 (by decide) (fun c47 => ?_) (fun c47 => ?_)
          · skip
            have hyes : sc (grN sc wo k) < sc k ∨ (sc k = sc (grN sc wo k) ∧ wo (grN sc wo k) < wo k) := Or.inl ((pk_lLT (by omega) (by omega)).mp ((lg_cmp_gt _ _).mp c47))
            refine lv_iload_n hx hb dX3_greatest_70 rfl (lv_at hl 1 rfl) ?_
            refine lv_istore_n (lv' := [(1, .int (nI k)), (3, .int 1), (2, .int (nI k)), (0, .ref h_)]) hx hb dX3_greatest_71 rfl hl (by decide) rfl (fun ls hl => ?_)
            have hl := gr_loc hl (grN_t hk1 hyes)
            obtain ⟨x72, ex72⟩ : ∃ y : Int32, y = (nI k) + 1 := ⟨_, rfl⟩
            refine lv_iinc (v := x72) (lv' := [(2, .int x72), (1, .int (nI (grN sc wo (k + 1)))), (3, .int 1), (0, .ref h_)]) hx hb dX3_greatest_72 hl (k := 2) rfl (by rw [ex72]; rfl) (by decide) rfl (fun ls hl => ?_)
            obtain rfl : x72 = nI (k + 1) := by rw [ex72]; exact nI_1 _
            refine lv_goto (tgt := 4) hx hb dX3_greatest_75 (by decide) ?_
            exact ih_4 (k + 1) (by omega) (by omega) (by omega) H locs ls hP hD hS (lv_sub hl [0, 1, 3] rfl)
          · skip
            have hgt : ¬ sc (grN sc wo k) < sc k := fun h => c47 ((lg_cmp_gt _ _).mpr ((pk_lLT (by omega) (by omega)).mpr h))
            refine lv_iload_n hx hb dX3_greatest_50 rfl (lv_at hl 0 rfl) ?_
            refine lv_if_eq (tgt := 72) hx hb dX3_greatest_51 (by decide) (fun c51 => ?_) (fun c51 => ?_)
            · skip
              exact absurd c51 (by decide)
            · skip
              refine lv_aload_n hx hb dX3_greatest_54 rfl (lv_at hl 3 rfl) ?_
              refine va_get (D := D) (ci := 4) (v := .ref wo_) (C := RX3) (T := TX3) (N := 11) hx hb hts in_X3 hown hK hP 0 rfl rfl 4 (by decide) f_36 (fun _ h9 => h9) rfl dX3_greatest_55 ?_
              refine lv_iload_n hx hb dX3_greatest_58 rfl (lv_at hl 1 rfl) ?_
              refine va_lald hx hb hK hP (1) 1 rfl rfl (by first | exact vp_in_nI (by omega) (by omega) | assumption) dX3_greatest_59 ?_
              refine lv_topl (fun x59 ex59 => ?_)
              rw [nI_clamp (by omega)] at ex59
              obtain rfl : x59 = wo k := by exact ex59
              refine lv_aload_n hx hb dX3_greatest_60 rfl (lv_at hl 3 rfl) ?_
              refine va_get (D := D) (ci := 4) (v := .ref wo_) (C := RX3) (T := TX3) (N := 11) hx hb hts in_X3 hown hK hP 0 rfl rfl 4 (by decide) f_36 (fun _ h9 => h9) rfl dX3_greatest_61 ?_
              refine lv_iload_n hx hb dX3_greatest_64 rfl (lv_at hl 2 rfl) ?_
              refine va_lald hx hb hK hP (1) 1 rfl rfl (by first | exact vp_in_nI (by omega) (by omega) | assumption) dX3_greatest_65 ?_
              refine lv_topl (fun x65 ex65 => ?_)
              rw [nI_clamp (by omega)] at ex65
              obtain rfl : x65 = wo (grN sc wo k) := by exact ex65
              refine W.lcmp hx hb dX3_greatest_66 ?_
              refine lv_if_le (tgt := 72) hx hb dX3_greatest_67 (by decide) (fun c67 => ?_) (fun c67 => ?_)
              · skip
                have hno : ¬ (sc (grN sc wo k) < sc k ∨ (sc k = sc (grN sc wo k) ∧ wo (grN sc wo k) < wo k)) := fun h => h.elim hgt (fun h2 => by have := (lg_cmp_le _ _).mp c67; rw [Int64.le_iff_toInt_le] at this; have h3 := h2.2; rw [Int64.lt_iff_toInt_lt] at h3; omega)
                rw [grN_f hk1 hno] at hl
                obtain ⟨x72, ex72⟩ : ∃ y : Int32, y = (nI k) + 1 := ⟨_, rfl⟩
                refine lv_iinc (v := x72) (lv' := [(2, .int x72), (3, .int 1), (1, .int (nI (grN sc wo (k + 1)))), (0, .ref h_)]) hx hb dX3_greatest_72 hl (k := 1) rfl (by rw [ex72]; rfl) (by decide) rfl (fun ls hl => ?_)
                obtain rfl : x72 = nI (k + 1) := by rw [ex72]; exact nI_1 _
                refine lv_goto (tgt := 4) hx hb dX3_greatest_75 (by decide) ?_
                exact ih_4 (k + 1) (by omega) (by omega) (by omega) H locs ls hP hD hS (lv_sub hl [0, 2, 3] rfl)
              · skip
                have hyes : sc (grN sc wo k) < sc k ∨ (sc k = sc (grN sc wo k) ∧ wo (grN sc wo k) < wo k) := Or.inr ⟨hse, by have := mt (lg_cmp_le _ _).mpr c67; rw [Int64.le_iff_toInt_le] at this; rw [Int64.lt_iff_toInt_lt]; omega⟩
                refine lv_iload_n hx hb dX3_greatest_70 rfl (lv_at hl 1 rfl) ?_
                refine lv_istore_n (lv' := [(1, .int (nI k)), (3, .int 1), (2, .int (nI k)), (0, .ref h_)]) hx hb dX3_greatest_71 rfl hl (by decide) rfl (fun ls hl => ?_)
                have hl := gr_loc hl (grN_t hk1 hyes)
                obtain ⟨x72, ex72⟩ : ∃ y : Int32, y = (nI k) + 1 := ⟨_, rfl⟩
                refine lv_iinc (v := x72) (lv' := [(2, .int x72), (1, .int (nI (grN sc wo (k + 1)))), (3, .int 1), (0, .ref h_)]) hx hb dX3_greatest_72 hl (k := 2) rfl (by rw [ex72]; rfl) (by decide) rfl (fun ls hl => ?_)
                obtain rfl : x72 = nI (k + 1) := by rw [ex72]; exact nI_1 _
                refine lv_goto (tgt := 4) hx hb dX3_greatest_75 (by decide) ?_
                exact ih_4 (k + 1) (by omega) (by omega) (by omega) H locs ls hP hD hS (lv_sub hl [0, 1, 3] rfl)
  exact L_4 _ 1 hK1 (Nat.le_refl _) (Nat.lt_succ_self _) H locs ls hP hD hS (lv_sub hl [0, 1, 2] rfl)
end
