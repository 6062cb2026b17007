section
/-! ===== BEGIN words of one list among another's, by their places ===== -/
theorem goodIn_r {big : List Cond} (ws : List Cond) (ps : List Nat) (hp : ws = ps.filterMap (fun i => big[i]?)) (h : ws.all goodWord = true) : GoodIn big ws := by
  intro w hw
  have h1 := List.all_eq_true.mp h w hw
  rw [hp] at hw
  obtain ⟨i, -, hi⟩ := List.mem_filterMap.mp hw
  have hm : w ∈ big := by first | exact List.mem_of_getElem? hi | exact List.getElem?_mem hi
  exact ⟨hm, good_of_word h1⟩
theorem goodIn_app {big a b : List Cond} (ha : GoodIn big a) (hb : GoodIn big b) : GoodIn big (a ++ b) := fun w h => (List.mem_append.mp h).elim (ha w) (hb w)
theorem goodIn_ca {big a b : List Cond} {c : Cond} (ha : GoodIn big (c :: a)) (hb : GoodIn big b) : GoodIn big (c :: (a ++ b)) := fun w h => (List.mem_cons.mp h).elim (fun e => ha w (List.mem_cons.mpr (Or.inl e))) (fun h => (List.mem_append.mp h).elim (fun h => ha w (List.mem_cons.mpr (Or.inr h))) (hb w))
theorem goodIn_sub {big ws : List Cond} (hm : ∀ w ∈ ws, w ∈ big) (h : ws.all goodWord = true) : GoodIn big ws := fun w hw => ⟨hm w hw, good_of_word (List.all_eq_true.mp h w hw)⟩
/-! ===== END ===== -/
-- ===== PART A: goes FIRST, ahead of the names: the tables' words, and 'selects' of the private methods out of them =====
/-- a private method of a class that the tables say can be made, by its rows of tables_1 -/
def lw_okq (q : MethodName × Nat) : Prop := (q.1.cls ≠ "java/lang/invoke/MethodHandle" ∧ q.1.cls ≠ "java/lang/invoke/VarHandle") ∧ Cond.instantiable q.1.cls q.2 ∈ tables_1 ∧ Cond.privateMethod q.1 ∈ tables_1 ∧ Cond.instanceMethod q.1 ∈ tables_1
theorem lw_p0 : lw_okq (⟨"ForwardHeap$Collector", "see", "(LForwardHeap$HeapObject;)V"⟩, 8) := ⟨⟨by decide +kernel, by decide +kernel⟩, List.mem_of_getElem? (i := 24) (by decide +kernel), List.mem_of_getElem? (i := 162) (by decide +kernel), List.mem_of_getElem? (i := 163) (by decide +kernel)⟩
theorem lw_p1 : lw_okq (⟨"ForwardHeap$Collector", "markNext", "()V"⟩, 8) := ⟨⟨by decide +kernel, by decide +kernel⟩, List.mem_of_getElem? (i := 24) (by decide +kernel), List.mem_of_getElem? (i := 183) (by decide +kernel), List.mem_of_getElem? (i := 184) (by decide +kernel)⟩
theorem lw_p2 : lw_okq (⟨"ForwardHeap$Collector", "chooseSet", "()V"⟩, 8) := ⟨⟨by decide +kernel, by decide +kernel⟩, List.mem_of_getElem? (i := 24) (by decide +kernel), List.mem_of_getElem? (i := 191) (by decide +kernel), List.mem_of_getElem? (i := 192) (by decide +kernel)⟩
theorem lw_p3 : lw_okq (⟨"ForwardHeap$Collector", "moveNext", "()V"⟩, 8) := ⟨⟨by decide +kernel, by decide +kernel⟩, List.mem_of_getElem? (i := 24) (by decide +kernel), List.mem_of_getElem? (i := 207) (by decide +kernel), List.mem_of_getElem? (i := 208) (by decide +kernel)⟩
theorem lw_p4 : lw_okq (⟨"ForwardHeap$Collector", "moveOrFail", "(LForwardHeap$HeapObject;)V"⟩, 8) := ⟨⟨by decide +kernel, by decide +kernel⟩, List.mem_of_getElem? (i := 24) (by decide +kernel), List.mem_of_getElem? (i := 215) (by decide +kernel), List.mem_of_getElem? (i := 216) (by decide +kernel)⟩
theorem lw_p5 : lw_okq (⟨"ForwardHeap$Collector", "updateNext", "()V"⟩, 8) := ⟨⟨by decide +kernel, by decide +kernel⟩, List.mem_of_getElem? (i := 24) (by decide +kernel), List.mem_of_getElem? (i := 240) (by decide +kernel), List.mem_of_getElem? (i := 241) (by decide +kernel)⟩
theorem lw_p6 : lw_okq (⟨"ForwardHeap$Collector", "endCycle", "()V"⟩, 8) := ⟨⟨by decide +kernel, by decide +kernel⟩, List.mem_of_getElem? (i := 24) (by decide +kernel), List.mem_of_getElem? (i := 244) (by decide +kernel), List.mem_of_getElem? (i := 245) (by decide +kernel)⟩
theorem lw_p7 : lw_okq (⟨"java/lang/Throwable", "fillInStackTrace", "(I)Ljava/lang/Throwable;"⟩, 6) := ⟨⟨by decide +kernel, by decide +kernel⟩, List.mem_of_getElem? (i := 315) (by decide +kernel), List.mem_of_getElem? (i := 313) (by decide +kernel), List.mem_of_getElem? (i := 314) (by decide +kernel)⟩
theorem lw_p8 : lw_okq (⟨"ForwardHeap", "objectIn", "(I)LForwardHeap$HeapObject;"⟩, 2) := ⟨⟨by decide +kernel, by decide +kernel⟩, List.mem_of_getElem? (i := 16) (by decide +kernel), List.mem_of_getElem? (i := 436) (by decide +kernel), List.mem_of_getElem? (i := 437) (by decide +kernel)⟩
theorem lw_p9 : lw_okq (⟨"ForwardHeap$Collector", "mayMove", "(LForwardHeap$HeapObject;)Z"⟩, 8) := ⟨⟨by decide +kernel, by decide +kernel⟩, List.mem_of_getElem? (i := 24) (by decide +kernel), List.mem_of_getElem? (i := 474) (by decide +kernel), List.mem_of_getElem? (i := 475) (by decide +kernel)⟩
theorem lw_p10 : lw_okq (⟨"ForwardHeapModel", "good", "(ZZ)Z"⟩, 22) := ⟨⟨by decide +kernel, by decide +kernel⟩, List.mem_of_getElem? (i := 517) (by decide +kernel), List.mem_of_getElem? (i := 603) (by decide +kernel), List.mem_of_getElem? (i := 604) (by decide +kernel)⟩
theorem lw_p11 : lw_okq (⟨"ForwardHeapModel", "hasActive", "(I)Z"⟩, 22) := ⟨⟨by decide +kernel, by decide +kernel⟩, List.mem_of_getElem? (i := 517) (by decide +kernel), List.mem_of_getElem? (i := 607) (by decide +kernel), List.mem_of_getElem? (i := 608) (by decide +kernel)⟩
theorem lw_p12 : lw_okq (⟨"ForwardHeapModel", "withState", "(I)I"⟩, 22) := ⟨⟨by decide +kernel, by decide +kernel⟩, List.mem_of_getElem? (i := 517) (by decide +kernel), List.mem_of_getElem? (i := 611) (by decide +kernel), List.mem_of_getElem? (i := 612) (by decide +kernel)⟩
theorem lw_p13 : lw_okq (⟨"ForwardHeapModel", "whole", "()V"⟩, 22) := ⟨⟨by decide +kernel, by decide +kernel⟩, List.mem_of_getElem? (i := 517) (by decide +kernel), List.mem_of_getElem? (i := 615) (by decide +kernel), List.mem_of_getElem? (i := 616) (by decide +kernel)⟩
theorem lw_p14 : lw_okq (⟨"ForwardHeapModel", "finish", "()V"⟩, 22) := ⟨⟨by decide +kernel, by decide +kernel⟩, List.mem_of_getElem? (i := 517) (by decide +kernel), List.mem_of_getElem? (i := 619) (by decide +kernel), List.mem_of_getElem? (i := 620) (by decide +kernel)⟩
theorem lw_p15 : lw_okq (⟨"ForwardHeapModel", "unit", "()V"⟩, 22) := ⟨⟨by decide +kernel, by decide +kernel⟩, List.mem_of_getElem? (i := 517) (by decide +kernel), List.mem_of_getElem? (i := 623) (by decide +kernel), List.mem_of_getElem? (i := 624) (by decide +kernel)⟩
def lw_privs_1 : List (MethodName × Nat) := [(⟨"ForwardHeap$Collector", "see", "(LForwardHeap$HeapObject;)V"⟩, 8), (⟨"ForwardHeap$Collector", "markNext", "()V"⟩, 8), (⟨"ForwardHeap$Collector", "chooseSet", "()V"⟩, 8), (⟨"ForwardHeap$Collector", "moveNext", "()V"⟩, 8), (⟨"ForwardHeap$Collector", "moveOrFail", "(LForwardHeap$HeapObject;)V"⟩, 8), (⟨"ForwardHeap$Collector", "updateNext", "()V"⟩, 8), (⟨"ForwardHeap$Collector", "endCycle", "()V"⟩, 8), (⟨"java/lang/Throwable", "fillInStackTrace", "(I)Ljava/lang/Throwable;"⟩, 6), (⟨"ForwardHeap", "objectIn", "(I)LForwardHeap$HeapObject;"⟩, 2), (⟨"ForwardHeap$Collector", "mayMove", "(LForwardHeap$HeapObject;)Z"⟩, 8), (⟨"ForwardHeapModel", "good", "(ZZ)Z"⟩, 22), (⟨"ForwardHeapModel", "hasActive", "(I)Z"⟩, 22), (⟨"ForwardHeapModel", "withState", "(I)I"⟩, 22), (⟨"ForwardHeapModel", "whole", "()V"⟩, 22), (⟨"ForwardHeapModel", "finish", "()V"⟩, 22), (⟨"ForwardHeapModel", "unit", "()V"⟩, 22)]
theorem lw_r1 : ∀ q ∈ lw_privs_1, lw_okq q := List.forall_mem_cons.mpr ⟨lw_p0, List.forall_mem_cons.mpr ⟨lw_p1, List.forall_mem_cons.mpr ⟨lw_p2, List.forall_mem_cons.mpr ⟨lw_p3, List.forall_mem_cons.mpr ⟨lw_p4, List.forall_mem_cons.mpr ⟨lw_p5, List.forall_mem_cons.mpr ⟨lw_p6, List.forall_mem_cons.mpr ⟨lw_p7, List.forall_mem_cons.mpr ⟨lw_p8, List.forall_mem_cons.mpr ⟨lw_p9, List.forall_mem_cons.mpr ⟨lw_p10, List.forall_mem_cons.mpr ⟨lw_p11, List.forall_mem_cons.mpr ⟨lw_p12, List.forall_mem_cons.mpr ⟨lw_p13, List.forall_mem_cons.mpr ⟨lw_p14, List.forall_mem_cons.mpr ⟨lw_p15, fun _ h => absurd h List.not_mem_nil⟩⟩⟩⟩⟩⟩⟩⟩⟩⟩⟩⟩⟩⟩⟩⟩
theorem lw_p16 : lw_okq (⟨"ForwardHeapModel", "mark", "()V"⟩, 22) := ⟨⟨by decide +kernel, by decide +kernel⟩, List.mem_of_getElem? (i := 517) (by decide +kernel), List.mem_of_getElem? (i := 627) (by decide +kernel), List.mem_of_getElem? (i := 628) (by decide +kernel)⟩
theorem lw_p17 : lw_okq (⟨"ForwardHeapModel", "see", "(I)V"⟩, 22) := ⟨⟨by decide +kernel, by decide +kernel⟩, List.mem_of_getElem? (i := 517) (by decide +kernel), List.mem_of_getElem? (i := 631) (by decide +kernel), List.mem_of_getElem? (i := 632) (by decide +kernel)⟩
theorem lw_p18 : lw_okq (⟨"ForwardHeapModel", "seenIn", "(I)I"⟩, 22) := ⟨⟨by decide +kernel, by decide +kernel⟩, List.mem_of_getElem? (i := 517) (by decide +kernel), List.mem_of_getElem? (i := 635) (by decide +kernel), List.mem_of_getElem? (i := 636) (by decide +kernel)⟩
theorem lw_p19 : lw_okq (⟨"ForwardHeapModel", "moveOne", "()V"⟩, 22) := ⟨⟨by decide +kernel, by decide +kernel⟩, List.mem_of_getElem? (i := 517) (by decide +kernel), List.mem_of_getElem? (i := 639) (by decide +kernel), List.mem_of_getElem? (i := 640) (by decide +kernel)⟩
theorem lw_p20 : lw_okq (⟨"ForwardHeapModel", "isToMove", "(I)Z"⟩, 22) := ⟨⟨by decide +kernel, by decide +kernel⟩, List.mem_of_getElem? (i := 517) (by decide +kernel), List.mem_of_getElem? (i := 643) (by decide +kernel), List.mem_of_getElem? (i := 644) (by decide +kernel)⟩
theorem lw_p21 : lw_okq (⟨"ForwardHeapModel", "place", "(I)I"⟩, 22) := ⟨⟨by decide +kernel, by decide +kernel⟩, List.mem_of_getElem? (i := 517) (by decide +kernel), List.mem_of_getElem? (i := 647) (by decide +kernel), List.mem_of_getElem? (i := 648) (by decide +kernel)⟩
theorem lw_p22 : lw_okq (⟨"ForwardHeapModel", "carry", "(I)V"⟩, 22) := ⟨⟨by decide +kernel, by decide +kernel⟩, List.mem_of_getElem? (i := 517) (by decide +kernel), List.mem_of_getElem? (i := 651) (by decide +kernel), List.mem_of_getElem? (i := 652) (by decide +kernel)⟩
theorem lw_p23 : lw_okq (⟨"ForwardHeapModel", "update", "()V"⟩, 22) := ⟨⟨by decide +kernel, by decide +kernel⟩, List.mem_of_getElem? (i := 517) (by decide +kernel), List.mem_of_getElem? (i := 655) (by decide +kernel), List.mem_of_getElem? (i := 656) (by decide +kernel)⟩
theorem lw_p24 : lw_okq (⟨"ForwardHeapModel", "start", "()V"⟩, 22) := ⟨⟨by decide +kernel, by decide +kernel⟩, List.mem_of_getElem? (i := 517) (by decide +kernel), List.mem_of_getElem? (i := 659) (by decide +kernel), List.mem_of_getElem? (i := 660) (by decide +kernel)⟩
theorem lw_p25 : lw_okq (⟨"ForwardHeapModel", "hasField", "(IIII)Z"⟩, 22) := ⟨⟨by decide +kernel, by decide +kernel⟩, List.mem_of_getElem? (i := 517) (by decide +kernel), List.mem_of_getElem? (i := 675) (by decide +kernel), List.mem_of_getElem? (i := 676) (by decide +kernel)⟩
theorem lw_p26 : lw_okq (⟨"ForwardHeapModel", "tagOf", "(I)I"⟩, 22) := ⟨⟨by decide +kernel, by decide +kernel⟩, List.mem_of_getElem? (i := 517) (by decide +kernel), List.mem_of_getElem? (i := 679) (by decide +kernel), List.mem_of_getElem? (i := 680) (by decide +kernel)⟩
def lw_privs_2 : List (MethodName × Nat) := [(⟨"ForwardHeapModel", "mark", "()V"⟩, 22), (⟨"ForwardHeapModel", "see", "(I)V"⟩, 22), (⟨"ForwardHeapModel", "seenIn", "(I)I"⟩, 22), (⟨"ForwardHeapModel", "moveOne", "()V"⟩, 22), (⟨"ForwardHeapModel", "isToMove", "(I)Z"⟩, 22), (⟨"ForwardHeapModel", "place", "(I)I"⟩, 22), (⟨"ForwardHeapModel", "carry", "(I)V"⟩, 22), (⟨"ForwardHeapModel", "update", "()V"⟩, 22), (⟨"ForwardHeapModel", "start", "()V"⟩, 22), (⟨"ForwardHeapModel", "hasField", "(IIII)Z"⟩, 22), (⟨"ForwardHeapModel", "tagOf", "(I)I"⟩, 22)]
theorem lw_r2 : ∀ q ∈ lw_privs_2, lw_okq q := List.forall_mem_cons.mpr ⟨lw_p16, List.forall_mem_cons.mpr ⟨lw_p17, List.forall_mem_cons.mpr ⟨lw_p18, List.forall_mem_cons.mpr ⟨lw_p19, List.forall_mem_cons.mpr ⟨lw_p20, List.forall_mem_cons.mpr ⟨lw_p21, List.forall_mem_cons.mpr ⟨lw_p22, List.forall_mem_cons.mpr ⟨lw_p23, List.forall_mem_cons.mpr ⟨lw_p24, List.forall_mem_cons.mpr ⟨lw_p25, List.forall_mem_cons.mpr ⟨lw_p26, fun _ h => absurd h List.not_mem_nil⟩⟩⟩⟩⟩⟩⟩⟩⟩⟩⟩
def lw_privs : List (MethodName × Nat) := lw_privs_1 ++ (lw_privs_2)
def lw_tbl : List Cond := k2_sels lw_privs ++ tables_1
theorem lw_privs_ok : ∀ q ∈ lw_privs, lw_okq q := by
  show ∀ q ∈ lw_privs_1 ++ (lw_privs_2), lw_okq q
  exact List.forall_mem_append.mpr ⟨lw_r1, lw_r2⟩
def RX0 : String := "ForwardHeap$Collector"
def TX0 : u_T := fun k => match k with
  | 0 => ("ForwardHeap$Collector", "memory", "LForwardHeap$Memory;", true)
  | 1 => ("ForwardHeap$Collector", "threshold", "I", true)
  | 2 => ("ForwardHeap$Collector", "waiting", "LForwardHeap$WaitingRow;", true)
  | 3 => ("ForwardHeap$Collector", "phase", "I", false)
  | 4 => ("ForwardHeap$Collector", "cycle", "I", false)
  | 5 => ("ForwardHeap$Collector", "nextToUpdate", "I", false)
  | 6 => ("ForwardHeap$Collector", "movedInAll", "I", false)
  | _ => ("ForwardHeap$Collector", "failedInAll", "I", false)
def tyX0 : Nat → FieldType := fun k => match k with
  | 0 => .object "ForwardHeap$Memory"
  | 1 => .int
  | 2 => .object "ForwardHeap$WaitingRow"
  | 3 => .int
  | 4 => .int
  | 5 => .int
  | 6 => .int
  | _ => .int
abbrev wsX00 : List Cond := u_ws RX0 TX0 8
theorem nmX0 : ∀ a, a < 8 → ∀ b, b < 8 → a ≠ b → (TX0 a).2.1 ≠ (TX0 b).2.1 := by decide +kernel
theorem tyX0_ok : ∀ k, k < 8 → parseFieldDescriptor (TX0 k).2.2.1 = some (tyX0 k) := by decide +kernel
abbrev cX0_init : ByteArray := prog_2_method_1_code
def yX0_init : MethodName := ⟨RX0, "<init>", "(II)V"⟩
abbrev cX0_startCycle : ByteArray := prog_2_method_2_code
def yX0_startCycle : MethodName := ⟨RX0, "startCycle", "()V"⟩
abbrev cX0_collectWhole : ByteArray := prog_2_method_3_code
def yX0_collectWhole : MethodName := ⟨RX0, "collectWhole", "()V"⟩
abbrev cX0_runUnits : ByteArray := prog_2_method_4_code
def yX0_runUnits : MethodName := ⟨RX0, "runUnits", "(I)V"⟩
abbrev cX0_welcome : ByteArray := prog_2_method_5_code
def yX0_welcome : MethodName := ⟨RX0, "welcome", "(LForwardHeap$HeapObject;)V"⟩
abbrev cX0_prepareWrite : ByteArray := prog_2_method_6_code
def yX0_prepareWrite : MethodName := ⟨RX0, "prepareWrite", "(LForwardHeap$HeapObject;LForwardHeap$HeapObject;)V"⟩
abbrev cX0_see : ByteArray := prog_2_method_7_code
def yX0_see : MethodName := ⟨RX0, "see", "(LForwardHeap$HeapObject;)V"⟩
abbrev cX0_markNext : ByteArray := prog_2_method_8_code
def yX0_markNext : MethodName := ⟨RX0, "markNext", "()V"⟩
abbrev cX0_chooseSet : ByteArray := prog_2_method_9_code
def yX0_chooseSet : MethodName := ⟨RX0, "chooseSet", "()V"⟩
abbrev cX0_moveNext : ByteArray := prog_2_method_10_code
def yX0_moveNext : MethodName := ⟨RX0, "moveNext", "()V"⟩
abbrev cX0_mayMove : ByteArray := prog_2_method_11_code
def yX0_mayMove : MethodName := ⟨RX0, "mayMove", "(LForwardHeap$HeapObject;)Z"⟩
abbrev cX0_moveOrFail : ByteArray := prog_2_method_12_code
def yX0_moveOrFail : MethodName := ⟨RX0, "moveOrFail", "(LForwardHeap$HeapObject;)V"⟩
abbrev cX0_updateNext : ByteArray := prog_2_method_13_code
def yX0_updateNext : MethodName := ⟨RX0, "updateNext", "()V"⟩
abbrev cX0_endCycle : ByteArray := prog_2_method_14_code
def yX0_endCycle : MethodName := ⟨RX0, "endCycle", "()V"⟩
def RX1 : String := "ForwardHeap$HeapObject"
def TX1 : u_T := fun k => match k with
  | 0 => ("ForwardHeap$HeapObject", "tag", "I", true)
  | 1 => ("ForwardHeap$HeapObject", "fields", "[LForwardHeap$HeapObject;", true)
  | 2 => ("ForwardHeap$HeapObject", "home", "LForwardHeap$Region;", false)
  | 3 => ("ForwardHeap$HeapObject", "offset", "I", false)
  | 4 => ("ForwardHeap$HeapObject", "seenIn", "I", false)
  | 5 => ("ForwardHeap$HeapObject", "failedIn", "I", false)
  | _ => ("ForwardHeap$HeapObject", "nextWaiting", "LForwardHeap$HeapObject;", false)
def tyX1 : Nat → FieldType := fun k => match k with
  | 0 => .int
  | 1 => .array (.object "ForwardHeap$HeapObject")
  | 2 => .object "ForwardHeap$Region"
  | 3 => .int
  | 4 => .int
  | 5 => .int
  | _ => .object "ForwardHeap$HeapObject"
abbrev wsX10 : List Cond := u_ws RX1 TX1 7
theorem nmX1 : ∀ a, a < 7 → ∀ b, b < 7 → a ≠ b → (TX1 a).2.1 ≠ (TX1 b).2.1 := by decide +kernel
theorem tyX1_ok : ∀ k, k < 7 → parseFieldDescriptor (TX1 k).2.2.1 = some (tyX1 k) := by decide +kernel
abbrev cX1_init : ByteArray := prog_3_method_1_code
def yX1_init : MethodName := ⟨RX1, "<init>", "(LForwardHeap$Region;II)V"⟩
abbrev cX1_words : ByteArray := prog_3_method_2_code
def yX1_words : MethodName := ⟨RX1, "words", "()I"⟩
def RX2 : String := "ForwardHeap$Memory"
def TX2 : u_T := fun k => match k with
  | 0 => ("ForwardHeap$Memory", "registers", "[LForwardHeap$HeapObject;", true)
  | 1 => ("ForwardHeap$Memory", "regions", "[LForwardHeap$Region;", true)
  | 2 => ("ForwardHeap$Memory", "active", "LForwardHeap$Region;", false)
  | _ => ("ForwardHeap$Memory", "target", "LForwardHeap$Region;", false)
def tyX2 : Nat → FieldType := fun k => match k with
  | 0 => .array (.object "ForwardHeap$HeapObject")
  | 1 => .array (.object "ForwardHeap$Region")
  | 2 => .object "ForwardHeap$Region"
  | _ => .object "ForwardHeap$Region"
abbrev wsX20 : List Cond := u_ws RX2 TX2 4
theorem nmX2 : ∀ a, a < 4 → ∀ b, b < 4 → a ≠ b → (TX2 a).2.1 ≠ (TX2 b).2.1 := by decide +kernel
theorem tyX2_ok : ∀ k, k < 4 → parseFieldDescriptor (TX2 k).2.2.1 = some (tyX2 k) := by decide +kernel
abbrev cX2_init : ByteArray := prog_4_method_1_code
def yX2_init : MethodName := ⟨RX2, "<init>", "(I)V"⟩
abbrev cX2_leastFree : ByteArray := prog_4_method_2_code
def yX2_leastFree : MethodName := ⟨RX2, "leastFree", "()LForwardHeap$Region;"⟩
abbrev cX2_countFree : ByteArray := prog_4_method_3_code
def yX2_countFree : MethodName := ⟨RX2, "countFree", "()I"⟩
abbrev cX2_activeWithRoom : ByteArray := prog_4_method_4_code
def yX2_activeWithRoom : MethodName := ⟨RX2, "activeWithRoom", "(I)LForwardHeap$Region;"⟩
abbrev cX2_targetWithRoom : ByteArray := prog_4_method_5_code
def yX2_targetWithRoom : MethodName := ⟨RX2, "targetWithRoom", "(I)LForwardHeap$Region;"⟩
abbrev cX2_closeTarget : ByteArray := prog_4_method_6_code
def yX2_closeTarget : MethodName := ⟨RX2, "closeTarget", "()V"⟩
def RX3 : String := "ForwardHeap$Region"
def TX3 : u_T := fun k => match k with
  | 0 => ("ForwardHeap$Region", "number", "I", true)
  | 1 => ("ForwardHeap$Region", "starts", "[LForwardHeap$HeapObject;", true)
  | 2 => ("ForwardHeap$Region", "kind", "I", false)
  | 3 => ("ForwardHeap$Region", "used", "I", false)
  | 4 => ("ForwardHeap$Region", "passed", "I", false)
  | _ => ("ForwardHeap$Region", "keepsFailed", "Z", false)
def tyX3 : Nat → FieldType := fun k => match k with
  | 0 => .int
  | 1 => .array (.object "ForwardHeap$HeapObject")
  | 2 => .int
  | 3 => .int
  | 4 => .int
  | _ => .boolean
abbrev wsX30 : List Cond := u_ws RX3 TX3 6
theorem nmX3 : ∀ a, a < 6 → ∀ b, b < 6 → a ≠ b → (TX3 a).2.1 ≠ (TX3 b).2.1 := by decide +kernel
theorem tyX3_ok : ∀ k, k < 6 → parseFieldDescriptor (TX3 k).2.2.1 = some (tyX3 k) := by decide +kernel
abbrev cX3_init : ByteArray := prog_5_method_1_code
def yX3_init : MethodName := ⟨RX3, "<init>", "(I)V"⟩
abbrev cX3_hasRoom : ByteArray := prog_5_method_2_code
def yX3_hasRoom : MethodName := ⟨RX3, "hasRoom", "(I)Z"⟩
abbrev cX3_append : ByteArray := prog_5_method_3_code
def yX3_append : MethodName := ⟨RX3, "append", "(LForwardHeap$HeapObject;)V"⟩
abbrev cX3_seenWords : ByteArray := prog_5_method_4_code
def yX3_seenWords : MethodName := ⟨RX3, "seenWords", "(I)I"⟩
abbrev cX3_enterSet : ByteArray := prog_5_method_5_code
def yX3_enterSet : MethodName := ⟨RX3, "enterSet", "()V"⟩
abbrev cX3_nextToMove : ByteArray := prog_5_method_6_code
def yX3_nextToMove : MethodName := ⟨RX3, "nextToMove", "(I)LForwardHeap$HeapObject;"⟩
abbrev cX3_leaveSet : ByteArray := prog_5_method_7_code
def yX3_leaveSet : MethodName := ⟨RX3, "leaveSet", "()V"⟩
def RX4 : String := "ForwardHeap$WaitingRow"
def TX4 : u_T := fun k => match k with
  | 0 => ("ForwardHeap$WaitingRow", "first", "LForwardHeap$HeapObject;", false)
  | 1 => ("ForwardHeap$WaitingRow", "last", "LForwardHeap$HeapObject;", false)
  | _ => ("ForwardHeap$WaitingRow", "size", "I", false)
def tyX4 : Nat → FieldType := fun k => match k with
  | 0 => .object "ForwardHeap$HeapObject"
  | 1 => .object "ForwardHeap$HeapObject"
  | _ => .int
abbrev wsX40 : List Cond := u_ws RX4 TX4 3
theorem nmX4 : ∀ a, a < 3 → ∀ b, b < 3 → a ≠ b → (TX4 a).2.1 ≠ (TX4 b).2.1 := by decide +kernel
theorem tyX4_ok : ∀ k, k < 3 → parseFieldDescriptor (TX4 k).2.2.1 = some (tyX4 k) := by decide +kernel
abbrev cX4_init : ByteArray := prog_6_method_1_code
def yX4_init : MethodName := ⟨RX4, "<init>", "()V"⟩
abbrev cX4_append : ByteArray := prog_6_method_2_code
def yX4_append : MethodName := ⟨RX4, "append", "(LForwardHeap$HeapObject;)V"⟩
abbrev cX4_takeFirst : ByteArray := prog_6_method_3_code
def yX4_takeFirst : MethodName := ⟨RX4, "takeFirst", "()LForwardHeap$HeapObject;"⟩
def RX5 : String := "ForwardHeap"
def TX5 : u_T := fun k => match k with
  | 0 => ("ForwardHeap", "collector", "LForwardHeap$Collector;", true)
  | _ => ("ForwardHeap", "memory", "LForwardHeap$Memory;", true)
def tyX5 : Nat → FieldType := fun k => match k with
  | 0 => .object "ForwardHeap$Collector"
  | _ => .object "ForwardHeap$Memory"
abbrev wsX50 : List Cond := u_ws RX5 TX5 2
theorem nmX5 : ∀ a, a < 2 → ∀ b, b < 2 → a ≠ b → (TX5 a).2.1 ≠ (TX5 b).2.1 := by decide +kernel
theorem tyX5_ok : ∀ k, k < 2 → parseFieldDescriptor (TX5 k).2.2.1 = some (tyX5 k) := by decide +kernel
abbrev cX5_init : ByteArray := prog_1_method_1_code
def yX5_init : MethodName := ⟨RX5, "<init>", "(II)V"⟩
abbrev cX5_alloc : ByteArray := prog_1_method_2_code
def yX5_alloc : MethodName := ⟨RX5, "alloc", "(III)I"⟩
abbrev cX5_move : ByteArray := prog_1_method_3_code
def yX5_move : MethodName := ⟨RX5, "move", "(II)V"⟩
abbrev cX5_drop : ByteArray := prog_1_method_4_code
def yX5_drop : MethodName := ⟨RX5, "drop", "(I)Z"⟩
abbrev cX5_read : ByteArray := prog_1_method_5_code
def yX5_read : MethodName := ⟨RX5, "read", "(III)I"⟩
abbrev cX5_write : ByteArray := prog_1_method_6_code
def yX5_write : MethodName := ⟨RX5, "write", "(III)I"⟩
abbrev cX5_tag : ByteArray := prog_1_method_7_code
def yX5_tag : MethodName := ⟨RX5, "tag", "(I)I"⟩
abbrev cX5_same : ByteArray := prog_1_method_8_code
def yX5_same : MethodName := ⟨RX5, "same", "(II)Z"⟩
abbrev cX5_where : ByteArray := prog_1_method_9_code
def yX5_where : MethodName := ⟨RX5, "where", "(I)I"⟩
abbrev cX5_begin : ByteArray := prog_1_method_10_code
def yX5_begin : MethodName := ⟨RX5, "begin", "()I"⟩
abbrev cX5_work : ByteArray := prog_1_method_11_code
def yX5_work : MethodName := ⟨RX5, "work", "(I)I"⟩
abbrev cX5_collect : ByteArray := prog_1_method_12_code
def yX5_collect : MethodName := ⟨RX5, "collect", "()I"⟩
abbrev cX5_region : ByteArray := prog_1_method_13_code
def yX5_region : MethodName := ⟨RX5, "region", "(II)I"⟩
abbrev cX5_count : ByteArray := prog_1_method_14_code
def yX5_count : MethodName := ⟨RX5, "count", "(I)I"⟩
abbrev cX5_within : ByteArray := prog_1_method_15_code
def yX5_within : MethodName := ⟨RX5, "within", "(III)I"⟩
abbrev cX5_checkRegister : ByteArray := prog_1_method_16_code
def yX5_checkRegister : MethodName := ⟨RX5, "checkRegister", "(I)V"⟩
abbrev cX5_checkField : ByteArray := prog_1_method_17_code
def yX5_checkField : MethodName := ⟨RX5, "checkField", "(LForwardHeap$HeapObject;I)V"⟩
abbrev cX5_objectIn : ByteArray := prog_1_method_18_code
def yX5_objectIn : MethodName := ⟨RX5, "objectIn", "(I)LForwardHeap$HeapObject;"⟩
abbrev cX5_tagOf : ByteArray := prog_1_method_19_code
def yX5_tagOf : MethodName := ⟨RX5, "tagOf", "(LForwardHeap$HeapObject;)I"⟩
abbrev cX5_placeOf : ByteArray := prog_1_method_20_code
def yX5_placeOf : MethodName := ⟨RX5, "placeOf", "(LForwardHeap$HeapObject;)I"⟩
def RX6 : String := "ForwardHeapModel"
def TX6 : u_T := fun k => match k with
  | 0 => ("ForwardHeapModel", "thrown", "I", false)
  | 1 => ("ForwardHeapModel", "regions", "I", true)
  | 2 => ("ForwardHeapModel", "threshold", "I", true)
  | 3 => ("ForwardHeapModel", "states", "[I", true)
  | 4 => ("ForwardHeapModel", "used", "[I", true)
  | 5 => ("ForwardHeapModel", "failures", "[Z", true)
  | 6 => ("ForwardHeapModel", "objects", "I", false)
  | 7 => ("ForwardHeapModel", "home", "[I", true)
  | 8 => ("ForwardHeapModel", "first", "[I", true)
  | 9 => ("ForwardHeapModel", "sizes", "[I", true)
  | 10 => ("ForwardHeapModel", "tags", "[I", true)
  | 11 => ("ForwardHeapModel", "fields", "[I", true)
  | 12 => ("ForwardHeapModel", "seen", "[Z", true)
  | 13 => ("ForwardHeapModel", "failed", "[Z", true)
  | 14 => ("ForwardHeapModel", "registers", "[I", true)
  | 15 => ("ForwardHeapModel", "row", "[I", true)
  | 16 => ("ForwardHeapModel", "rowFirst", "I", false)
  | 17 => ("ForwardHeapModel", "rowCount", "I", false)
  | 18 => ("ForwardHeapModel", "phase", "I", false)
  | 19 => ("ForwardHeapModel", "next", "I", false)
  | 20 => ("ForwardHeapModel", "movedAll", "I", false)
  | _ => ("ForwardHeapModel", "failedAll", "I", false)
def tyX6 : Nat → FieldType := fun k => match k with
  | 0 => .int
  | 1 => .int
  | 2 => .int
  | 3 => .array .int
  | 4 => .array .int
  | 5 => .array .boolean
  | 6 => .int
  | 7 => .array .int
  | 8 => .array .int
  | 9 => .array .int
  | 10 => .array .int
  | 11 => .array .int
  | 12 => .array .boolean
  | 13 => .array .boolean
  | 14 => .array .int
  | 15 => .array .int
  | 16 => .int
  | 17 => .int
  | 18 => .int
  | 19 => .int
  | 20 => .int
  | _ => .int
abbrev wsX60 : List Cond := u_ws RX6 TX6 22
theorem nmX6 : ∀ a, a < 22 → ∀ b, b < 22 → a ≠ b → (TX6 a).2.1 ≠ (TX6 b).2.1 := by decide +kernel
theorem tyX6_ok : ∀ k, k < 22 → parseFieldDescriptor (TX6 k).2.2.1 = some (tyX6 k) := by decide +kernel
abbrev cX6_init : ByteArray := prog_8_method_1_code
def yX6_init : MethodName := ⟨RX6, "<init>", "(II)V"⟩
abbrev cX6_thrown : ByteArray := prog_8_method_2_code
def yX6_thrown : MethodName := ⟨RX6, "thrown", "()I"⟩
abbrev cX6_good : ByteArray := prog_8_method_3_code
def yX6_good : MethodName := ⟨RX6, "good", "(ZZ)Z"⟩
abbrev cX6_isRegister : ByteArray := prog_8_method_4_code
def yX6_isRegister : MethodName := ⟨RX6, "isRegister", "(I)Z"⟩
abbrev cX6_place : ByteArray := prog_8_method_5_code
def yX6_place : MethodName := ⟨RX6, "place", "(I)I"⟩
abbrev cX6_withState : ByteArray := prog_8_method_6_code
def yX6_withState : MethodName := ⟨RX6, "withState", "(I)I"⟩
abbrev cX6_seenIn : ByteArray := prog_8_method_7_code
def yX6_seenIn : MethodName := ⟨RX6, "seenIn", "(I)I"⟩
abbrev cX6_see : ByteArray := prog_8_method_8_code
def yX6_see : MethodName := ⟨RX6, "see", "(I)V"⟩
abbrev cX6_start : ByteArray := prog_8_method_9_code
def yX6_start : MethodName := ⟨RX6, "start", "()V"⟩
abbrev cX6_mark : ByteArray := prog_8_method_10_code
def yX6_mark : MethodName := ⟨RX6, "mark", "()V"⟩
abbrev cX6_isToMove : ByteArray := prog_8_method_11_code
def yX6_isToMove : MethodName := ⟨RX6, "isToMove", "(I)Z"⟩
abbrev cX6_carry : ByteArray := prog_8_method_12_code
def yX6_carry : MethodName := ⟨RX6, "carry", "(I)V"⟩
abbrev cX6_moveOne : ByteArray := prog_8_method_13_code
def yX6_moveOne : MethodName := ⟨RX6, "moveOne", "()V"⟩
abbrev cX6_update : ByteArray := prog_8_method_14_code
def yX6_update : MethodName := ⟨RX6, "update", "()V"⟩
abbrev cX6_unit : ByteArray := prog_8_method_15_code
def yX6_unit : MethodName := ⟨RX6, "unit", "()V"⟩
abbrev cX6_finish : ByteArray := prog_8_method_16_code
def yX6_finish : MethodName := ⟨RX6, "finish", "()V"⟩
abbrev cX6_whole : ByteArray := prog_8_method_17_code
def yX6_whole : MethodName := ⟨RX6, "whole", "()V"⟩
abbrev cX6_hasActive : ByteArray := prog_8_method_18_code
def yX6_hasActive : MethodName := ⟨RX6, "hasActive", "(I)Z"⟩
abbrev cX6_alloc : ByteArray := prog_8_method_19_code
def yX6_alloc : MethodName := ⟨RX6, "alloc", "(III)I"⟩
abbrev cX6_move : ByteArray := prog_8_method_20_code
def yX6_move : MethodName := ⟨RX6, "move", "(II)V"⟩
abbrev cX6_drop : ByteArray := prog_8_method_21_code
def yX6_drop : MethodName := ⟨RX6, "drop", "(I)Z"⟩
abbrev cX6_tagOf : ByteArray := prog_8_method_22_code
def yX6_tagOf : MethodName := ⟨RX6, "tagOf", "(I)I"⟩
abbrev cX6_hasField : ByteArray := prog_8_method_23_code
def yX6_hasField : MethodName := ⟨RX6, "hasField", "(IIII)Z"⟩
abbrev cX6_read : ByteArray := prog_8_method_24_code
def yX6_read : MethodName := ⟨RX6, "read", "(III)I"⟩
abbrev cX6_write : ByteArray := prog_8_method_25_code
def yX6_write : MethodName := ⟨RX6, "write", "(III)I"⟩
abbrev cX6_tag : ByteArray := prog_8_method_26_code
def yX6_tag : MethodName := ⟨RX6, "tag", "(I)I"⟩
abbrev cX6_same : ByteArray := prog_8_method_27_code
def yX6_same : MethodName := ⟨RX6, "same", "(II)Z"⟩
abbrev cX6_where : ByteArray := prog_8_method_28_code
def yX6_where : MethodName := ⟨RX6, "where", "(I)I"⟩
abbrev cX6_begin : ByteArray := prog_8_method_29_code
def yX6_begin : MethodName := ⟨RX6, "begin", "()I"⟩
abbrev cX6_work : ByteArray := prog_8_method_30_code
def yX6_work : MethodName := ⟨RX6, "work", "(I)I"⟩
abbrev cX6_collect : ByteArray := prog_8_method_31_code
def yX6_collect : MethodName := ⟨RX6, "collect", "()I"⟩
abbrev cX6_region : ByteArray := prog_8_method_32_code
def yX6_region : MethodName := ⟨RX6, "region", "(II)I"⟩
abbrev cX6_count : ByteArray := prog_8_method_33_code
def yX6_count : MethodName := ⟨RX6, "count", "(I)I"⟩
def RJ9 : String := "java/lang/Math"
def TJ9 : u_T := fun k => match k with
  | _ => ("", "", "", false)
def tyJ9 : Nat → FieldType := fun k => match k with
  | _ => .int
abbrev wsJ90 : List Cond := u_ws RJ9 TJ9 0
theorem nmJ9 : ∀ a, a < 0 → ∀ b, b < 0 → a ≠ b → (TJ9 a).2.1 ≠ (TJ9 b).2.1 := by decide +kernel
theorem tyJ9_ok : ∀ k, k < 0 → parseFieldDescriptor (TJ9 k).2.2.1 = some (tyJ9 k) := by decide +kernel
abbrev cJ9_max_7cf53 : ByteArray := prog_13_method_65_code
def yJ9_max_7cf53 : MethodName := ⟨RJ9, "max", "(II)I"⟩
abbrev cJ9_min_7cf53 : ByteArray := prog_13_method_69_code
def yJ9_min_7cf53 : MethodName := ⟨RJ9, "min", "(II)I"⟩
def RJ0 : String := "java/lang/String"
def TJ0 : u_T := fun k => match k with
  | _ => ("", "", "", false)
def tyJ0 : Nat → FieldType := fun k => match k with
  | _ => .int
abbrev wsJ00 : List Cond := u_ws RJ0 TJ0 0
theorem nmJ0 : ∀ a, a < 0 → ∀ b, b < 0 → a ≠ b → (TJ0 a).2.1 ≠ (TJ0 b).2.1 := by decide +kernel
theorem tyJ0_ok : ∀ k, k < 0 → parseFieldDescriptor (TJ0 k).2.2.1 = some (tyJ0 k) := by decide +kernel
def RL : String := "ForwardHeapLaw"
abbrev cL_cell : ByteArray := method_2_code
def yL_cell : MethodName := ⟨RL, "cell", "([II)I"⟩
abbrev cL_alloc : ByteArray := method_3_code
def yL_alloc : MethodName := ⟨RL, "alloc", "(LForwardHeap;III[J)I"⟩
abbrev cL_move : ByteArray := method_4_code
def yL_move : MethodName := ⟨RL, "move", "(LForwardHeap;II)I"⟩
abbrev cL_drop : ByteArray := method_5_code
def yL_drop : MethodName := ⟨RL, "drop", "(LForwardHeap;I[J)I"⟩
abbrev cL_read : ByteArray := method_6_code
def yL_read : MethodName := ⟨RL, "read", "(LForwardHeap;III[J)I"⟩
abbrev cL_write : ByteArray := method_7_code
def yL_write : MethodName := ⟨RL, "write", "(LForwardHeap;III[J)I"⟩
abbrev cL_tag : ByteArray := method_8_code
def yL_tag : MethodName := ⟨RL, "tag", "(LForwardHeap;I[J)I"⟩
abbrev cL_same : ByteArray := method_9_code
def yL_same : MethodName := ⟨RL, "same", "(LForwardHeap;II[J)I"⟩
abbrev cL_where : ByteArray := method_10_code
def yL_where : MethodName := ⟨RL, "where", "(LForwardHeap;I[J)I"⟩
abbrev cL_work : ByteArray := method_11_code
def yL_work : MethodName := ⟨RL, "work", "(LForwardHeap;I[J)I"⟩
abbrev cL_region : ByteArray := method_12_code
def yL_region : MethodName := ⟨RL, "region", "(LForwardHeap;II[J)I"⟩
abbrev cL_law : ByteArray := code
def yL_law : MethodName := ⟨RL, "law", "([I)Z"⟩
end
section
theorem dX0_init_0 : decode cX0_init 0 = .ok (.aload_n 0, 1) := by decide +kernel
theorem dX0_init_1 : decode cX0_init 1 = .ok (.invokespecial 3, 3) := by decide +kernel
theorem dX0_init_4 : decode cX0_init 4 = .ok (.aload_n 0, 1) := by decide +kernel
theorem dX0_init_5 : decode cX0_init 5 = .ok (.new 9, 3) := by decide +kernel
theorem dX0_init_8 : decode cX0_init 8 = .ok (.dup, 1) := by decide +kernel
theorem dX0_init_9 : decode cX0_init 9 = .ok (.iload_n 1, 1) := by decide +kernel
theorem dX0_init_10 : decode cX0_init 10 = .ok (.invokespecial 11, 3) := by decide +kernel
theorem dX0_init_13 : decode cX0_init 13 = .ok (.putfield 14, 3) := by decide +kernel
theorem dX0_init_16 : decode cX0_init 16 = .ok (.aload_n 0, 1) := by decide +kernel
theorem dX0_init_17 : decode cX0_init 17 = .ok (.iload_n 2, 1) := by decide +kernel
theorem dX0_init_18 : decode cX0_init 18 = .ok (.putfield 20, 3) := by decide +kernel
theorem dX0_init_21 : decode cX0_init 21 = .ok (.aload_n 0, 1) := by decide +kernel
theorem dX0_init_22 : decode cX0_init 22 = .ok (.new 24, 3) := by decide +kernel
theorem dX0_init_25 : decode cX0_init 25 = .ok (.dup, 1) := by decide +kernel
theorem dX0_init_26 : decode cX0_init 26 = .ok (.invokespecial 26, 3) := by decide +kernel
theorem dX0_init_29 : decode cX0_init 29 = .ok (.putfield 27, 3) := by decide +kernel
theorem dX0_init_32 : decode cX0_init 32 = .ok (.return_, 1) := by decide +kernel
theorem dX0_startCycle_0 : decode cX0_startCycle 0 = .ok (.aload_n 0, 1) := by decide +kernel
theorem dX0_startCycle_1 : decode cX0_startCycle 1 = .ok (.iconst 1, 1) := by decide +kernel
theorem dX0_startCycle_2 : decode cX0_startCycle 2 = .ok (.putfield 31, 3) := by decide +kernel
theorem dX0_startCycle_5 : decode cX0_startCycle 5 = .ok (.aload_n 0, 1) := by decide +kernel
theorem dX0_startCycle_6 : decode cX0_startCycle 6 = .ok (.dup, 1) := by decide +kernel
theorem dX0_startCycle_7 : decode cX0_startCycle 7 = .ok (.getfield 34, 3) := by decide +kernel
theorem dX0_startCycle_10 : decode cX0_startCycle 10 = .ok (.iconst 1, 1) := by decide +kernel
theorem dX0_startCycle_11 : decode cX0_startCycle 11 = .ok (.iadd, 1) := by decide +kernel
theorem dX0_startCycle_12 : decode cX0_startCycle 12 = .ok (.putfield 34, 3) := by decide +kernel
theorem dX0_startCycle_15 : decode cX0_startCycle 15 = .ok (.aload_n 0, 1) := by decide +kernel
theorem dX0_startCycle_16 : decode cX0_startCycle 16 = .ok (.getfield 14, 3) := by decide +kernel
theorem dX0_startCycle_19 : decode cX0_startCycle 19 = .ok (.getfield 37, 3) := by decide +kernel
theorem dX0_startCycle_22 : decode cX0_startCycle 22 = .ok (.astore_n 1, 1) := by decide +kernel
theorem dX0_startCycle_23 : decode cX0_startCycle 23 = .ok (.aload_n 1, 1) := by decide +kernel
theorem dX0_startCycle_24 : decode cX0_startCycle 24 = .ok (.arraylength, 1) := by decide +kernel
theorem dX0_startCycle_25 : decode cX0_startCycle 25 = .ok (.istore_n 2, 1) := by decide +kernel
theorem dX0_startCycle_26 : decode cX0_startCycle 26 = .ok (.iconst 0, 1) := by decide +kernel
theorem dX0_startCycle_27 : decode cX0_startCycle 27 = .ok (.istore_n 3, 1) := by decide +kernel
theorem dX0_startCycle_28 : decode cX0_startCycle 28 = .ok (.iload_n 3, 1) := by decide +kernel
theorem dX0_startCycle_29 : decode cX0_startCycle 29 = .ok (.iload_n 2, 1) := by decide +kernel
theorem dX0_startCycle_30 : decode cX0_startCycle 30 = .ok (.if_icmp .ge 20, 3) := by decide +kernel
theorem dX0_startCycle_33 : decode cX0_startCycle 33 = .ok (.aload_n 1, 1) := by decide +kernel
theorem dX0_startCycle_34 : decode cX0_startCycle 34 = .ok (.iload_n 3, 1) := by decide +kernel
theorem dX0_startCycle_35 : decode cX0_startCycle 35 = .ok (.aaload, 1) := by decide +kernel
theorem dX0_startCycle_36 : decode cX0_startCycle 36 = .ok (.astore 4, 2) := by decide +kernel
theorem dX0_startCycle_38 : decode cX0_startCycle 38 = .ok (.aload_n 0, 1) := by decide +kernel
theorem dX0_startCycle_39 : decode cX0_startCycle 39 = .ok (.aload 4, 2) := by decide +kernel
theorem dX0_startCycle_41 : decode cX0_startCycle 41 = .ok (.invokevirtual 41, 3) := by decide +kernel
theorem dX0_startCycle_44 : decode cX0_startCycle 44 = .ok (.iinc 3 1, 3) := by decide +kernel
theorem dX0_startCycle_47 : decode cX0_startCycle 47 = .ok (.goto (-19), 3) := by decide +kernel
theorem dX0_startCycle_50 : decode cX0_startCycle 50 = .ok (.return_, 1) := by decide +kernel
theorem dX0_collectWhole_0 : decode cX0_collectWhole 0 = .ok (.aload_n 0, 1) := by decide +kernel
theorem dX0_collectWhole_1 : decode cX0_collectWhole 1 = .ok (.ldc 45, 2) := by decide +kernel
theorem dX0_collectWhole_3 : decode cX0_collectWhole 3 = .ok (.invokevirtual 46, 3) := by decide +kernel
theorem dX0_collectWhole_6 : decode cX0_collectWhole 6 = .ok (.aload_n 0, 1) := by decide +kernel
theorem dX0_collectWhole_7 : decode cX0_collectWhole 7 = .ok (.invokevirtual 49, 3) := by decide +kernel
theorem dX0_collectWhole_10 : decode cX0_collectWhole 10 = .ok (.aload_n 0, 1) := by decide +kernel
theorem dX0_collectWhole_11 : decode cX0_collectWhole 11 = .ok (.ldc 45, 2) := by decide +kernel
theorem dX0_collectWhole_13 : decode cX0_collectWhole 13 = .ok (.invokevirtual 46, 3) := by decide +kernel
theorem dX0_collectWhole_16 : decode cX0_collectWhole 16 = .ok (.return_, 1) := by decide +kernel
theorem dX0_runUnits_0 : decode cX0_runUnits 0 = .ok (.iconst 0, 1) := by decide +kernel
theorem dX0_runUnits_1 : decode cX0_runUnits 1 = .ok (.istore_n 2, 1) := by decide +kernel
theorem dX0_runUnits_2 : decode cX0_runUnits 2 = .ok (.iload_n 2, 1) := by decide +kernel
theorem dX0_runUnits_3 : decode cX0_runUnits 3 = .ok (.iload_n 1, 1) := by decide +kernel
theorem dX0_runUnits_4 : decode cX0_runUnits 4 = .ok (.if_icmp .ge 64, 3) := by decide +kernel
theorem dX0_runUnits_7 : decode cX0_runUnits 7 = .ok (.aload_n 0, 1) := by decide +kernel
theorem dX0_runUnits_8 : decode cX0_runUnits 8 = .ok (.getfield 31, 3) := by decide +kernel
theorem dX0_runUnits_11 : decode cX0_runUnits 11 = .ok (.ifCond .eq 57, 3) := by decide +kernel
theorem dX0_runUnits_14 : decode cX0_runUnits 14 = .ok (.aload_n 0, 1) := by decide +kernel
theorem dX0_runUnits_15 : decode cX0_runUnits 15 = .ok (.getfield 31, 3) := by decide +kernel
theorem dX0_runUnits_18 : decode cX0_runUnits 18 = .ok (.lookupswitch 40 #[(1, 26), (2, 33)], 26) := by decide +kernel
theorem dX0_runUnits_44 : decode cX0_runUnits 44 = .ok (.aload_n 0, 1) := by decide +kernel
theorem dX0_runUnits_45 : decode cX0_runUnits 45 = .ok (.invokevirtual 52, 3) := by decide +kernel
theorem dX0_runUnits_48 : decode cX0_runUnits 48 = .ok (.goto 14, 3) := by decide +kernel
theorem dX0_runUnits_51 : decode cX0_runUnits 51 = .ok (.aload_n 0, 1) := by decide +kernel
theorem dX0_runUnits_52 : decode cX0_runUnits 52 = .ok (.invokevirtual 55, 3) := by decide +kernel
theorem dX0_runUnits_55 : decode cX0_runUnits 55 = .ok (.goto 7, 3) := by decide +kernel
theorem dX0_runUnits_58 : decode cX0_runUnits 58 = .ok (.aload_n 0, 1) := by decide +kernel
theorem dX0_runUnits_59 : decode cX0_runUnits 59 = .ok (.invokevirtual 58, 3) := by decide +kernel
theorem dX0_runUnits_62 : decode cX0_runUnits 62 = .ok (.iinc 2 1, 3) := by decide +kernel
theorem dX0_runUnits_65 : decode cX0_runUnits 65 = .ok (.goto (-63), 3) := by decide +kernel
theorem dX0_runUnits_68 : decode cX0_runUnits 68 = .ok (.return_, 1) := by decide +kernel
theorem dX0_welcome_0 : decode cX0_welcome 0 = .ok (.aload_n 0, 1) := by decide +kernel
theorem dX0_welcome_1 : decode cX0_welcome 1 = .ok (.getfield 31, 3) := by decide +kernel
theorem dX0_welcome_4 : decode cX0_welcome 4 = .ok (.ifCond .eq 11, 3) := by decide +kernel
theorem dX0_welcome_7 : decode cX0_welcome 7 = .ok (.aload_n 1, 1) := by decide +kernel
theorem dX0_welcome_8 : decode cX0_welcome 8 = .ok (.aload_n 0, 1) := by decide +kernel
theorem dX0_welcome_9 : decode cX0_welcome 9 = .ok (.getfield 34, 3) := by decide +kernel
theorem dX0_welcome_12 : decode cX0_welcome 12 = .ok (.putfield 61, 3) := by decide +kernel
theorem dX0_welcome_15 : decode cX0_welcome 15 = .ok (.return_, 1) := by decide +kernel
theorem dX0_prepareWrite_0 : decode cX0_prepareWrite 0 = .ok (.aload_n 0, 1) := by decide +kernel
theorem dX0_prepareWrite_1 : decode cX0_prepareWrite 1 = .ok (.getfield 31, 3) := by decide +kernel
theorem dX0_prepareWrite_4 : decode cX0_prepareWrite 4 = .ok (.iconst 1, 1) := by decide +kernel
theorem dX0_prepareWrite_5 : decode cX0_prepareWrite 5 = .ok (.if_icmp .ne 11, 3) := by decide +kernel
theorem dX0_prepareWrite_8 : decode cX0_prepareWrite 8 = .ok (.aload_n 0, 1) := by decide +kernel
theorem dX0_prepareWrite_9 : decode cX0_prepareWrite 9 = .ok (.aload_n 2, 1) := by decide +kernel
theorem dX0_prepareWrite_10 : decode cX0_prepareWrite 10 = .ok (.invokevirtual 41, 3) := by decide +kernel
theorem dX0_prepareWrite_13 : decode cX0_prepareWrite 13 = .ok (.goto 24, 3) := by decide +kernel
theorem dX0_prepareWrite_16 : decode cX0_prepareWrite 16 = .ok (.aload_n 0, 1) := by decide +kernel
theorem dX0_prepareWrite_17 : decode cX0_prepareWrite 17 = .ok (.getfield 31, 3) := by decide +kernel
theorem dX0_prepareWrite_20 : decode cX0_prepareWrite 20 = .ok (.iconst 2, 1) := by decide +kernel
theorem dX0_prepareWrite_21 : decode cX0_prepareWrite 21 = .ok (.if_icmp .ne 16, 3) := by decide +kernel
theorem dX0_prepareWrite_24 : decode cX0_prepareWrite 24 = .ok (.aload_n 0, 1) := by decide +kernel
theorem dX0_prepareWrite_25 : decode cX0_prepareWrite 25 = .ok (.aload_n 1, 1) := by decide +kernel
theorem dX0_prepareWrite_26 : decode cX0_prepareWrite 26 = .ok (.invokevirtual 66, 3) := by decide +kernel
theorem dX0_prepareWrite_29 : decode cX0_prepareWrite 29 = .ok (.ifCond .eq 8, 3) := by decide +kernel
theorem dX0_prepareWrite_32 : decode cX0_prepareWrite 32 = .ok (.aload_n 0, 1) := by decide +kernel
theorem dX0_prepareWrite_33 : decode cX0_prepareWrite 33 = .ok (.aload_n 1, 1) := by decide +kernel
theorem dX0_prepareWrite_34 : decode cX0_prepareWrite 34 = .ok (.invokevirtual 70, 3) := by decide +kernel
theorem dX0_prepareWrite_37 : decode cX0_prepareWrite 37 = .ok (.return_, 1) := by decide +kernel
theorem dX0_see_0 : decode cX0_see 0 = .ok (.aload_n 1, 1) := by decide +kernel
theorem dX0_see_1 : decode cX0_see 1 = .ok (.ifnull 30, 3) := by decide +kernel
theorem dX0_see_4 : decode cX0_see 4 = .ok (.aload_n 1, 1) := by decide +kernel
theorem dX0_see_5 : decode cX0_see 5 = .ok (.getfield 61, 3) := by decide +kernel
theorem dX0_see_8 : decode cX0_see 8 = .ok (.aload_n 0, 1) := by decide +kernel
theorem dX0_see_9 : decode cX0_see 9 = .ok (.getfield 34, 3) := by decide +kernel
theorem dX0_see_12 : decode cX0_see 12 = .ok (.if_icmp .eq 19, 3) := by decide +kernel
theorem dX0_see_15 : decode cX0_see 15 = .ok (.aload_n 1, 1) := by decide +kernel
theorem dX0_see_16 : decode cX0_see 16 = .ok (.aload_n 0, 1) := by decide +kernel
theorem dX0_see_17 : decode cX0_see 17 = .ok (.getfield 34, 3) := by decide +kernel
theorem dX0_see_20 : decode cX0_see 20 = .ok (.putfield 61, 3) := by decide +kernel
theorem dX0_see_23 : decode cX0_see 23 = .ok (.aload_n 0, 1) := by decide +kernel
theorem dX0_see_24 : decode cX0_see 24 = .ok (.getfield 27, 3) := by decide +kernel
theorem dX0_see_27 : decode cX0_see 27 = .ok (.aload_n 1, 1) := by decide +kernel
theorem dX0_see_28 : decode cX0_see 28 = .ok (.invokevirtual 73, 3) := by decide +kernel
theorem dX0_see_31 : decode cX0_see 31 = .ok (.return_, 1) := by decide +kernel
theorem dX0_markNext_0 : decode cX0_markNext 0 = .ok (.aload_n 0, 1) := by decide +kernel
theorem dX0_markNext_1 : decode cX0_markNext 1 = .ok (.getfield 27, 3) := by decide +kernel
theorem dX0_markNext_4 : decode cX0_markNext 4 = .ok (.invokevirtual 76, 3) := by decide +kernel
theorem dX0_markNext_7 : decode cX0_markNext 7 = .ok (.astore_n 1, 1) := by decide +kernel
theorem dX0_markNext_8 : decode cX0_markNext 8 = .ok (.aload_n 1, 1) := by decide +kernel
theorem dX0_markNext_9 : decode cX0_markNext 9 = .ok (.ifnonnull 13, 3) := by decide +kernel
theorem dX0_markNext_12 : decode cX0_markNext 12 = .ok (.aload_n 0, 1) := by decide +kernel
theorem dX0_markNext_13 : decode cX0_markNext 13 = .ok (.invokevirtual 80, 3) := by decide +kernel
theorem dX0_markNext_16 : decode cX0_markNext 16 = .ok (.aload_n 0, 1) := by decide +kernel
theorem dX0_markNext_17 : decode cX0_markNext 17 = .ok (.iconst 2, 1) := by decide +kernel
theorem dX0_markNext_18 : decode cX0_markNext 18 = .ok (.putfield 31, 3) := by decide +kernel
theorem dX0_markNext_21 : decode cX0_markNext 21 = .ok (.return_, 1) := by decide +kernel
theorem dX0_markNext_22 : decode cX0_markNext 22 = .ok (.aload_n 1, 1) := by decide +kernel
theorem dX0_markNext_23 : decode cX0_markNext 23 = .ok (.getfield 83, 3) := by decide +kernel
theorem dX0_markNext_26 : decode cX0_markNext 26 = .ok (.astore_n 2, 1) := by decide +kernel
theorem dX0_markNext_27 : decode cX0_markNext 27 = .ok (.aload_n 2, 1) := by decide +kernel
theorem dX0_markNext_28 : decode cX0_markNext 28 = .ok (.arraylength, 1) := by decide +kernel
theorem dX0_markNext_29 : decode cX0_markNext 29 = .ok (.istore_n 3, 1) := by decide +kernel
theorem dX0_markNext_30 : decode cX0_markNext 30 = .ok (.iconst 0, 1) := by decide +kernel
theorem dX0_markNext_31 : decode cX0_markNext 31 = .ok (.istore 4, 2) := by decide +kernel
theorem dX0_markNext_33 : decode cX0_markNext 33 = .ok (.iload 4, 2) := by decide +kernel
theorem dX0_markNext_35 : decode cX0_markNext 35 = .ok (.iload_n 3, 1) := by decide +kernel
theorem dX0_markNext_36 : decode cX0_markNext 36 = .ok (.if_icmp .ge 21, 3) := by decide +kernel
theorem dX0_markNext_39 : decode cX0_markNext 39 = .ok (.aload_n 2, 1) := by decide +kernel
theorem dX0_markNext_40 : decode cX0_markNext 40 = .ok (.iload 4, 2) := by decide +kernel
theorem dX0_markNext_42 : decode cX0_markNext 42 = .ok (.aaload, 1) := by decide +kernel
theorem dX0_markNext_43 : decode cX0_markNext 43 = .ok (.astore 5, 2) := by decide +kernel
theorem dX0_markNext_45 : decode cX0_markNext 45 = .ok (.aload_n 0, 1) := by decide +kernel
theorem dX0_markNext_46 : decode cX0_markNext 46 = .ok (.aload 5, 2) := by decide +kernel
theorem dX0_markNext_48 : decode cX0_markNext 48 = .ok (.invokevirtual 41, 3) := by decide +kernel
theorem dX0_markNext_51 : decode cX0_markNext 51 = .ok (.iinc 4 1, 3) := by decide +kernel
theorem dX0_markNext_54 : decode cX0_markNext 54 = .ok (.goto (-21), 3) := by decide +kernel
theorem dX0_markNext_57 : decode cX0_markNext 57 = .ok (.return_, 1) := by decide +kernel
theorem dX0_chooseSet_0 : decode cX0_chooseSet 0 = .ok (.aload_n 0, 1) := by decide +kernel
theorem dX0_chooseSet_1 : decode cX0_chooseSet 1 = .ok (.getfield 14, 3) := by decide +kernel
theorem dX0_chooseSet_4 : decode cX0_chooseSet 4 = .ok (.getfield 86, 3) := by decide +kernel
theorem dX0_chooseSet_7 : decode cX0_chooseSet 7 = .ok (.astore_n 1, 1) := by decide +kernel
theorem dX0_chooseSet_8 : decode cX0_chooseSet 8 = .ok (.aload_n 1, 1) := by decide +kernel
theorem dX0_chooseSet_9 : decode cX0_chooseSet 9 = .ok (.arraylength, 1) := by decide +kernel
theorem dX0_chooseSet_10 : decode cX0_chooseSet 10 = .ok (.istore_n 2, 1) := by decide +kernel
theorem dX0_chooseSet_11 : decode cX0_chooseSet 11 = .ok (.iconst 0, 1) := by decide +kernel
theorem dX0_chooseSet_12 : decode cX0_chooseSet 12 = .ok (.istore_n 3, 1) := by decide +kernel
theorem dX0_chooseSet_13 : decode cX0_chooseSet 13 = .ok (.iload_n 3, 1) := by decide +kernel
theorem dX0_chooseSet_14 : decode cX0_chooseSet 14 = .ok (.iload_n 2, 1) := by decide +kernel
theorem dX0_chooseSet_15 : decode cX0_chooseSet 15 = .ok (.if_icmp .ge 50, 3) := by decide +kernel
theorem dX0_chooseSet_18 : decode cX0_chooseSet 18 = .ok (.aload_n 1, 1) := by decide +kernel
theorem dX0_chooseSet_19 : decode cX0_chooseSet 19 = .ok (.iload_n 3, 1) := by decide +kernel
theorem dX0_chooseSet_20 : decode cX0_chooseSet 20 = .ok (.aaload, 1) := by decide +kernel
theorem dX0_chooseSet_21 : decode cX0_chooseSet 21 = .ok (.astore 4, 2) := by decide +kernel
theorem dX0_chooseSet_23 : decode cX0_chooseSet 23 = .ok (.aload 4, 2) := by decide +kernel
theorem dX0_chooseSet_25 : decode cX0_chooseSet 25 = .ok (.getfield 90, 3) := by decide +kernel
theorem dX0_chooseSet_28 : decode cX0_chooseSet 28 = .ok (.iconst 3, 1) := by decide +kernel
theorem dX0_chooseSet_29 : decode cX0_chooseSet 29 = .ok (.if_icmp .ne 30, 3) := by decide +kernel
theorem dX0_chooseSet_32 : decode cX0_chooseSet 32 = .ok (.aload 4, 2) := by decide +kernel
theorem dX0_chooseSet_34 : decode cX0_chooseSet 34 = .ok (.getfield 95, 3) := by decide +kernel
theorem dX0_chooseSet_37 : decode cX0_chooseSet 37 = .ok (.aload 4, 2) := by decide +kernel
theorem dX0_chooseSet_39 : decode cX0_chooseSet 39 = .ok (.aload_n 0, 1) := by decide +kernel
theorem dX0_chooseSet_40 : decode cX0_chooseSet 40 = .ok (.getfield 34, 3) := by decide +kernel
theorem dX0_chooseSet_43 : decode cX0_chooseSet 43 = .ok (.invokevirtual 98, 3) := by decide +kernel
theorem dX0_chooseSet_46 : decode cX0_chooseSet 46 = .ok (.isub, 1) := by decide +kernel
theorem dX0_chooseSet_47 : decode cX0_chooseSet 47 = .ok (.aload_n 0, 1) := by decide +kernel
theorem dX0_chooseSet_48 : decode cX0_chooseSet 48 = .ok (.getfield 20, 3) := by decide +kernel
theorem dX0_chooseSet_51 : decode cX0_chooseSet 51 = .ok (.if_icmp .le 8, 3) := by decide +kernel
theorem dX0_chooseSet_54 : decode cX0_chooseSet 54 = .ok (.aload 4, 2) := by decide +kernel
theorem dX0_chooseSet_56 : decode cX0_chooseSet 56 = .ok (.invokevirtual 102, 3) := by decide +kernel
theorem dX0_chooseSet_59 : decode cX0_chooseSet 59 = .ok (.iinc 3 1, 3) := by decide +kernel
theorem dX0_chooseSet_62 : decode cX0_chooseSet 62 = .ok (.goto (-49), 3) := by decide +kernel
theorem dX0_chooseSet_65 : decode cX0_chooseSet 65 = .ok (.return_, 1) := by decide +kernel
theorem dX0_moveNext_0 : decode cX0_moveNext 0 = .ok (.aload_n 0, 1) := by decide +kernel
theorem dX0_moveNext_1 : decode cX0_moveNext 1 = .ok (.getfield 14, 3) := by decide +kernel
theorem dX0_moveNext_4 : decode cX0_moveNext 4 = .ok (.getfield 86, 3) := by decide +kernel
theorem dX0_moveNext_7 : decode cX0_moveNext 7 = .ok (.astore_n 1, 1) := by decide +kernel
theorem dX0_moveNext_8 : decode cX0_moveNext 8 = .ok (.aload_n 1, 1) := by decide +kernel
theorem dX0_moveNext_9 : decode cX0_moveNext 9 = .ok (.arraylength, 1) := by decide +kernel
theorem dX0_moveNext_10 : decode cX0_moveNext 10 = .ok (.istore_n 2, 1) := by decide +kernel
theorem dX0_moveNext_11 : decode cX0_moveNext 11 = .ok (.iconst 0, 1) := by decide +kernel
theorem dX0_moveNext_12 : decode cX0_moveNext 12 = .ok (.istore_n 3, 1) := by decide +kernel
theorem dX0_moveNext_13 : decode cX0_moveNext 13 = .ok (.iload_n 3, 1) := by decide +kernel
theorem dX0_moveNext_14 : decode cX0_moveNext 14 = .ok (.iload_n 2, 1) := by decide +kernel
theorem dX0_moveNext_15 : decode cX0_moveNext 15 = .ok (.if_icmp .ge 50, 3) := by decide +kernel
theorem dX0_moveNext_18 : decode cX0_moveNext 18 = .ok (.aload_n 1, 1) := by decide +kernel
theorem dX0_moveNext_19 : decode cX0_moveNext 19 = .ok (.iload_n 3, 1) := by decide +kernel
theorem dX0_moveNext_20 : decode cX0_moveNext 20 = .ok (.aaload, 1) := by decide +kernel
theorem dX0_moveNext_21 : decode cX0_moveNext 21 = .ok (.astore 4, 2) := by decide +kernel
theorem dX0_moveNext_23 : decode cX0_moveNext 23 = .ok (.aload 4, 2) := by decide +kernel
theorem dX0_moveNext_25 : decode cX0_moveNext 25 = .ok (.getfield 90, 3) := by decide +kernel
theorem dX0_moveNext_28 : decode cX0_moveNext 28 = .ok (.iconst 4, 1) := by decide +kernel
theorem dX0_moveNext_29 : decode cX0_moveNext 29 = .ok (.if_icmp .ne 15, 3) := by decide +kernel
theorem dX0_moveNext_32 : decode cX0_moveNext 32 = .ok (.aload 4, 2) := by decide +kernel
theorem dX0_moveNext_34 : decode cX0_moveNext 34 = .ok (.aload_n 0, 1) := by decide +kernel
theorem dX0_moveNext_35 : decode cX0_moveNext 35 = .ok (.getfield 34, 3) := by decide +kernel
theorem dX0_moveNext_38 : decode cX0_moveNext 38 = .ok (.invokevirtual 105, 3) := by decide +kernel
theorem dX0_moveNext_41 : decode cX0_moveNext 41 = .ok (.goto 4, 3) := by decide +kernel
theorem dX0_moveNext_44 : decode cX0_moveNext 44 = .ok (.aconst_null, 1) := by decide +kernel
theorem dX0_moveNext_45 : decode cX0_moveNext 45 = .ok (.astore 5, 2) := by decide +kernel
theorem dX0_moveNext_47 : decode cX0_moveNext 47 = .ok (.aload 5, 2) := by decide +kernel
theorem dX0_moveNext_49 : decode cX0_moveNext 49 = .ok (.ifnull 10, 3) := by decide +kernel
theorem dX0_moveNext_52 : decode cX0_moveNext 52 = .ok (.aload_n 0, 1) := by decide +kernel
theorem dX0_moveNext_53 : decode cX0_moveNext 53 = .ok (.aload 5, 2) := by decide +kernel
theorem dX0_moveNext_55 : decode cX0_moveNext 55 = .ok (.invokevirtual 70, 3) := by decide +kernel
theorem dX0_moveNext_58 : decode cX0_moveNext 58 = .ok (.return_, 1) := by decide +kernel
theorem dX0_moveNext_59 : decode cX0_moveNext 59 = .ok (.iinc 3 1, 3) := by decide +kernel
theorem dX0_moveNext_62 : decode cX0_moveNext 62 = .ok (.goto (-49), 3) := by decide +kernel
theorem dX0_moveNext_65 : decode cX0_moveNext 65 = .ok (.aload_n 0, 1) := by decide +kernel
theorem dX0_moveNext_66 : decode cX0_moveNext 66 = .ok (.iconst 3, 1) := by decide +kernel
theorem dX0_moveNext_67 : decode cX0_moveNext 67 = .ok (.putfield 31, 3) := by decide +kernel
theorem dX0_moveNext_70 : decode cX0_moveNext 70 = .ok (.aload_n 0, 1) := by decide +kernel
theorem dX0_moveNext_71 : decode cX0_moveNext 71 = .ok (.iconst 0, 1) := by decide +kernel
theorem dX0_moveNext_72 : decode cX0_moveNext 72 = .ok (.putfield 109, 3) := by decide +kernel
theorem dX0_moveNext_75 : decode cX0_moveNext 75 = .ok (.return_, 1) := by decide +kernel
theorem dX0_mayMove_0 : decode cX0_mayMove 0 = .ok (.aload_n 1, 1) := by decide +kernel
theorem dX0_mayMove_1 : decode cX0_mayMove 1 = .ok (.getfield 112, 3) := by decide +kernel
theorem dX0_mayMove_4 : decode cX0_mayMove 4 = .ok (.getfield 90, 3) := by decide +kernel
theorem dX0_mayMove_7 : decode cX0_mayMove 7 = .ok (.iconst 4, 1) := by decide +kernel
theorem dX0_mayMove_8 : decode cX0_mayMove 8 = .ok (.if_icmp .ne 18, 3) := by decide +kernel
theorem dX0_mayMove_11 : decode cX0_mayMove 11 = .ok (.aload_n 1, 1) := by decide +kernel
theorem dX0_mayMove_12 : decode cX0_mayMove 12 = .ok (.getfield 116, 3) := by decide +kernel
theorem dX0_mayMove_15 : decode cX0_mayMove 15 = .ok (.aload_n 0, 1) := by decide +kernel
theorem dX0_mayMove_16 : decode cX0_mayMove 16 = .ok (.getfield 34, 3) := by decide +kernel
theorem dX0_mayMove_19 : decode cX0_mayMove 19 = .ok (.if_icmp .eq 7, 3) := by decide +kernel
theorem dX0_mayMove_22 : decode cX0_mayMove 22 = .ok (.iconst 1, 1) := by decide +kernel
theorem dX0_mayMove_23 : decode cX0_mayMove 23 = .ok (.goto 4, 3) := by decide +kernel
theorem dX0_mayMove_26 : decode cX0_mayMove 26 = .ok (.iconst 0, 1) := by decide +kernel
theorem dX0_mayMove_27 : decode cX0_mayMove 27 = .ok (.ireturn, 1) := by decide +kernel
theorem dX0_moveOrFail_0 : decode cX0_moveOrFail 0 = .ok (.aload_n 1, 1) := by decide +kernel
theorem dX0_moveOrFail_1 : decode cX0_moveOrFail 1 = .ok (.getfield 112, 3) := by decide +kernel
theorem dX0_moveOrFail_4 : decode cX0_moveOrFail 4 = .ok (.astore_n 2, 1) := by decide +kernel
theorem dX0_moveOrFail_5 : decode cX0_moveOrFail 5 = .ok (.aload_n 0, 1) := by decide +kernel
theorem dX0_moveOrFail_6 : decode cX0_moveOrFail 6 = .ok (.getfield 14, 3) := by decide +kernel
theorem dX0_moveOrFail_9 : decode cX0_moveOrFail 9 = .ok (.aload_n 1, 1) := by decide +kernel
theorem dX0_moveOrFail_10 : decode cX0_moveOrFail 10 = .ok (.invokevirtual 119, 3) := by decide +kernel
theorem dX0_moveOrFail_13 : decode cX0_moveOrFail 13 = .ok (.invokevirtual 123, 3) := by decide +kernel
theorem dX0_moveOrFail_16 : decode cX0_moveOrFail 16 = .ok (.astore_n 3, 1) := by decide +kernel
theorem dX0_moveOrFail_17 : decode cX0_moveOrFail 17 = .ok (.aload_n 3, 1) := by decide +kernel
theorem dX0_moveOrFail_18 : decode cX0_moveOrFail 18 = .ok (.ifnonnull 27, 3) := by decide +kernel
theorem dX0_moveOrFail_21 : decode cX0_moveOrFail 21 = .ok (.aload_n 1, 1) := by decide +kernel
theorem dX0_moveOrFail_22 : decode cX0_moveOrFail 22 = .ok (.aload_n 0, 1) := by decide +kernel
theorem dX0_moveOrFail_23 : decode cX0_moveOrFail 23 = .ok (.getfield 34, 3) := by decide +kernel
theorem dX0_moveOrFail_26 : decode cX0_moveOrFail 26 = .ok (.putfield 116, 3) := by decide +kernel
theorem dX0_moveOrFail_29 : decode cX0_moveOrFail 29 = .ok (.aload_n 2, 1) := by decide +kernel
theorem dX0_moveOrFail_30 : decode cX0_moveOrFail 30 = .ok (.iconst 1, 1) := by decide +kernel
theorem dX0_moveOrFail_31 : decode cX0_moveOrFail 31 = .ok (.putfield 127, 3) := by decide +kernel
theorem dX0_moveOrFail_34 : decode cX0_moveOrFail 34 = .ok (.aload_n 0, 1) := by decide +kernel
theorem dX0_moveOrFail_35 : decode cX0_moveOrFail 35 = .ok (.dup, 1) := by decide +kernel
theorem dX0_moveOrFail_36 : decode cX0_moveOrFail 36 = .ok (.getfield 131, 3) := by decide +kernel
theorem dX0_moveOrFail_39 : decode cX0_moveOrFail 39 = .ok (.iconst 1, 1) := by decide +kernel
theorem dX0_moveOrFail_40 : decode cX0_moveOrFail 40 = .ok (.iadd, 1) := by decide +kernel
theorem dX0_moveOrFail_41 : decode cX0_moveOrFail 41 = .ok (.putfield 131, 3) := by decide +kernel
theorem dX0_moveOrFail_44 : decode cX0_moveOrFail 44 = .ok (.return_, 1) := by decide +kernel
theorem dX0_moveOrFail_45 : decode cX0_moveOrFail 45 = .ok (.aload_n 2, 1) := by decide +kernel
theorem dX0_moveOrFail_46 : decode cX0_moveOrFail 46 = .ok (.getfield 134, 3) := by decide +kernel
theorem dX0_moveOrFail_49 : decode cX0_moveOrFail 49 = .ok (.aload_n 1, 1) := by decide +kernel
theorem dX0_moveOrFail_50 : decode cX0_moveOrFail 50 = .ok (.getfield 137, 3) := by decide +kernel
theorem dX0_moveOrFail_53 : decode cX0_moveOrFail 53 = .ok (.aconst_null, 1) := by decide +kernel
theorem dX0_moveOrFail_54 : decode cX0_moveOrFail 54 = .ok (.aastore, 1) := by decide +kernel
theorem dX0_moveOrFail_55 : decode cX0_moveOrFail 55 = .ok (.aload_n 3, 1) := by decide +kernel
theorem dX0_moveOrFail_56 : decode cX0_moveOrFail 56 = .ok (.aload_n 1, 1) := by decide +kernel
theorem dX0_moveOrFail_57 : decode cX0_moveOrFail 57 = .ok (.invokevirtual 140, 3) := by decide +kernel
theorem dX0_moveOrFail_60 : decode cX0_moveOrFail 60 = .ok (.aload_n 0, 1) := by decide +kernel
theorem dX0_moveOrFail_61 : decode cX0_moveOrFail 61 = .ok (.dup, 1) := by decide +kernel
theorem dX0_moveOrFail_62 : decode cX0_moveOrFail 62 = .ok (.getfield 141, 3) := by decide +kernel
theorem dX0_moveOrFail_65 : decode cX0_moveOrFail 65 = .ok (.iconst 1, 1) := by decide +kernel
theorem dX0_moveOrFail_66 : decode cX0_moveOrFail 66 = .ok (.iadd, 1) := by decide +kernel
theorem dX0_moveOrFail_67 : decode cX0_moveOrFail 67 = .ok (.putfield 141, 3) := by decide +kernel
theorem dX0_moveOrFail_70 : decode cX0_moveOrFail 70 = .ok (.return_, 1) := by decide +kernel
theorem dX0_updateNext_0 : decode cX0_updateNext 0 = .ok (.aload_n 0, 1) := by decide +kernel
theorem dX0_updateNext_1 : decode cX0_updateNext 1 = .ok (.dup, 1) := by decide +kernel
theorem dX0_updateNext_2 : decode cX0_updateNext 2 = .ok (.getfield 109, 3) := by decide +kernel
theorem dX0_updateNext_5 : decode cX0_updateNext 5 = .ok (.iconst 1, 1) := by decide +kernel
theorem dX0_updateNext_6 : decode cX0_updateNext 6 = .ok (.iadd, 1) := by decide +kernel
theorem dX0_updateNext_7 : decode cX0_updateNext 7 = .ok (.putfield 109, 3) := by decide +kernel
theorem dX0_updateNext_10 : decode cX0_updateNext 10 = .ok (.aload_n 0, 1) := by decide +kernel
theorem dX0_updateNext_11 : decode cX0_updateNext 11 = .ok (.getfield 109, 3) := by decide +kernel
theorem dX0_updateNext_14 : decode cX0_updateNext 14 = .ok (.aload_n 0, 1) := by decide +kernel
theorem dX0_updateNext_15 : decode cX0_updateNext 15 = .ok (.getfield 14, 3) := by decide +kernel
theorem dX0_updateNext_18 : decode cX0_updateNext 18 = .ok (.getfield 86, 3) := by decide +kernel
theorem dX0_updateNext_21 : decode cX0_updateNext 21 = .ok (.arraylength, 1) := by decide +kernel
theorem dX0_updateNext_22 : decode cX0_updateNext 22 = .ok (.if_icmp .lt 7, 3) := by decide +kernel
theorem dX0_updateNext_25 : decode cX0_updateNext 25 = .ok (.aload_n 0, 1) := by decide +kernel
theorem dX0_updateNext_26 : decode cX0_updateNext 26 = .ok (.invokevirtual 144, 3) := by decide +kernel
theorem dX0_updateNext_29 : decode cX0_updateNext 29 = .ok (.return_, 1) := by decide +kernel
theorem dX0_endCycle_0 : decode cX0_endCycle 0 = .ok (.aload_n 0, 1) := by decide +kernel
theorem dX0_endCycle_1 : decode cX0_endCycle 1 = .ok (.getfield 14, 3) := by decide +kernel
theorem dX0_endCycle_4 : decode cX0_endCycle 4 = .ok (.getfield 86, 3) := by decide +kernel
theorem dX0_endCycle_7 : decode cX0_endCycle 7 = .ok (.astore_n 1, 1) := by decide +kernel
theorem dX0_endCycle_8 : decode cX0_endCycle 8 = .ok (.aload_n 1, 1) := by decide +kernel
theorem dX0_endCycle_9 : decode cX0_endCycle 9 = .ok (.arraylength, 1) := by decide +kernel
theorem dX0_endCycle_10 : decode cX0_endCycle 10 = .ok (.istore_n 2, 1) := by decide +kernel
theorem dX0_endCycle_11 : decode cX0_endCycle 11 = .ok (.iconst 0, 1) := by decide +kernel
theorem dX0_endCycle_12 : decode cX0_endCycle 12 = .ok (.istore_n 3, 1) := by decide +kernel
theorem dX0_endCycle_13 : decode cX0_endCycle 13 = .ok (.iload_n 3, 1) := by decide +kernel
theorem dX0_endCycle_14 : decode cX0_endCycle 14 = .ok (.iload_n 2, 1) := by decide +kernel
theorem dX0_endCycle_15 : decode cX0_endCycle 15 = .ok (.if_icmp .ge 28, 3) := by decide +kernel
theorem dX0_endCycle_18 : decode cX0_endCycle 18 = .ok (.aload_n 1, 1) := by decide +kernel
theorem dX0_endCycle_19 : decode cX0_endCycle 19 = .ok (.iload_n 3, 1) := by decide +kernel
theorem dX0_endCycle_20 : decode cX0_endCycle 20 = .ok (.aaload, 1) := by decide +kernel
theorem dX0_endCycle_21 : decode cX0_endCycle 21 = .ok (.astore 4, 2) := by decide +kernel
theorem dX0_endCycle_23 : decode cX0_endCycle 23 = .ok (.aload 4, 2) := by decide +kernel
theorem dX0_endCycle_25 : decode cX0_endCycle 25 = .ok (.getfield 90, 3) := by decide +kernel
theorem dX0_endCycle_28 : decode cX0_endCycle 28 = .ok (.iconst 4, 1) := by decide +kernel
theorem dX0_endCycle_29 : decode cX0_endCycle 29 = .ok (.if_icmp .ne 8, 3) := by decide +kernel
theorem dX0_endCycle_32 : decode cX0_endCycle 32 = .ok (.aload 4, 2) := by decide +kernel
theorem dX0_endCycle_34 : decode cX0_endCycle 34 = .ok (.invokevirtual 147, 3) := by decide +kernel
theorem dX0_endCycle_37 : decode cX0_endCycle 37 = .ok (.iinc 3 1, 3) := by decide +kernel
theorem dX0_endCycle_40 : decode cX0_endCycle 40 = .ok (.goto (-27), 3) := by decide +kernel
theorem dX0_endCycle_43 : decode cX0_endCycle 43 = .ok (.aload_n 0, 1) := by decide +kernel
theorem dX0_endCycle_44 : decode cX0_endCycle 44 = .ok (.getfield 14, 3) := by decide +kernel
theorem dX0_endCycle_47 : decode cX0_endCycle 47 = .ok (.invokevirtual 150, 3) := by decide +kernel
theorem dX0_endCycle_50 : decode cX0_endCycle 50 = .ok (.aload_n 0, 1) := by decide +kernel
theorem dX0_endCycle_51 : decode cX0_endCycle 51 = .ok (.iconst 0, 1) := by decide +kernel
theorem dX0_endCycle_52 : decode cX0_endCycle 52 = .ok (.putfield 31, 3) := by decide +kernel
theorem dX0_endCycle_55 : decode cX0_endCycle 55 = .ok (.return_, 1) := by decide +kernel
theorem dX1_init_0 : decode cX1_init 0 = .ok (.aload_n 0, 1) := by decide +kernel
theorem dX1_init_1 : decode cX1_init 1 = .ok (.invokespecial 3, 3) := by decide +kernel
theorem dX1_init_4 : decode cX1_init 4 = .ok (.aload_n 0, 1) := by decide +kernel
theorem dX1_init_5 : decode cX1_init 5 = .ok (.aload_n 1, 1) := by decide +kernel
theorem dX1_init_6 : decode cX1_init 6 = .ok (.putfield 9, 3) := by decide +kernel
theorem dX1_init_9 : decode cX1_init 9 = .ok (.aload_n 0, 1) := by decide +kernel
theorem dX1_init_10 : decode cX1_init 10 = .ok (.iload_n 3, 1) := by decide +kernel
theorem dX1_init_11 : decode cX1_init 11 = .ok (.putfield 15, 3) := by decide +kernel
theorem dX1_init_14 : decode cX1_init 14 = .ok (.aload_n 0, 1) := by decide +kernel
theorem dX1_init_15 : decode cX1_init 15 = .ok (.iload_n 2, 1) := by decide +kernel
theorem dX1_init_16 : decode cX1_init 16 = .ok (.anewarray 10, 3) := by decide +kernel
theorem dX1_init_19 : decode cX1_init 19 = .ok (.putfield 19, 3) := by decide +kernel
theorem dX1_init_22 : decode cX1_init 22 = .ok (.aload_n 0, 1) := by decide +kernel
theorem dX1_init_23 : decode cX1_init 23 = .ok (.iconst (-1), 1) := by decide +kernel
theorem dX1_init_24 : decode cX1_init 24 = .ok (.putfield 23, 3) := by decide +kernel
theorem dX1_init_27 : decode cX1_init 27 = .ok (.aload_n 0, 1) := by decide +kernel
theorem dX1_init_28 : decode cX1_init 28 = .ok (.iconst (-1), 1) := by decide +kernel
theorem dX1_init_29 : decode cX1_init 29 = .ok (.putfield 26, 3) := by decide +kernel
theorem dX1_init_32 : decode cX1_init 32 = .ok (.return_, 1) := by decide +kernel
theorem dX1_words_0 : decode cX1_words 0 = .ok (.aload_n 0, 1) := by decide +kernel
theorem dX1_words_1 : decode cX1_words 1 = .ok (.getfield 19, 3) := by decide +kernel
theorem dX1_words_4 : decode cX1_words 4 = .ok (.arraylength, 1) := by decide +kernel
theorem dX1_words_5 : decode cX1_words 5 = .ok (.iconst 2, 1) := by decide +kernel
theorem dX1_words_6 : decode cX1_words 6 = .ok (.iadd, 1) := by decide +kernel
theorem dX1_words_7 : decode cX1_words 7 = .ok (.ireturn, 1) := by decide +kernel
theorem dX2_init_0 : decode cX2_init 0 = .ok (.aload_n 0, 1) := by decide +kernel
theorem dX2_init_1 : decode cX2_init 1 = .ok (.invokespecial 3, 3) := by decide +kernel
theorem dX2_init_4 : decode cX2_init 4 = .ok (.aload_n 0, 1) := by decide +kernel
theorem dX2_init_5 : decode cX2_init 5 = .ok (.bipush 10, 2) := by decide +kernel
theorem dX2_init_7 : decode cX2_init 7 = .ok (.anewarray 9, 3) := by decide +kernel
theorem dX2_init_10 : decode cX2_init 10 = .ok (.putfield 11, 3) := by decide +kernel
theorem dX2_init_13 : decode cX2_init 13 = .ok (.aload_n 0, 1) := by decide +kernel
theorem dX2_init_14 : decode cX2_init 14 = .ok (.iload_n 1, 1) := by decide +kernel
theorem dX2_init_15 : decode cX2_init 15 = .ok (.anewarray 17, 3) := by decide +kernel
theorem dX2_init_18 : decode cX2_init 18 = .ok (.putfield 19, 3) := by decide +kernel
theorem dX2_init_21 : decode cX2_init 21 = .ok (.iconst 0, 1) := by decide +kernel
theorem dX2_init_22 : decode cX2_init 22 = .ok (.istore_n 2, 1) := by decide +kernel
theorem dX2_init_23 : decode cX2_init 23 = .ok (.iload_n 2, 1) := by decide +kernel
theorem dX2_init_24 : decode cX2_init 24 = .ok (.iload_n 1, 1) := by decide +kernel
theorem dX2_init_25 : decode cX2_init 25 = .ok (.if_icmp .ge 23, 3) := by decide +kernel
theorem dX2_init_28 : decode cX2_init 28 = .ok (.aload_n 0, 1) := by decide +kernel
theorem dX2_init_29 : decode cX2_init 29 = .ok (.getfield 19, 3) := by decide +kernel
theorem dX2_init_32 : decode cX2_init 32 = .ok (.iload_n 2, 1) := by decide +kernel
theorem dX2_init_33 : decode cX2_init 33 = .ok (.new 17, 3) := by decide +kernel
theorem dX2_init_36 : decode cX2_init 36 = .ok (.dup, 1) := by decide +kernel
theorem dX2_init_37 : decode cX2_init 37 = .ok (.iload_n 2, 1) := by decide +kernel
theorem dX2_init_38 : decode cX2_init 38 = .ok (.invokespecial 23, 3) := by decide +kernel
theorem dX2_init_41 : decode cX2_init 41 = .ok (.aastore, 1) := by decide +kernel
theorem dX2_init_42 : decode cX2_init 42 = .ok (.iinc 2 1, 3) := by decide +kernel
theorem dX2_init_45 : decode cX2_init 45 = .ok (.goto (-22), 3) := by decide +kernel
theorem dX2_init_48 : decode cX2_init 48 = .ok (.return_, 1) := by decide +kernel
theorem dX2_leastFree_0 : decode cX2_leastFree 0 = .ok (.aload_n 0, 1) := by decide +kernel
theorem dX2_leastFree_1 : decode cX2_leastFree 1 = .ok (.getfield 19, 3) := by decide +kernel
theorem dX2_leastFree_4 : decode cX2_leastFree 4 = .ok (.astore_n 1, 1) := by decide +kernel
theorem dX2_leastFree_5 : decode cX2_leastFree 5 = .ok (.aload_n 1, 1) := by decide +kernel
theorem dX2_leastFree_6 : decode cX2_leastFree 6 = .ok (.arraylength, 1) := by decide +kernel
theorem dX2_leastFree_7 : decode cX2_leastFree 7 = .ok (.istore_n 2, 1) := by decide +kernel
theorem dX2_leastFree_8 : decode cX2_leastFree 8 = .ok (.iconst 0, 1) := by decide +kernel
theorem dX2_leastFree_9 : decode cX2_leastFree 9 = .ok (.istore_n 3, 1) := by decide +kernel
theorem dX2_leastFree_10 : decode cX2_leastFree 10 = .ok (.iload_n 3, 1) := by decide +kernel
theorem dX2_leastFree_11 : decode cX2_leastFree 11 = .ok (.iload_n 2, 1) := by decide +kernel
theorem dX2_leastFree_12 : decode cX2_leastFree 12 = .ok (.if_icmp .ge 25, 3) := by decide +kernel
theorem dX2_leastFree_15 : decode cX2_leastFree 15 = .ok (.aload_n 1, 1) := by decide +kernel
theorem dX2_leastFree_16 : decode cX2_leastFree 16 = .ok (.iload_n 3, 1) := by decide +kernel
theorem dX2_leastFree_17 : decode cX2_leastFree 17 = .ok (.aaload, 1) := by decide +kernel
theorem dX2_leastFree_18 : decode cX2_leastFree 18 = .ok (.astore 4, 2) := by decide +kernel
theorem dX2_leastFree_20 : decode cX2_leastFree 20 = .ok (.aload 4, 2) := by decide +kernel
theorem dX2_leastFree_22 : decode cX2_leastFree 22 = .ok (.getfield 26, 3) := by decide +kernel
theorem dX2_leastFree_25 : decode cX2_leastFree 25 = .ok (.ifCond .ne 6, 3) := by decide +kernel
theorem dX2_leastFree_28 : decode cX2_leastFree 28 = .ok (.aload 4, 2) := by decide +kernel
theorem dX2_leastFree_30 : decode cX2_leastFree 30 = .ok (.areturn, 1) := by decide +kernel
theorem dX2_leastFree_31 : decode cX2_leastFree 31 = .ok (.iinc 3 1, 3) := by decide +kernel
theorem dX2_leastFree_34 : decode cX2_leastFree 34 = .ok (.goto (-24), 3) := by decide +kernel
theorem dX2_leastFree_37 : decode cX2_leastFree 37 = .ok (.aconst_null, 1) := by decide +kernel
theorem dX2_leastFree_38 : decode cX2_leastFree 38 = .ok (.areturn, 1) := by decide +kernel
theorem dX2_countFree_0 : decode cX2_countFree 0 = .ok (.iconst 0, 1) := by decide +kernel
theorem dX2_countFree_1 : decode cX2_countFree 1 = .ok (.istore_n 1, 1) := by decide +kernel
theorem dX2_countFree_2 : decode cX2_countFree 2 = .ok (.aload_n 0, 1) := by decide +kernel
theorem dX2_countFree_3 : decode cX2_countFree 3 = .ok (.getfield 19, 3) := by decide +kernel
theorem dX2_countFree_6 : decode cX2_countFree 6 = .ok (.astore_n 2, 1) := by decide +kernel
theorem dX2_countFree_7 : decode cX2_countFree 7 = .ok (.aload_n 2, 1) := by decide +kernel
theorem dX2_countFree_8 : decode cX2_countFree 8 = .ok (.arraylength, 1) := by decide +kernel
theorem dX2_countFree_9 : decode cX2_countFree 9 = .ok (.istore_n 3, 1) := by decide +kernel
theorem dX2_countFree_10 : decode cX2_countFree 10 = .ok (.iconst 0, 1) := by decide +kernel
theorem dX2_countFree_11 : decode cX2_countFree 11 = .ok (.istore 4, 2) := by decide +kernel
theorem dX2_countFree_13 : decode cX2_countFree 13 = .ok (.iload 4, 2) := by decide +kernel
theorem dX2_countFree_15 : decode cX2_countFree 15 = .ok (.iload_n 3, 1) := by decide +kernel
theorem dX2_countFree_16 : decode cX2_countFree 16 = .ok (.if_icmp .ge 26, 3) := by decide +kernel
theorem dX2_countFree_19 : decode cX2_countFree 19 = .ok (.aload_n 2, 1) := by decide +kernel
theorem dX2_countFree_20 : decode cX2_countFree 20 = .ok (.iload 4, 2) := by decide +kernel
theorem dX2_countFree_22 : decode cX2_countFree 22 = .ok (.aaload, 1) := by decide +kernel
theorem dX2_countFree_23 : decode cX2_countFree 23 = .ok (.astore 5, 2) := by decide +kernel
theorem dX2_countFree_25 : decode cX2_countFree 25 = .ok (.aload 5, 2) := by decide +kernel
theorem dX2_countFree_27 : decode cX2_countFree 27 = .ok (.getfield 26, 3) := by decide +kernel
theorem dX2_countFree_30 : decode cX2_countFree 30 = .ok (.ifCond .ne 6, 3) := by decide +kernel
theorem dX2_countFree_33 : decode cX2_countFree 33 = .ok (.iinc 1 1, 3) := by decide +kernel
theorem dX2_countFree_36 : decode cX2_countFree 36 = .ok (.iinc 4 1, 3) := by decide +kernel
theorem dX2_countFree_39 : decode cX2_countFree 39 = .ok (.goto (-26), 3) := by decide +kernel
theorem dX2_countFree_42 : decode cX2_countFree 42 = .ok (.iload_n 1, 1) := by decide +kernel
theorem dX2_countFree_43 : decode cX2_countFree 43 = .ok (.ireturn, 1) := by decide +kernel
theorem dX2_activeWithRoom_0 : decode cX2_activeWithRoom 0 = .ok (.aload_n 0, 1) := by decide +kernel
theorem dX2_activeWithRoom_1 : decode cX2_activeWithRoom 1 = .ok (.getfield 30, 3) := by decide +kernel
theorem dX2_activeWithRoom_4 : decode cX2_activeWithRoom 4 = .ok (.ifnull 27, 3) := by decide +kernel
theorem dX2_activeWithRoom_7 : decode cX2_activeWithRoom 7 = .ok (.aload_n 0, 1) := by decide +kernel
theorem dX2_activeWithRoom_8 : decode cX2_activeWithRoom 8 = .ok (.getfield 30, 3) := by decide +kernel
theorem dX2_activeWithRoom_11 : decode cX2_activeWithRoom 11 = .ok (.iload_n 1, 1) := by decide +kernel
theorem dX2_activeWithRoom_12 : decode cX2_activeWithRoom 12 = .ok (.invokevirtual 34, 3) := by decide +kernel
theorem dX2_activeWithRoom_15 : decode cX2_activeWithRoom 15 = .ok (.ifCond .ne 16, 3) := by decide +kernel
theorem dX2_activeWithRoom_18 : decode cX2_activeWithRoom 18 = .ok (.aload_n 0, 1) := by decide +kernel
theorem dX2_activeWithRoom_19 : decode cX2_activeWithRoom 19 = .ok (.getfield 30, 3) := by decide +kernel
theorem dX2_activeWithRoom_22 : decode cX2_activeWithRoom 22 = .ok (.iconst 3, 1) := by decide +kernel
theorem dX2_activeWithRoom_23 : decode cX2_activeWithRoom 23 = .ok (.putfield 26, 3) := by decide +kernel
theorem dX2_activeWithRoom_26 : decode cX2_activeWithRoom 26 = .ok (.aload_n 0, 1) := by decide +kernel
theorem dX2_activeWithRoom_27 : decode cX2_activeWithRoom 27 = .ok (.aconst_null, 1) := by decide +kernel
theorem dX2_activeWithRoom_28 : decode cX2_activeWithRoom 28 = .ok (.putfield 30, 3) := by decide +kernel
theorem dX2_activeWithRoom_31 : decode cX2_activeWithRoom 31 = .ok (.aload_n 0, 1) := by decide +kernel
theorem dX2_activeWithRoom_32 : decode cX2_activeWithRoom 32 = .ok (.getfield 30, 3) := by decide +kernel
theorem dX2_activeWithRoom_35 : decode cX2_activeWithRoom 35 = .ok (.ifnonnull 26, 3) := by decide +kernel
theorem dX2_activeWithRoom_38 : decode cX2_activeWithRoom 38 = .ok (.aload_n 0, 1) := by decide +kernel
theorem dX2_activeWithRoom_39 : decode cX2_activeWithRoom 39 = .ok (.aload_n 0, 1) := by decide +kernel
theorem dX2_activeWithRoom_40 : decode cX2_activeWithRoom 40 = .ok (.invokevirtual 38, 3) := by decide +kernel
theorem dX2_activeWithRoom_43 : decode cX2_activeWithRoom 43 = .ok (.putfield 30, 3) := by decide +kernel
theorem dX2_activeWithRoom_46 : decode cX2_activeWithRoom 46 = .ok (.aload_n 0, 1) := by decide +kernel
theorem dX2_activeWithRoom_47 : decode cX2_activeWithRoom 47 = .ok (.getfield 30, 3) := by decide +kernel
theorem dX2_activeWithRoom_50 : decode cX2_activeWithRoom 50 = .ok (.ifnull 11, 3) := by decide +kernel
theorem dX2_activeWithRoom_53 : decode cX2_activeWithRoom 53 = .ok (.aload_n 0, 1) := by decide +kernel
theorem dX2_activeWithRoom_54 : decode cX2_activeWithRoom 54 = .ok (.getfield 30, 3) := by decide +kernel
theorem dX2_activeWithRoom_57 : decode cX2_activeWithRoom 57 = .ok (.iconst 1, 1) := by decide +kernel
theorem dX2_activeWithRoom_58 : decode cX2_activeWithRoom 58 = .ok (.putfield 26, 3) := by decide +kernel
theorem dX2_activeWithRoom_61 : decode cX2_activeWithRoom 61 = .ok (.aload_n 0, 1) := by decide +kernel
theorem dX2_activeWithRoom_62 : decode cX2_activeWithRoom 62 = .ok (.getfield 30, 3) := by decide +kernel
theorem dX2_activeWithRoom_65 : decode cX2_activeWithRoom 65 = .ok (.areturn, 1) := by decide +kernel
theorem dX2_targetWithRoom_0 : decode cX2_targetWithRoom 0 = .ok (.aload_n 0, 1) := by decide +kernel
theorem dX2_targetWithRoom_1 : decode cX2_targetWithRoom 1 = .ok (.getfield 42, 3) := by decide +kernel
theorem dX2_targetWithRoom_4 : decode cX2_targetWithRoom 4 = .ok (.ifnull 19, 3) := by decide +kernel
theorem dX2_targetWithRoom_7 : decode cX2_targetWithRoom 7 = .ok (.aload_n 0, 1) := by decide +kernel
theorem dX2_targetWithRoom_8 : decode cX2_targetWithRoom 8 = .ok (.getfield 42, 3) := by decide +kernel
theorem dX2_targetWithRoom_11 : decode cX2_targetWithRoom 11 = .ok (.iload_n 1, 1) := by decide +kernel
theorem dX2_targetWithRoom_12 : decode cX2_targetWithRoom 12 = .ok (.invokevirtual 34, 3) := by decide +kernel
theorem dX2_targetWithRoom_15 : decode cX2_targetWithRoom 15 = .ok (.ifCond .eq 8, 3) := by decide +kernel
theorem dX2_targetWithRoom_18 : decode cX2_targetWithRoom 18 = .ok (.aload_n 0, 1) := by decide +kernel
theorem dX2_targetWithRoom_19 : decode cX2_targetWithRoom 19 = .ok (.getfield 42, 3) := by decide +kernel
theorem dX2_targetWithRoom_22 : decode cX2_targetWithRoom 22 = .ok (.areturn, 1) := by decide +kernel
theorem dX2_targetWithRoom_23 : decode cX2_targetWithRoom 23 = .ok (.aload_n 0, 1) := by decide +kernel
theorem dX2_targetWithRoom_24 : decode cX2_targetWithRoom 24 = .ok (.invokevirtual 38, 3) := by decide +kernel
theorem dX2_targetWithRoom_27 : decode cX2_targetWithRoom 27 = .ok (.astore_n 2, 1) := by decide +kernel
theorem dX2_targetWithRoom_28 : decode cX2_targetWithRoom 28 = .ok (.aload_n 2, 1) := by decide +kernel
theorem dX2_targetWithRoom_29 : decode cX2_targetWithRoom 29 = .ok (.ifnull 17, 3) := by decide +kernel
theorem dX2_targetWithRoom_32 : decode cX2_targetWithRoom 32 = .ok (.aload_n 0, 1) := by decide +kernel
theorem dX2_targetWithRoom_33 : decode cX2_targetWithRoom 33 = .ok (.invokevirtual 45, 3) := by decide +kernel
theorem dX2_targetWithRoom_36 : decode cX2_targetWithRoom 36 = .ok (.aload_n 2, 1) := by decide +kernel
theorem dX2_targetWithRoom_37 : decode cX2_targetWithRoom 37 = .ok (.iconst 2, 1) := by decide +kernel
theorem dX2_targetWithRoom_38 : decode cX2_targetWithRoom 38 = .ok (.putfield 26, 3) := by decide +kernel
theorem dX2_targetWithRoom_41 : decode cX2_targetWithRoom 41 = .ok (.aload_n 0, 1) := by decide +kernel
theorem dX2_targetWithRoom_42 : decode cX2_targetWithRoom 42 = .ok (.aload_n 2, 1) := by decide +kernel
theorem dX2_targetWithRoom_43 : decode cX2_targetWithRoom 43 = .ok (.putfield 42, 3) := by decide +kernel
theorem dX2_targetWithRoom_46 : decode cX2_targetWithRoom 46 = .ok (.aload_n 2, 1) := by decide +kernel
theorem dX2_targetWithRoom_47 : decode cX2_targetWithRoom 47 = .ok (.areturn, 1) := by decide +kernel
theorem dX2_closeTarget_0 : decode cX2_closeTarget 0 = .ok (.aload_n 0, 1) := by decide +kernel
theorem dX2_closeTarget_1 : decode cX2_closeTarget 1 = .ok (.getfield 42, 3) := by decide +kernel
theorem dX2_closeTarget_4 : decode cX2_closeTarget 4 = .ok (.ifnull 16, 3) := by decide +kernel
theorem dX2_closeTarget_7 : decode cX2_closeTarget 7 = .ok (.aload_n 0, 1) := by decide +kernel
theorem dX2_closeTarget_8 : decode cX2_closeTarget 8 = .ok (.getfield 42, 3) := by decide +kernel
theorem dX2_closeTarget_11 : decode cX2_closeTarget 11 = .ok (.iconst 3, 1) := by decide +kernel
theorem dX2_closeTarget_12 : decode cX2_closeTarget 12 = .ok (.putfield 26, 3) := by decide +kernel
theorem dX2_closeTarget_15 : decode cX2_closeTarget 15 = .ok (.aload_n 0, 1) := by decide +kernel
theorem dX2_closeTarget_16 : decode cX2_closeTarget 16 = .ok (.aconst_null, 1) := by decide +kernel
theorem dX2_closeTarget_17 : decode cX2_closeTarget 17 = .ok (.putfield 42, 3) := by decide +kernel
theorem dX2_closeTarget_20 : decode cX2_closeTarget 20 = .ok (.return_, 1) := by decide +kernel
theorem dX3_init_0 : decode cX3_init 0 = .ok (.aload_n 0, 1) := by decide +kernel
theorem dX3_init_1 : decode cX3_init 1 = .ok (.invokespecial 3, 3) := by decide +kernel
theorem dX3_init_4 : decode cX3_init 4 = .ok (.aload_n 0, 1) := by decide +kernel
theorem dX3_init_5 : decode cX3_init 5 = .ok (.iload_n 1, 1) := by decide +kernel
theorem dX3_init_6 : decode cX3_init 6 = .ok (.putfield 9, 3) := by decide +kernel
theorem dX3_init_9 : decode cX3_init 9 = .ok (.aload_n 0, 1) := by decide +kernel
theorem dX3_init_10 : decode cX3_init 10 = .ok (.sipush 128, 3) := by decide +kernel
theorem dX3_init_13 : decode cX3_init 13 = .ok (.anewarray 15, 3) := by decide +kernel
theorem dX3_init_16 : decode cX3_init 16 = .ok (.putfield 17, 3) := by decide +kernel
theorem dX3_init_19 : decode cX3_init 19 = .ok (.aload_n 0, 1) := by decide +kernel
theorem dX3_init_20 : decode cX3_init 20 = .ok (.iconst 0, 1) := by decide +kernel
theorem dX3_init_21 : decode cX3_init 21 = .ok (.putfield 21, 3) := by decide +kernel
theorem dX3_init_24 : decode cX3_init 24 = .ok (.return_, 1) := by decide +kernel
theorem dX3_hasRoom_0 : decode cX3_hasRoom 0 = .ok (.aload_n 0, 1) := by decide +kernel
theorem dX3_hasRoom_1 : decode cX3_hasRoom 1 = .ok (.getfield 24, 3) := by decide +kernel
theorem dX3_hasRoom_4 : decode cX3_hasRoom 4 = .ok (.iload_n 1, 1) := by decide +kernel
theorem dX3_hasRoom_5 : decode cX3_hasRoom 5 = .ok (.iadd, 1) := by decide +kernel
theorem dX3_hasRoom_6 : decode cX3_hasRoom 6 = .ok (.sipush 128, 3) := by decide +kernel
theorem dX3_hasRoom_9 : decode cX3_hasRoom 9 = .ok (.if_icmp .gt 7, 3) := by decide +kernel
theorem dX3_hasRoom_12 : decode cX3_hasRoom 12 = .ok (.iconst 1, 1) := by decide +kernel
theorem dX3_hasRoom_13 : decode cX3_hasRoom 13 = .ok (.goto 4, 3) := by decide +kernel
theorem dX3_hasRoom_16 : decode cX3_hasRoom 16 = .ok (.iconst 0, 1) := by decide +kernel
theorem dX3_hasRoom_17 : decode cX3_hasRoom 17 = .ok (.ireturn, 1) := by decide +kernel
theorem dX3_append_0 : decode cX3_append 0 = .ok (.aload_n 1, 1) := by decide +kernel
theorem dX3_append_1 : decode cX3_append 1 = .ok (.aload_n 0, 1) := by decide +kernel
theorem dX3_append_2 : decode cX3_append 2 = .ok (.putfield 27, 3) := by decide +kernel
theorem dX3_append_5 : decode cX3_append 5 = .ok (.aload_n 1, 1) := by decide +kernel
theorem dX3_append_6 : decode cX3_append 6 = .ok (.aload_n 0, 1) := by decide +kernel
theorem dX3_append_7 : decode cX3_append 7 = .ok (.getfield 24, 3) := by decide +kernel
theorem dX3_append_10 : decode cX3_append 10 = .ok (.putfield 31, 3) := by decide +kernel
theorem dX3_append_13 : decode cX3_append 13 = .ok (.aload_n 0, 1) := by decide +kernel
theorem dX3_append_14 : decode cX3_append 14 = .ok (.getfield 17, 3) := by decide +kernel
theorem dX3_append_17 : decode cX3_append 17 = .ok (.aload_n 0, 1) := by decide +kernel
theorem dX3_append_18 : decode cX3_append 18 = .ok (.getfield 24, 3) := by decide +kernel
theorem dX3_append_21 : decode cX3_append 21 = .ok (.aload_n 1, 1) := by decide +kernel
theorem dX3_append_22 : decode cX3_append 22 = .ok (.aastore, 1) := by decide +kernel
theorem dX3_append_23 : decode cX3_append 23 = .ok (.aload_n 0, 1) := by decide +kernel
theorem dX3_append_24 : decode cX3_append 24 = .ok (.dup, 1) := by decide +kernel
theorem dX3_append_25 : decode cX3_append 25 = .ok (.getfield 24, 3) := by decide +kernel
theorem dX3_append_28 : decode cX3_append 28 = .ok (.aload_n 1, 1) := by decide +kernel
theorem dX3_append_29 : decode cX3_append 29 = .ok (.invokevirtual 34, 3) := by decide +kernel
theorem dX3_append_32 : decode cX3_append 32 = .ok (.iadd, 1) := by decide +kernel
theorem dX3_append_33 : decode cX3_append 33 = .ok (.putfield 24, 3) := by decide +kernel
theorem dX3_append_36 : decode cX3_append 36 = .ok (.return_, 1) := by decide +kernel
theorem dX3_seenWords_0 : decode cX3_seenWords 0 = .ok (.iconst 0, 1) := by decide +kernel
theorem dX3_seenWords_1 : decode cX3_seenWords 1 = .ok (.istore_n 2, 1) := by decide +kernel
theorem dX3_seenWords_2 : decode cX3_seenWords 2 = .ok (.iconst 0, 1) := by decide +kernel
theorem dX3_seenWords_3 : decode cX3_seenWords 3 = .ok (.istore_n 3, 1) := by decide +kernel
theorem dX3_seenWords_4 : decode cX3_seenWords 4 = .ok (.iload_n 3, 1) := by decide +kernel
theorem dX3_seenWords_5 : decode cX3_seenWords 5 = .ok (.aload_n 0, 1) := by decide +kernel
theorem dX3_seenWords_6 : decode cX3_seenWords 6 = .ok (.getfield 24, 3) := by decide +kernel
theorem dX3_seenWords_9 : decode cX3_seenWords 9 = .ok (.if_icmp .ge 39, 3) := by decide +kernel
theorem dX3_seenWords_12 : decode cX3_seenWords 12 = .ok (.aload_n 0, 1) := by decide +kernel
theorem dX3_seenWords_13 : decode cX3_seenWords 13 = .ok (.getfield 17, 3) := by decide +kernel
theorem dX3_seenWords_16 : decode cX3_seenWords 16 = .ok (.iload_n 3, 1) := by decide +kernel
theorem dX3_seenWords_17 : decode cX3_seenWords 17 = .ok (.aaload, 1) := by decide +kernel
theorem dX3_seenWords_18 : decode cX3_seenWords 18 = .ok (.astore 4, 2) := by decide +kernel
theorem dX3_seenWords_20 : decode cX3_seenWords 20 = .ok (.aload 4, 2) := by decide +kernel
theorem dX3_seenWords_22 : decode cX3_seenWords 22 = .ok (.ifnull 20, 3) := by decide +kernel
theorem dX3_seenWords_25 : decode cX3_seenWords 25 = .ok (.aload 4, 2) := by decide +kernel
theorem dX3_seenWords_27 : decode cX3_seenWords 27 = .ok (.getfield 38, 3) := by decide +kernel
theorem dX3_seenWords_30 : decode cX3_seenWords 30 = .ok (.iload_n 1, 1) := by decide +kernel
theorem dX3_seenWords_31 : decode cX3_seenWords 31 = .ok (.if_icmp .ne 11, 3) := by decide +kernel
theorem dX3_seenWords_34 : decode cX3_seenWords 34 = .ok (.iload_n 2, 1) := by decide +kernel
theorem dX3_seenWords_35 : decode cX3_seenWords 35 = .ok (.aload 4, 2) := by decide +kernel
theorem dX3_seenWords_37 : decode cX3_seenWords 37 = .ok (.invokevirtual 34, 3) := by decide +kernel
theorem dX3_seenWords_40 : decode cX3_seenWords 40 = .ok (.iadd, 1) := by decide +kernel
theorem dX3_seenWords_41 : decode cX3_seenWords 41 = .ok (.istore_n 2, 1) := by decide +kernel
theorem dX3_seenWords_42 : decode cX3_seenWords 42 = .ok (.iinc 3 1, 3) := by decide +kernel
theorem dX3_seenWords_45 : decode cX3_seenWords 45 = .ok (.goto (-41), 3) := by decide +kernel
theorem dX3_seenWords_48 : decode cX3_seenWords 48 = .ok (.iload_n 2, 1) := by decide +kernel
theorem dX3_seenWords_49 : decode cX3_seenWords 49 = .ok (.ireturn, 1) := by decide +kernel
theorem dX3_enterSet_0 : decode cX3_enterSet 0 = .ok (.aload_n 0, 1) := by decide +kernel
theorem dX3_enterSet_1 : decode cX3_enterSet 1 = .ok (.iconst 4, 1) := by decide +kernel
theorem dX3_enterSet_2 : decode cX3_enterSet 2 = .ok (.putfield 21, 3) := by decide +kernel
theorem dX3_enterSet_5 : decode cX3_enterSet 5 = .ok (.aload_n 0, 1) := by decide +kernel
theorem dX3_enterSet_6 : decode cX3_enterSet 6 = .ok (.iconst 0, 1) := by decide +kernel
theorem dX3_enterSet_7 : decode cX3_enterSet 7 = .ok (.putfield 41, 3) := by decide +kernel
theorem dX3_enterSet_10 : decode cX3_enterSet 10 = .ok (.aload_n 0, 1) := by decide +kernel
theorem dX3_enterSet_11 : decode cX3_enterSet 11 = .ok (.iconst 0, 1) := by decide +kernel
theorem dX3_enterSet_12 : decode cX3_enterSet 12 = .ok (.putfield 44, 3) := by decide +kernel
theorem dX3_enterSet_15 : decode cX3_enterSet 15 = .ok (.return_, 1) := by decide +kernel
theorem dX3_nextToMove_0 : decode cX3_nextToMove 0 = .ok (.aload_n 0, 1) := by decide +kernel
theorem dX3_nextToMove_1 : decode cX3_nextToMove 1 = .ok (.getfield 41, 3) := by decide +kernel
theorem dX3_nextToMove_4 : decode cX3_nextToMove 4 = .ok (.aload_n 0, 1) := by decide +kernel
theorem dX3_nextToMove_5 : decode cX3_nextToMove 5 = .ok (.getfield 24, 3) := by decide +kernel
theorem dX3_nextToMove_8 : decode cX3_nextToMove 8 = .ok (.if_icmp .ge 48, 3) := by decide +kernel
theorem dX3_nextToMove_11 : decode cX3_nextToMove 11 = .ok (.aload_n 0, 1) := by decide +kernel
theorem dX3_nextToMove_12 : decode cX3_nextToMove 12 = .ok (.getfield 17, 3) := by decide +kernel
theorem dX3_nextToMove_15 : decode cX3_nextToMove 15 = .ok (.aload_n 0, 1) := by decide +kernel
theorem dX3_nextToMove_16 : decode cX3_nextToMove 16 = .ok (.getfield 41, 3) := by decide +kernel
theorem dX3_nextToMove_19 : decode cX3_nextToMove 19 = .ok (.aaload, 1) := by decide +kernel
theorem dX3_nextToMove_20 : decode cX3_nextToMove 20 = .ok (.astore_n 2, 1) := by decide +kernel
theorem dX3_nextToMove_21 : decode cX3_nextToMove 21 = .ok (.aload_n 2, 1) := by decide +kernel
theorem dX3_nextToMove_22 : decode cX3_nextToMove 22 = .ok (.ifnull 21, 3) := by decide +kernel
theorem dX3_nextToMove_25 : decode cX3_nextToMove 25 = .ok (.aload_n 2, 1) := by decide +kernel
theorem dX3_nextToMove_26 : decode cX3_nextToMove 26 = .ok (.getfield 38, 3) := by decide +kernel
theorem dX3_nextToMove_29 : decode cX3_nextToMove 29 = .ok (.iload_n 1, 1) := by decide +kernel
theorem dX3_nextToMove_30 : decode cX3_nextToMove 30 = .ok (.if_icmp .ne 13, 3) := by decide +kernel
theorem dX3_nextToMove_33 : decode cX3_nextToMove 33 = .ok (.aload_n 2, 1) := by decide +kernel
theorem dX3_nextToMove_34 : decode cX3_nextToMove 34 = .ok (.getfield 48, 3) := by decide +kernel
theorem dX3_nextToMove_37 : decode cX3_nextToMove 37 = .ok (.iload_n 1, 1) := by decide +kernel
theorem dX3_nextToMove_38 : decode cX3_nextToMove 38 = .ok (.if_icmp .eq 5, 3) := by decide +kernel
theorem dX3_nextToMove_41 : decode cX3_nextToMove 41 = .ok (.aload_n 2, 1) := by decide +kernel
theorem dX3_nextToMove_42 : decode cX3_nextToMove 42 = .ok (.areturn, 1) := by decide +kernel
theorem dX3_nextToMove_43 : decode cX3_nextToMove 43 = .ok (.aload_n 0, 1) := by decide +kernel
theorem dX3_nextToMove_44 : decode cX3_nextToMove 44 = .ok (.dup, 1) := by decide +kernel
theorem dX3_nextToMove_45 : decode cX3_nextToMove 45 = .ok (.getfield 41, 3) := by decide +kernel
theorem dX3_nextToMove_48 : decode cX3_nextToMove 48 = .ok (.iconst 1, 1) := by decide +kernel
theorem dX3_nextToMove_49 : decode cX3_nextToMove 49 = .ok (.iadd, 1) := by decide +kernel
theorem dX3_nextToMove_50 : decode cX3_nextToMove 50 = .ok (.putfield 41, 3) := by decide +kernel
theorem dX3_nextToMove_53 : decode cX3_nextToMove 53 = .ok (.goto (-53), 3) := by decide +kernel
theorem dX3_nextToMove_56 : decode cX3_nextToMove 56 = .ok (.aconst_null, 1) := by decide +kernel
theorem dX3_nextToMove_57 : decode cX3_nextToMove 57 = .ok (.areturn, 1) := by decide +kernel
theorem dX3_leaveSet_0 : decode cX3_leaveSet 0 = .ok (.aload_n 0, 1) := by decide +kernel
theorem dX3_leaveSet_1 : decode cX3_leaveSet 1 = .ok (.getfield 44, 3) := by decide +kernel
theorem dX3_leaveSet_4 : decode cX3_leaveSet 4 = .ok (.ifCond .eq 9, 3) := by decide +kernel
theorem dX3_leaveSet_7 : decode cX3_leaveSet 7 = .ok (.aload_n 0, 1) := by decide +kernel
theorem dX3_leaveSet_8 : decode cX3_leaveSet 8 = .ok (.iconst 3, 1) := by decide +kernel
theorem dX3_leaveSet_9 : decode cX3_leaveSet 9 = .ok (.putfield 21, 3) := by decide +kernel
theorem dX3_leaveSet_12 : decode cX3_leaveSet 12 = .ok (.return_, 1) := by decide +kernel
theorem dX3_leaveSet_13 : decode cX3_leaveSet 13 = .ok (.iconst 0, 1) := by decide +kernel
theorem dX3_leaveSet_14 : decode cX3_leaveSet 14 = .ok (.istore_n 1, 1) := by decide +kernel
theorem dX3_leaveSet_15 : decode cX3_leaveSet 15 = .ok (.iload_n 1, 1) := by decide +kernel
theorem dX3_leaveSet_16 : decode cX3_leaveSet 16 = .ok (.aload_n 0, 1) := by decide +kernel
theorem dX3_leaveSet_17 : decode cX3_leaveSet 17 = .ok (.getfield 24, 3) := by decide +kernel
theorem dX3_leaveSet_20 : decode cX3_leaveSet 20 = .ok (.if_icmp .ge 16, 3) := by decide +kernel
theorem dX3_leaveSet_23 : decode cX3_leaveSet 23 = .ok (.aload_n 0, 1) := by decide +kernel
theorem dX3_leaveSet_24 : decode cX3_leaveSet 24 = .ok (.getfield 17, 3) := by decide +kernel
theorem dX3_leaveSet_27 : decode cX3_leaveSet 27 = .ok (.iload_n 1, 1) := by decide +kernel
theorem dX3_leaveSet_28 : decode cX3_leaveSet 28 = .ok (.aconst_null, 1) := by decide +kernel
theorem dX3_leaveSet_29 : decode cX3_leaveSet 29 = .ok (.aastore, 1) := by decide +kernel
theorem dX3_leaveSet_30 : decode cX3_leaveSet 30 = .ok (.iinc 1 1, 3) := by decide +kernel
theorem dX3_leaveSet_33 : decode cX3_leaveSet 33 = .ok (.goto (-18), 3) := by decide +kernel
theorem dX3_leaveSet_36 : decode cX3_leaveSet 36 = .ok (.aload_n 0, 1) := by decide +kernel
theorem dX3_leaveSet_37 : decode cX3_leaveSet 37 = .ok (.iconst 0, 1) := by decide +kernel
theorem dX3_leaveSet_38 : decode cX3_leaveSet 38 = .ok (.putfield 21, 3) := by decide +kernel
theorem dX3_leaveSet_41 : decode cX3_leaveSet 41 = .ok (.aload_n 0, 1) := by decide +kernel
theorem dX3_leaveSet_42 : decode cX3_leaveSet 42 = .ok (.iconst 0, 1) := by decide +kernel
theorem dX3_leaveSet_43 : decode cX3_leaveSet 43 = .ok (.putfield 24, 3) := by decide +kernel
theorem dX3_leaveSet_46 : decode cX3_leaveSet 46 = .ok (.return_, 1) := by decide +kernel
theorem dX4_init_0 : decode cX4_init 0 = .ok (.aload_n 0, 1) := by decide +kernel
theorem dX4_init_1 : decode cX4_init 1 = .ok (.invokespecial 1, 3) := by decide +kernel
theorem dX4_init_4 : decode cX4_init 4 = .ok (.return_, 1) := by decide +kernel
theorem dX4_append_0 : decode cX4_append 0 = .ok (.aload_n 0, 1) := by decide +kernel
theorem dX4_append_1 : decode cX4_append 1 = .ok (.getfield 7, 3) := by decide +kernel
theorem dX4_append_4 : decode cX4_append 4 = .ok (.ifnonnull 11, 3) := by decide +kernel
theorem dX4_append_7 : decode cX4_append 7 = .ok (.aload_n 0, 1) := by decide +kernel
theorem dX4_append_8 : decode cX4_append 8 = .ok (.aload_n 1, 1) := by decide +kernel
theorem dX4_append_9 : decode cX4_append 9 = .ok (.putfield 13, 3) := by decide +kernel
theorem dX4_append_12 : decode cX4_append 12 = .ok (.goto 11, 3) := by decide +kernel
theorem dX4_append_15 : decode cX4_append 15 = .ok (.aload_n 0, 1) := by decide +kernel
theorem dX4_append_16 : decode cX4_append 16 = .ok (.getfield 7, 3) := by decide +kernel
theorem dX4_append_19 : decode cX4_append 19 = .ok (.aload_n 1, 1) := by decide +kernel
theorem dX4_append_20 : decode cX4_append 20 = .ok (.putfield 16, 3) := by decide +kernel
theorem dX4_append_23 : decode cX4_append 23 = .ok (.aload_n 0, 1) := by decide +kernel
theorem dX4_append_24 : decode cX4_append 24 = .ok (.aload_n 1, 1) := by decide +kernel
theorem dX4_append_25 : decode cX4_append 25 = .ok (.putfield 7, 3) := by decide +kernel
theorem dX4_append_28 : decode cX4_append 28 = .ok (.aload_n 0, 1) := by decide +kernel
theorem dX4_append_29 : decode cX4_append 29 = .ok (.dup, 1) := by decide +kernel
theorem dX4_append_30 : decode cX4_append 30 = .ok (.getfield 21, 3) := by decide +kernel
theorem dX4_append_33 : decode cX4_append 33 = .ok (.iconst 1, 1) := by decide +kernel
theorem dX4_append_34 : decode cX4_append 34 = .ok (.iadd, 1) := by decide +kernel
theorem dX4_append_35 : decode cX4_append 35 = .ok (.putfield 21, 3) := by decide +kernel
theorem dX4_append_38 : decode cX4_append 38 = .ok (.return_, 1) := by decide +kernel
theorem dX4_takeFirst_0 : decode cX4_takeFirst 0 = .ok (.aload_n 0, 1) := by decide +kernel
theorem dX4_takeFirst_1 : decode cX4_takeFirst 1 = .ok (.getfield 13, 3) := by decide +kernel
theorem dX4_takeFirst_4 : decode cX4_takeFirst 4 = .ok (.astore_n 1, 1) := by decide +kernel
theorem dX4_takeFirst_5 : decode cX4_takeFirst 5 = .ok (.aload_n 1, 1) := by decide +kernel
theorem dX4_takeFirst_6 : decode cX4_takeFirst 6 = .ok (.ifnonnull 5, 3) := by decide +kernel
theorem dX4_takeFirst_9 : decode cX4_takeFirst 9 = .ok (.aconst_null, 1) := by decide +kernel
theorem dX4_takeFirst_10 : decode cX4_takeFirst 10 = .ok (.areturn, 1) := by decide +kernel
theorem dX4_takeFirst_11 : decode cX4_takeFirst 11 = .ok (.aload_n 0, 1) := by decide +kernel
theorem dX4_takeFirst_12 : decode cX4_takeFirst 12 = .ok (.aload_n 1, 1) := by decide +kernel
theorem dX4_takeFirst_13 : decode cX4_takeFirst 13 = .ok (.getfield 16, 3) := by decide +kernel
theorem dX4_takeFirst_16 : decode cX4_takeFirst 16 = .ok (.putfield 13, 3) := by decide +kernel
theorem dX4_takeFirst_19 : decode cX4_takeFirst 19 = .ok (.aload_n 0, 1) := by decide +kernel
theorem dX4_takeFirst_20 : decode cX4_takeFirst 20 = .ok (.getfield 13, 3) := by decide +kernel
theorem dX4_takeFirst_23 : decode cX4_takeFirst 23 = .ok (.ifnonnull 8, 3) := by decide +kernel
theorem dX4_takeFirst_26 : decode cX4_takeFirst 26 = .ok (.aload_n 0, 1) := by decide +kernel
theorem dX4_takeFirst_27 : decode cX4_takeFirst 27 = .ok (.aconst_null, 1) := by decide +kernel
theorem dX4_takeFirst_28 : decode cX4_takeFirst 28 = .ok (.putfield 7, 3) := by decide +kernel
theorem dX4_takeFirst_31 : decode cX4_takeFirst 31 = .ok (.aload_n 1, 1) := by decide +kernel
theorem dX4_takeFirst_32 : decode cX4_takeFirst 32 = .ok (.aconst_null, 1) := by decide +kernel
theorem dX4_takeFirst_33 : decode cX4_takeFirst 33 = .ok (.putfield 16, 3) := by decide +kernel
theorem dX4_takeFirst_36 : decode cX4_takeFirst 36 = .ok (.aload_n 0, 1) := by decide +kernel
theorem dX4_takeFirst_37 : decode cX4_takeFirst 37 = .ok (.dup, 1) := by decide +kernel
theorem dX4_takeFirst_38 : decode cX4_takeFirst 38 = .ok (.getfield 21, 3) := by decide +kernel
theorem dX4_takeFirst_41 : decode cX4_takeFirst 41 = .ok (.iconst 1, 1) := by decide +kernel
theorem dX4_takeFirst_42 : decode cX4_takeFirst 42 = .ok (.isub, 1) := by decide +kernel
theorem dX4_takeFirst_43 : decode cX4_takeFirst 43 = .ok (.putfield 21, 3) := by decide +kernel
theorem dX4_takeFirst_46 : decode cX4_takeFirst 46 = .ok (.aload_n 1, 1) := by decide +kernel
theorem dX4_takeFirst_47 : decode cX4_takeFirst 47 = .ok (.areturn, 1) := by decide +kernel
theorem dX5_init_0 : decode cX5_init 0 = .ok (.aload_n 0, 1) := by decide +kernel
theorem dX5_init_1 : decode cX5_init 1 = .ok (.invokespecial 1, 3) := by decide +kernel
theorem dX5_init_4 : decode cX5_init 4 = .ok (.aload_n 0, 1) := by decide +kernel
theorem dX5_init_5 : decode cX5_init 5 = .ok (.new 7, 3) := by decide +kernel
theorem dX5_init_8 : decode cX5_init 8 = .ok (.dup, 1) := by decide +kernel
theorem dX5_init_9 : decode cX5_init 9 = .ok (.iload_n 1, 1) := by decide +kernel
theorem dX5_init_10 : decode cX5_init 10 = .ok (.iconst 3, 1) := by decide +kernel
theorem dX5_init_11 : decode cX5_init 11 = .ok (.bipush 16, 2) := by decide +kernel
theorem dX5_init_13 : decode cX5_init 13 = .ok (.invokestatic 11, 3) := by decide +kernel
theorem dX5_init_16 : decode cX5_init 16 = .ok (.iload_n 2, 1) := by decide +kernel
theorem dX5_init_17 : decode cX5_init 17 = .ok (.iconst 0, 1) := by decide +kernel
theorem dX5_init_18 : decode cX5_init 18 = .ok (.sipush 128, 3) := by decide +kernel
theorem dX5_init_21 : decode cX5_init 21 = .ok (.invokestatic 11, 3) := by decide +kernel
theorem dX5_init_24 : decode cX5_init 24 = .ok (.invokespecial 15, 3) := by decide +kernel
theorem dX5_init_27 : decode cX5_init 27 = .ok (.putfield 18, 3) := by decide +kernel
theorem dX5_init_30 : decode cX5_init 30 = .ok (.aload_n 0, 1) := by decide +kernel
theorem dX5_init_31 : decode cX5_init 31 = .ok (.aload_n 0, 1) := by decide +kernel
theorem dX5_init_32 : decode cX5_init 32 = .ok (.getfield 18, 3) := by decide +kernel
theorem dX5_init_35 : decode cX5_init 35 = .ok (.getfield 22, 3) := by decide +kernel
theorem dX5_init_38 : decode cX5_init 38 = .ok (.putfield 26, 3) := by decide +kernel
theorem dX5_init_41 : decode cX5_init 41 = .ok (.return_, 1) := by decide +kernel
theorem dX5_alloc_0 : decode cX5_alloc 0 = .ok (.iload_n 1, 1) := by decide +kernel
theorem dX5_alloc_1 : decode cX5_alloc 1 = .ok (.invokestatic 27, 3) := by decide +kernel
theorem dX5_alloc_4 : decode cX5_alloc 4 = .ok (.iload_n 2, 1) := by decide +kernel
theorem dX5_alloc_5 : decode cX5_alloc 5 = .ok (.ifCond .lt 9, 3) := by decide +kernel
theorem dX5_alloc_8 : decode cX5_alloc 8 = .ok (.iload_n 2, 1) := by decide +kernel
theorem dX5_alloc_9 : decode cX5_alloc 9 = .ok (.bipush 20, 2) := by decide +kernel
theorem dX5_alloc_11 : decode cX5_alloc 11 = .ok (.if_icmp .le 13, 3) := by decide +kernel
theorem dX5_alloc_14 : decode cX5_alloc 14 = .ok (.new 31, 3) := by decide +kernel
theorem dX5_alloc_17 : decode cX5_alloc 17 = .ok (.dup, 1) := by decide +kernel
theorem dX5_alloc_18 : decode cX5_alloc 18 = .ok (.ldc 33, 2) := by decide +kernel
theorem dX5_alloc_20 : decode cX5_alloc 20 = .ok (.invokespecial 35, 3) := by decide +kernel
theorem dX5_alloc_23 : decode cX5_alloc 23 = .ok (.athrow, 1) := by decide +kernel
theorem dX5_alloc_24 : decode cX5_alloc 24 = .ok (.iload_n 2, 1) := by decide +kernel
theorem dX5_alloc_25 : decode cX5_alloc 25 = .ok (.iconst 2, 1) := by decide +kernel
theorem dX5_alloc_26 : decode cX5_alloc 26 = .ok (.iadd, 1) := by decide +kernel
theorem dX5_alloc_27 : decode cX5_alloc 27 = .ok (.istore 4, 2) := by decide +kernel
theorem dX5_alloc_29 : decode cX5_alloc 29 = .ok (.aload_n 0, 1) := by decide +kernel
theorem dX5_alloc_30 : decode cX5_alloc 30 = .ok (.getfield 26, 3) := by decide +kernel
theorem dX5_alloc_33 : decode cX5_alloc 33 = .ok (.iload 4, 2) := by decide +kernel
theorem dX5_alloc_35 : decode cX5_alloc 35 = .ok (.invokevirtual 38, 3) := by decide +kernel
theorem dX5_alloc_38 : decode cX5_alloc 38 = .ok (.astore 5, 2) := by decide +kernel
theorem dX5_alloc_40 : decode cX5_alloc 40 = .ok (.aload 5, 2) := by decide +kernel
theorem dX5_alloc_42 : decode cX5_alloc 42 = .ok (.ifnonnull 21, 3) := by decide +kernel
theorem dX5_alloc_45 : decode cX5_alloc 45 = .ok (.aload_n 0, 1) := by decide +kernel
theorem dX5_alloc_46 : decode cX5_alloc 46 = .ok (.getfield 18, 3) := by decide +kernel
theorem dX5_alloc_49 : decode cX5_alloc 49 = .ok (.invokevirtual 44, 3) := by decide +kernel
theorem dX5_alloc_52 : decode cX5_alloc 52 = .ok (.aload_n 0, 1) := by decide +kernel
theorem dX5_alloc_53 : decode cX5_alloc 53 = .ok (.getfield 26, 3) := by decide +kernel
theorem dX5_alloc_56 : decode cX5_alloc 56 = .ok (.iload 4, 2) := by decide +kernel
theorem dX5_alloc_58 : decode cX5_alloc 58 = .ok (.invokevirtual 38, 3) := by decide +kernel
theorem dX5_alloc_61 : decode cX5_alloc 61 = .ok (.astore 5, 2) := by decide +kernel
theorem dX5_alloc_63 : decode cX5_alloc 63 = .ok (.aload 5, 2) := by decide +kernel
theorem dX5_alloc_65 : decode cX5_alloc 65 = .ok (.ifnonnull 5, 3) := by decide +kernel
theorem dX5_alloc_68 : decode cX5_alloc 68 = .ok (.iconst (-1), 1) := by decide +kernel
theorem dX5_alloc_69 : decode cX5_alloc 69 = .ok (.ireturn, 1) := by decide +kernel
theorem dX5_alloc_70 : decode cX5_alloc 70 = .ok (.new 47, 3) := by decide +kernel
theorem dX5_alloc_73 : decode cX5_alloc 73 = .ok (.dup, 1) := by decide +kernel
theorem dX5_alloc_74 : decode cX5_alloc 74 = .ok (.aload 5, 2) := by decide +kernel
theorem dX5_alloc_76 : decode cX5_alloc 76 = .ok (.iload_n 2, 1) := by decide +kernel
theorem dX5_alloc_77 : decode cX5_alloc 77 = .ok (.iload_n 3, 1) := by decide +kernel
theorem dX5_alloc_78 : decode cX5_alloc 78 = .ok (.invokespecial 49, 3) := by decide +kernel
theorem dX5_alloc_81 : decode cX5_alloc 81 = .ok (.astore 6, 2) := by decide +kernel
theorem dX5_alloc_83 : decode cX5_alloc 83 = .ok (.aload 5, 2) := by decide +kernel
theorem dX5_alloc_85 : decode cX5_alloc 85 = .ok (.aload 6, 2) := by decide +kernel
theorem dX5_alloc_87 : decode cX5_alloc 87 = .ok (.invokevirtual 52, 3) := by decide +kernel
theorem dX5_alloc_90 : decode cX5_alloc 90 = .ok (.aload_n 0, 1) := by decide +kernel
theorem dX5_alloc_91 : decode cX5_alloc 91 = .ok (.getfield 18, 3) := by decide +kernel
theorem dX5_alloc_94 : decode cX5_alloc 94 = .ok (.aload 6, 2) := by decide +kernel
theorem dX5_alloc_96 : decode cX5_alloc 96 = .ok (.invokevirtual 58, 3) := by decide +kernel
theorem dX5_alloc_99 : decode cX5_alloc 99 = .ok (.aload_n 0, 1) := by decide +kernel
theorem dX5_alloc_100 : decode cX5_alloc 100 = .ok (.getfield 26, 3) := by decide +kernel
theorem dX5_alloc_103 : decode cX5_alloc 103 = .ok (.getfield 61, 3) := by decide +kernel
theorem dX5_alloc_106 : decode cX5_alloc 106 = .ok (.iload_n 1, 1) := by decide +kernel
theorem dX5_alloc_107 : decode cX5_alloc 107 = .ok (.aload 6, 2) := by decide +kernel
theorem dX5_alloc_109 : decode cX5_alloc 109 = .ok (.aastore, 1) := by decide +kernel
theorem dX5_alloc_110 : decode cX5_alloc 110 = .ok (.aload 6, 2) := by decide +kernel
theorem dX5_alloc_112 : decode cX5_alloc 112 = .ok (.invokestatic 65, 3) := by decide +kernel
theorem dX5_alloc_115 : decode cX5_alloc 115 = .ok (.ireturn, 1) := by decide +kernel
theorem dX5_move_0 : decode cX5_move 0 = .ok (.iload_n 1, 1) := by decide +kernel
theorem dX5_move_1 : decode cX5_move 1 = .ok (.invokestatic 27, 3) := by decide +kernel
theorem dX5_move_4 : decode cX5_move 4 = .ok (.iload_n 2, 1) := by decide +kernel
theorem dX5_move_5 : decode cX5_move 5 = .ok (.invokestatic 27, 3) := by decide +kernel
theorem dX5_move_8 : decode cX5_move 8 = .ok (.aload_n 0, 1) := by decide +kernel
theorem dX5_move_9 : decode cX5_move 9 = .ok (.getfield 26, 3) := by decide +kernel
theorem dX5_move_12 : decode cX5_move 12 = .ok (.getfield 61, 3) := by decide +kernel
theorem dX5_move_15 : decode cX5_move 15 = .ok (.iload_n 1, 1) := by decide +kernel
theorem dX5_move_16 : decode cX5_move 16 = .ok (.aload_n 0, 1) := by decide +kernel
theorem dX5_move_17 : decode cX5_move 17 = .ok (.getfield 26, 3) := by decide +kernel
theorem dX5_move_20 : decode cX5_move 20 = .ok (.getfield 61, 3) := by decide +kernel
theorem dX5_move_23 : decode cX5_move 23 = .ok (.iload_n 2, 1) := by decide +kernel
theorem dX5_move_24 : decode cX5_move 24 = .ok (.aaload, 1) := by decide +kernel
theorem dX5_move_25 : decode cX5_move 25 = .ok (.aastore, 1) := by decide +kernel
theorem dX5_move_26 : decode cX5_move 26 = .ok (.return_, 1) := by decide +kernel
theorem dX5_drop_0 : decode cX5_drop 0 = .ok (.iload_n 1, 1) := by decide +kernel
theorem dX5_drop_1 : decode cX5_drop 1 = .ok (.invokestatic 27, 3) := by decide +kernel
theorem dX5_drop_4 : decode cX5_drop 4 = .ok (.aload_n 0, 1) := by decide +kernel
theorem dX5_drop_5 : decode cX5_drop 5 = .ok (.getfield 26, 3) := by decide +kernel
theorem dX5_drop_8 : decode cX5_drop 8 = .ok (.getfield 61, 3) := by decide +kernel
theorem dX5_drop_11 : decode cX5_drop 11 = .ok (.iload_n 1, 1) := by decide +kernel
theorem dX5_drop_12 : decode cX5_drop 12 = .ok (.aaload, 1) := by decide +kernel
theorem dX5_drop_13 : decode cX5_drop 13 = .ok (.ifnull 7, 3) := by decide +kernel
theorem dX5_drop_16 : decode cX5_drop 16 = .ok (.iconst 1, 1) := by decide +kernel
theorem dX5_drop_17 : decode cX5_drop 17 = .ok (.goto 4, 3) := by decide +kernel
theorem dX5_drop_20 : decode cX5_drop 20 = .ok (.iconst 0, 1) := by decide +kernel
theorem dX5_drop_21 : decode cX5_drop 21 = .ok (.istore_n 2, 1) := by decide +kernel
theorem dX5_drop_22 : decode cX5_drop 22 = .ok (.aload_n 0, 1) := by decide +kernel
theorem dX5_drop_23 : decode cX5_drop 23 = .ok (.getfield 26, 3) := by decide +kernel
theorem dX5_drop_26 : decode cX5_drop 26 = .ok (.getfield 61, 3) := by decide +kernel
theorem dX5_drop_29 : decode cX5_drop 29 = .ok (.iload_n 1, 1) := by decide +kernel
theorem dX5_drop_30 : decode cX5_drop 30 = .ok (.aconst_null, 1) := by decide +kernel
theorem dX5_drop_31 : decode cX5_drop 31 = .ok (.aastore, 1) := by decide +kernel
theorem dX5_drop_32 : decode cX5_drop 32 = .ok (.iload_n 2, 1) := by decide +kernel
theorem dX5_drop_33 : decode cX5_drop 33 = .ok (.ireturn, 1) := by decide +kernel
theorem dX5_read_0 : decode cX5_read 0 = .ok (.iload_n 1, 1) := by decide +kernel
theorem dX5_read_1 : decode cX5_read 1 = .ok (.invokestatic 27, 3) := by decide +kernel
theorem dX5_read_4 : decode cX5_read 4 = .ok (.aload_n 0, 1) := by decide +kernel
theorem dX5_read_5 : decode cX5_read 5 = .ok (.iload_n 2, 1) := by decide +kernel
theorem dX5_read_6 : decode cX5_read 6 = .ok (.invokevirtual 69, 3) := by decide +kernel
theorem dX5_read_9 : decode cX5_read 9 = .ok (.astore 4, 2) := by decide +kernel
theorem dX5_read_11 : decode cX5_read 11 = .ok (.aload 4, 2) := by decide +kernel
theorem dX5_read_13 : decode cX5_read 13 = .ok (.iload_n 3, 1) := by decide +kernel
theorem dX5_read_14 : decode cX5_read 14 = .ok (.invokestatic 73, 3) := by decide +kernel
theorem dX5_read_17 : decode cX5_read 17 = .ok (.aload 4, 2) := by decide +kernel
theorem dX5_read_19 : decode cX5_read 19 = .ok (.getfield 77, 3) := by decide +kernel
theorem dX5_read_22 : decode cX5_read 22 = .ok (.iload_n 3, 1) := by decide +kernel
theorem dX5_read_23 : decode cX5_read 23 = .ok (.aaload, 1) := by decide +kernel
theorem dX5_read_24 : decode cX5_read 24 = .ok (.astore 5, 2) := by decide +kernel
theorem dX5_read_26 : decode cX5_read 26 = .ok (.aload_n 0, 1) := by decide +kernel
theorem dX5_read_27 : decode cX5_read 27 = .ok (.getfield 26, 3) := by decide +kernel
theorem dX5_read_30 : decode cX5_read 30 = .ok (.getfield 61, 3) := by decide +kernel
theorem dX5_read_33 : decode cX5_read 33 = .ok (.iload_n 1, 1) := by decide +kernel
theorem dX5_read_34 : decode cX5_read 34 = .ok (.aload 5, 2) := by decide +kernel
theorem dX5_read_36 : decode cX5_read 36 = .ok (.aastore, 1) := by decide +kernel
theorem dX5_read_37 : decode cX5_read 37 = .ok (.aload 5, 2) := by decide +kernel
theorem dX5_read_39 : decode cX5_read 39 = .ok (.invokestatic 80, 3) := by decide +kernel
theorem dX5_read_42 : decode cX5_read 42 = .ok (.ireturn, 1) := by decide +kernel
theorem dX5_write_0 : decode cX5_write 0 = .ok (.iload_n 3, 1) := by decide +kernel
theorem dX5_write_1 : decode cX5_write 1 = .ok (.invokestatic 27, 3) := by decide +kernel
theorem dX5_write_4 : decode cX5_write 4 = .ok (.aload_n 0, 1) := by decide +kernel
theorem dX5_write_5 : decode cX5_write 5 = .ok (.iload_n 1, 1) := by decide +kernel
theorem dX5_write_6 : decode cX5_write 6 = .ok (.invokevirtual 69, 3) := by decide +kernel
theorem dX5_write_9 : decode cX5_write 9 = .ok (.astore 4, 2) := by decide +kernel
theorem dX5_write_11 : decode cX5_write 11 = .ok (.aload 4, 2) := by decide +kernel
theorem dX5_write_13 : decode cX5_write 13 = .ok (.iload_n 2, 1) := by decide +kernel
theorem dX5_write_14 : decode cX5_write 14 = .ok (.invokestatic 73, 3) := by decide +kernel
theorem dX5_write_17 : decode cX5_write 17 = .ok (.aload 4, 2) := by decide +kernel
theorem dX5_write_19 : decode cX5_write 19 = .ok (.getfield 77, 3) := by decide +kernel
theorem dX5_write_22 : decode cX5_write 22 = .ok (.iload_n 2, 1) := by decide +kernel
theorem dX5_write_23 : decode cX5_write 23 = .ok (.aaload, 1) := by decide +kernel
theorem dX5_write_24 : decode cX5_write 24 = .ok (.astore 5, 2) := by decide +kernel
theorem dX5_write_26 : decode cX5_write 26 = .ok (.aload_n 0, 1) := by decide +kernel
theorem dX5_write_27 : decode cX5_write 27 = .ok (.getfield 18, 3) := by decide +kernel
theorem dX5_write_30 : decode cX5_write 30 = .ok (.aload 4, 2) := by decide +kernel
theorem dX5_write_32 : decode cX5_write 32 = .ok (.aload 5, 2) := by decide +kernel
theorem dX5_write_34 : decode cX5_write 34 = .ok (.invokevirtual 83, 3) := by decide +kernel
theorem dX5_write_37 : decode cX5_write 37 = .ok (.aload 4, 2) := by decide +kernel
theorem dX5_write_39 : decode cX5_write 39 = .ok (.getfield 77, 3) := by decide +kernel
theorem dX5_write_42 : decode cX5_write 42 = .ok (.iload_n 2, 1) := by decide +kernel
theorem dX5_write_43 : decode cX5_write 43 = .ok (.aload_n 0, 1) := by decide +kernel
theorem dX5_write_44 : decode cX5_write 44 = .ok (.getfield 26, 3) := by decide +kernel
theorem dX5_write_47 : decode cX5_write 47 = .ok (.getfield 61, 3) := by decide +kernel
theorem dX5_write_50 : decode cX5_write 50 = .ok (.iload_n 3, 1) := by decide +kernel
theorem dX5_write_51 : decode cX5_write 51 = .ok (.aaload, 1) := by decide +kernel
theorem dX5_write_52 : decode cX5_write 52 = .ok (.aastore, 1) := by decide +kernel
theorem dX5_write_53 : decode cX5_write 53 = .ok (.aload 5, 2) := by decide +kernel
theorem dX5_write_55 : decode cX5_write 55 = .ok (.invokestatic 80, 3) := by decide +kernel
theorem dX5_write_58 : decode cX5_write 58 = .ok (.ireturn, 1) := by decide +kernel
theorem dX5_tag_0 : decode cX5_tag 0 = .ok (.aload_n 0, 1) := by decide +kernel
theorem dX5_tag_1 : decode cX5_tag 1 = .ok (.iload_n 1, 1) := by decide +kernel
theorem dX5_tag_2 : decode cX5_tag 2 = .ok (.invokevirtual 69, 3) := by decide +kernel
theorem dX5_tag_5 : decode cX5_tag 5 = .ok (.getfield 87, 3) := by decide +kernel
theorem dX5_tag_8 : decode cX5_tag 8 = .ok (.ireturn, 1) := by decide +kernel
theorem dX5_same_0 : decode cX5_same 0 = .ok (.iload_n 1, 1) := by decide +kernel
theorem dX5_same_1 : decode cX5_same 1 = .ok (.invokestatic 27, 3) := by decide +kernel
theorem dX5_same_4 : decode cX5_same 4 = .ok (.iload_n 2, 1) := by decide +kernel
theorem dX5_same_5 : decode cX5_same 5 = .ok (.invokestatic 27, 3) := by decide +kernel
theorem dX5_same_8 : decode cX5_same 8 = .ok (.aload_n 0, 1) := by decide +kernel
theorem dX5_same_9 : decode cX5_same 9 = .ok (.getfield 26, 3) := by decide +kernel
theorem dX5_same_12 : decode cX5_same 12 = .ok (.getfield 61, 3) := by decide +kernel
theorem dX5_same_15 : decode cX5_same 15 = .ok (.iload_n 1, 1) := by decide +kernel
theorem dX5_same_16 : decode cX5_same 16 = .ok (.aaload, 1) := by decide +kernel
theorem dX5_same_17 : decode cX5_same 17 = .ok (.aload_n 0, 1) := by decide +kernel
theorem dX5_same_18 : decode cX5_same 18 = .ok (.getfield 26, 3) := by decide +kernel
theorem dX5_same_21 : decode cX5_same 21 = .ok (.getfield 61, 3) := by decide +kernel
theorem dX5_same_24 : decode cX5_same 24 = .ok (.iload_n 2, 1) := by decide +kernel
theorem dX5_same_25 : decode cX5_same 25 = .ok (.aaload, 1) := by decide +kernel
theorem dX5_same_26 : decode cX5_same 26 = .ok (.if_acmp .ne 7, 3) := by decide +kernel
theorem dX5_same_29 : decode cX5_same 29 = .ok (.iconst 1, 1) := by decide +kernel
theorem dX5_same_30 : decode cX5_same 30 = .ok (.goto 4, 3) := by decide +kernel
theorem dX5_same_33 : decode cX5_same 33 = .ok (.iconst 0, 1) := by decide +kernel
theorem dX5_same_34 : decode cX5_same 34 = .ok (.ireturn, 1) := by decide +kernel
theorem dX5_where_0 : decode cX5_where 0 = .ok (.iload_n 1, 1) := by decide +kernel
theorem dX5_where_1 : decode cX5_where 1 = .ok (.invokestatic 27, 3) := by decide +kernel
theorem dX5_where_4 : decode cX5_where 4 = .ok (.aload_n 0, 1) := by decide +kernel
theorem dX5_where_5 : decode cX5_where 5 = .ok (.getfield 26, 3) := by decide +kernel
theorem dX5_where_8 : decode cX5_where 8 = .ok (.getfield 61, 3) := by decide +kernel
theorem dX5_where_11 : decode cX5_where 11 = .ok (.iload_n 1, 1) := by decide +kernel
theorem dX5_where_12 : decode cX5_where 12 = .ok (.aaload, 1) := by decide +kernel
theorem dX5_where_13 : decode cX5_where 13 = .ok (.invokestatic 65, 3) := by decide +kernel
theorem dX5_where_16 : decode cX5_where 16 = .ok (.ireturn, 1) := by decide +kernel
theorem dX5_begin_0 : decode cX5_begin 0 = .ok (.aload_n 0, 1) := by decide +kernel
theorem dX5_begin_1 : decode cX5_begin 1 = .ok (.getfield 18, 3) := by decide +kernel
theorem dX5_begin_4 : decode cX5_begin 4 = .ok (.getfield 91, 3) := by decide +kernel
theorem dX5_begin_7 : decode cX5_begin 7 = .ok (.ifCond .eq 5, 3) := by decide +kernel
theorem dX5_begin_10 : decode cX5_begin 10 = .ok (.iconst 0, 1) := by decide +kernel
theorem dX5_begin_11 : decode cX5_begin 11 = .ok (.ireturn, 1) := by decide +kernel
theorem dX5_begin_12 : decode cX5_begin 12 = .ok (.aload_n 0, 1) := by decide +kernel
theorem dX5_begin_13 : decode cX5_begin 13 = .ok (.getfield 18, 3) := by decide +kernel
theorem dX5_begin_16 : decode cX5_begin 16 = .ok (.invokevirtual 94, 3) := by decide +kernel
theorem dX5_begin_19 : decode cX5_begin 19 = .ok (.iconst 1, 1) := by decide +kernel
theorem dX5_begin_20 : decode cX5_begin 20 = .ok (.ireturn, 1) := by decide +kernel
theorem dX5_work_0 : decode cX5_work 0 = .ok (.iload_n 1, 1) := by decide +kernel
theorem dX5_work_1 : decode cX5_work 1 = .ok (.ifCond .lt 10, 3) := by decide +kernel
theorem dX5_work_4 : decode cX5_work 4 = .ok (.iload_n 1, 1) := by decide +kernel
theorem dX5_work_5 : decode cX5_work 5 = .ok (.sipush 10000, 3) := by decide +kernel
theorem dX5_work_8 : decode cX5_work 8 = .ok (.if_icmp .le 13, 3) := by decide +kernel
theorem dX5_work_11 : decode cX5_work 11 = .ok (.new 31, 3) := by decide +kernel
theorem dX5_work_14 : decode cX5_work 14 = .ok (.dup, 1) := by decide +kernel
theorem dX5_work_15 : decode cX5_work 15 = .ok (.ldc 97, 2) := by decide +kernel
theorem dX5_work_17 : decode cX5_work 17 = .ok (.invokespecial 35, 3) := by decide +kernel
theorem dX5_work_20 : decode cX5_work 20 = .ok (.athrow, 1) := by decide +kernel
theorem dX5_work_21 : decode cX5_work 21 = .ok (.aload_n 0, 1) := by decide +kernel
theorem dX5_work_22 : decode cX5_work 22 = .ok (.getfield 18, 3) := by decide +kernel
theorem dX5_work_25 : decode cX5_work 25 = .ok (.iload_n 1, 1) := by decide +kernel
theorem dX5_work_26 : decode cX5_work 26 = .ok (.invokevirtual 99, 3) := by decide +kernel
theorem dX5_work_29 : decode cX5_work 29 = .ok (.aload_n 0, 1) := by decide +kernel
theorem dX5_work_30 : decode cX5_work 30 = .ok (.getfield 18, 3) := by decide +kernel
theorem dX5_work_33 : decode cX5_work 33 = .ok (.getfield 91, 3) := by decide +kernel
theorem dX5_work_36 : decode cX5_work 36 = .ok (.ireturn, 1) := by decide +kernel
theorem dX5_collect_0 : decode cX5_collect 0 = .ok (.aload_n 0, 1) := by decide +kernel
theorem dX5_collect_1 : decode cX5_collect 1 = .ok (.getfield 18, 3) := by decide +kernel
theorem dX5_collect_4 : decode cX5_collect 4 = .ok (.invokevirtual 44, 3) := by decide +kernel
theorem dX5_collect_7 : decode cX5_collect 7 = .ok (.aload_n 0, 1) := by decide +kernel
theorem dX5_collect_8 : decode cX5_collect 8 = .ok (.getfield 26, 3) := by decide +kernel
theorem dX5_collect_11 : decode cX5_collect 11 = .ok (.invokevirtual 102, 3) := by decide +kernel
theorem dX5_collect_14 : decode cX5_collect 14 = .ok (.ireturn, 1) := by decide +kernel
theorem dX5_region_0 : decode cX5_region 0 = .ok (.iload_n 1, 1) := by decide +kernel
theorem dX5_region_1 : decode cX5_region 1 = .ok (.ifCond .lt 15, 3) := by decide +kernel
theorem dX5_region_4 : decode cX5_region 4 = .ok (.iload_n 1, 1) := by decide +kernel
theorem dX5_region_5 : decode cX5_region 5 = .ok (.aload_n 0, 1) := by decide +kernel
theorem dX5_region_6 : decode cX5_region 6 = .ok (.getfield 26, 3) := by decide +kernel
theorem dX5_region_9 : decode cX5_region 9 = .ok (.getfield 106, 3) := by decide +kernel
theorem dX5_region_12 : decode cX5_region 12 = .ok (.arraylength, 1) := by decide +kernel
theorem dX5_region_13 : decode cX5_region 13 = .ok (.if_icmp .lt 13, 3) := by decide +kernel
theorem dX5_region_16 : decode cX5_region 16 = .ok (.new 110, 3) := by decide +kernel
theorem dX5_region_19 : decode cX5_region 19 = .ok (.dup, 1) := by decide +kernel
theorem dX5_region_20 : decode cX5_region 20 = .ok (.ldc 112, 2) := by decide +kernel
theorem dX5_region_22 : decode cX5_region 22 = .ok (.invokespecial 114, 3) := by decide +kernel
theorem dX5_region_25 : decode cX5_region 25 = .ok (.athrow, 1) := by decide +kernel
theorem dX5_region_26 : decode cX5_region 26 = .ok (.aload_n 0, 1) := by decide +kernel
theorem dX5_region_27 : decode cX5_region 27 = .ok (.getfield 26, 3) := by decide +kernel
theorem dX5_region_30 : decode cX5_region 30 = .ok (.getfield 106, 3) := by decide +kernel
theorem dX5_region_33 : decode cX5_region 33 = .ok (.iload_n 1, 1) := by decide +kernel
theorem dX5_region_34 : decode cX5_region 34 = .ok (.aaload, 1) := by decide +kernel
theorem dX5_region_35 : decode cX5_region 35 = .ok (.astore_n 3, 1) := by decide +kernel
theorem dX5_region_36 : decode cX5_region 36 = .ok (.iload_n 2, 1) := by decide +kernel
theorem dX5_region_37 : decode cX5_region 37 = .ok (.tableswitch 49 0 2 #[27, 32, 37], 27) := by decide +kernel
theorem dX5_region_64 : decode cX5_region 64 = .ok (.aload_n 3, 1) := by decide +kernel
theorem dX5_region_65 : decode cX5_region 65 = .ok (.getfield 115, 3) := by decide +kernel
theorem dX5_region_68 : decode cX5_region 68 = .ok (.ireturn, 1) := by decide +kernel
theorem dX5_region_69 : decode cX5_region 69 = .ok (.aload_n 3, 1) := by decide +kernel
theorem dX5_region_70 : decode cX5_region 70 = .ok (.getfield 118, 3) := by decide +kernel
theorem dX5_region_73 : decode cX5_region 73 = .ok (.ireturn, 1) := by decide +kernel
theorem dX5_region_74 : decode cX5_region 74 = .ok (.aload_n 3, 1) := by decide +kernel
theorem dX5_region_75 : decode cX5_region 75 = .ok (.aload_n 0, 1) := by decide +kernel
theorem dX5_region_76 : decode cX5_region 76 = .ok (.getfield 18, 3) := by decide +kernel
theorem dX5_region_79 : decode cX5_region 79 = .ok (.getfield 121, 3) := by decide +kernel
theorem dX5_region_82 : decode cX5_region 82 = .ok (.invokevirtual 124, 3) := by decide +kernel
theorem dX5_region_85 : decode cX5_region 85 = .ok (.ireturn, 1) := by decide +kernel
theorem dX5_region_86 : decode cX5_region 86 = .ok (.iconst (-1), 1) := by decide +kernel
theorem dX5_region_87 : decode cX5_region 87 = .ok (.ireturn, 1) := by decide +kernel
theorem dX5_count_0 : decode cX5_count 0 = .ok (.iload_n 1, 1) := by decide +kernel
theorem dX5_count_1 : decode cX5_count 1 = .ok (.tableswitch 54 0 2 #[27, 35, 43], 27) := by decide +kernel
theorem dX5_count_28 : decode cX5_count 28 = .ok (.aload_n 0, 1) := by decide +kernel
theorem dX5_count_29 : decode cX5_count 29 = .ok (.getfield 18, 3) := by decide +kernel
theorem dX5_count_32 : decode cX5_count 32 = .ok (.getfield 128, 3) := by decide +kernel
theorem dX5_count_35 : decode cX5_count 35 = .ok (.ireturn, 1) := by decide +kernel
theorem dX5_count_36 : decode cX5_count 36 = .ok (.aload_n 0, 1) := by decide +kernel
theorem dX5_count_37 : decode cX5_count 37 = .ok (.getfield 18, 3) := by decide +kernel
theorem dX5_count_40 : decode cX5_count 40 = .ok (.getfield 131, 3) := by decide +kernel
theorem dX5_count_43 : decode cX5_count 43 = .ok (.ireturn, 1) := by decide +kernel
theorem dX5_count_44 : decode cX5_count 44 = .ok (.aload_n 0, 1) := by decide +kernel
theorem dX5_count_45 : decode cX5_count 45 = .ok (.getfield 18, 3) := by decide +kernel
theorem dX5_count_48 : decode cX5_count 48 = .ok (.getfield 134, 3) := by decide +kernel
theorem dX5_count_51 : decode cX5_count 51 = .ok (.getfield 138, 3) := by decide +kernel
theorem dX5_count_54 : decode cX5_count 54 = .ok (.ireturn, 1) := by decide +kernel
theorem dX5_count_55 : decode cX5_count 55 = .ok (.iconst (-1), 1) := by decide +kernel
theorem dX5_count_56 : decode cX5_count 56 = .ok (.ireturn, 1) := by decide +kernel
theorem dX5_within_0 : decode cX5_within 0 = .ok (.iload_n 1, 1) := by decide +kernel
theorem dX5_within_1 : decode cX5_within 1 = .ok (.iload_n 2, 1) := by decide +kernel
theorem dX5_within_2 : decode cX5_within 2 = .ok (.iload_n 0, 1) := by decide +kernel
theorem dX5_within_3 : decode cX5_within 3 = .ok (.invokestatic 143, 3) := by decide +kernel
theorem dX5_within_6 : decode cX5_within 6 = .ok (.invokestatic 149, 3) := by decide +kernel
theorem dX5_within_9 : decode cX5_within 9 = .ok (.ireturn, 1) := by decide +kernel
theorem dX5_checkRegister_0 : decode cX5_checkRegister 0 = .ok (.iload_n 0, 1) := by decide +kernel
theorem dX5_checkRegister_1 : decode cX5_checkRegister 1 = .ok (.ifCond .lt 9, 3) := by decide +kernel
theorem dX5_checkRegister_4 : decode cX5_checkRegister 4 = .ok (.iload_n 0, 1) := by decide +kernel
theorem dX5_checkRegister_5 : decode cX5_checkRegister 5 = .ok (.bipush 10, 2) := by decide +kernel
theorem dX5_checkRegister_7 : decode cX5_checkRegister 7 = .ok (.if_icmp .lt 13, 3) := by decide +kernel
theorem dX5_checkRegister_10 : decode cX5_checkRegister 10 = .ok (.new 110, 3) := by decide +kernel
theorem dX5_checkRegister_13 : decode cX5_checkRegister 13 = .ok (.dup, 1) := by decide +kernel
theorem dX5_checkRegister_14 : decode cX5_checkRegister 14 = .ok (.ldc 152, 2) := by decide +kernel
theorem dX5_checkRegister_16 : decode cX5_checkRegister 16 = .ok (.invokespecial 114, 3) := by decide +kernel
theorem dX5_checkRegister_19 : decode cX5_checkRegister 19 = .ok (.athrow, 1) := by decide +kernel
theorem dX5_checkRegister_20 : decode cX5_checkRegister 20 = .ok (.return_, 1) := by decide +kernel
theorem dX5_checkField_0 : decode cX5_checkField 0 = .ok (.iload_n 1, 1) := by decide +kernel
theorem dX5_checkField_1 : decode cX5_checkField 1 = .ok (.ifCond .lt 12, 3) := by decide +kernel
theorem dX5_checkField_4 : decode cX5_checkField 4 = .ok (.iload_n 1, 1) := by decide +kernel
theorem dX5_checkField_5 : decode cX5_checkField 5 = .ok (.aload_n 0, 1) := by decide +kernel
theorem dX5_checkField_6 : decode cX5_checkField 6 = .ok (.getfield 77, 3) := by decide +kernel
theorem dX5_checkField_9 : decode cX5_checkField 9 = .ok (.arraylength, 1) := by decide +kernel
theorem dX5_checkField_10 : decode cX5_checkField 10 = .ok (.if_icmp .lt 13, 3) := by decide +kernel
theorem dX5_checkField_13 : decode cX5_checkField 13 = .ok (.new 110, 3) := by decide +kernel
theorem dX5_checkField_16 : decode cX5_checkField 16 = .ok (.dup, 1) := by decide +kernel
theorem dX5_checkField_17 : decode cX5_checkField 17 = .ok (.ldc 154, 2) := by decide +kernel
theorem dX5_checkField_19 : decode cX5_checkField 19 = .ok (.invokespecial 114, 3) := by decide +kernel
theorem dX5_checkField_22 : decode cX5_checkField 22 = .ok (.athrow, 1) := by decide +kernel
theorem dX5_checkField_23 : decode cX5_checkField 23 = .ok (.return_, 1) := by decide +kernel
theorem dX5_objectIn_0 : decode cX5_objectIn 0 = .ok (.iload_n 1, 1) := by decide +kernel
theorem dX5_objectIn_1 : decode cX5_objectIn 1 = .ok (.invokestatic 27, 3) := by decide +kernel
theorem dX5_objectIn_4 : decode cX5_objectIn 4 = .ok (.aload_n 0, 1) := by decide +kernel
theorem dX5_objectIn_5 : decode cX5_objectIn 5 = .ok (.getfield 26, 3) := by decide +kernel
theorem dX5_objectIn_8 : decode cX5_objectIn 8 = .ok (.getfield 61, 3) := by decide +kernel
theorem dX5_objectIn_11 : decode cX5_objectIn 11 = .ok (.iload_n 1, 1) := by decide +kernel
theorem dX5_objectIn_12 : decode cX5_objectIn 12 = .ok (.aaload, 1) := by decide +kernel
theorem dX5_objectIn_13 : decode cX5_objectIn 13 = .ok (.astore_n 2, 1) := by decide +kernel
theorem dX5_objectIn_14 : decode cX5_objectIn 14 = .ok (.aload_n 2, 1) := by decide +kernel
theorem dX5_objectIn_15 : decode cX5_objectIn 15 = .ok (.ifnonnull 13, 3) := by decide +kernel
theorem dX5_objectIn_18 : decode cX5_objectIn 18 = .ok (.new 156, 3) := by decide +kernel
theorem dX5_objectIn_21 : decode cX5_objectIn 21 = .ok (.dup, 1) := by decide +kernel
theorem dX5_objectIn_22 : decode cX5_objectIn 22 = .ok (.ldc 158, 2) := by decide +kernel
theorem dX5_objectIn_24 : decode cX5_objectIn 24 = .ok (.invokespecial 160, 3) := by decide +kernel
theorem dX5_objectIn_27 : decode cX5_objectIn 27 = .ok (.athrow, 1) := by decide +kernel
theorem dX5_objectIn_28 : decode cX5_objectIn 28 = .ok (.aload_n 2, 1) := by decide +kernel
theorem dX5_objectIn_29 : decode cX5_objectIn 29 = .ok (.areturn, 1) := by decide +kernel
theorem dX5_tagOf_0 : decode cX5_tagOf 0 = .ok (.aload_n 0, 1) := by decide +kernel
theorem dX5_tagOf_1 : decode cX5_tagOf 1 = .ok (.ifnonnull 7, 3) := by decide +kernel
theorem dX5_tagOf_4 : decode cX5_tagOf 4 = .ok (.iconst 0, 1) := by decide +kernel
theorem dX5_tagOf_5 : decode cX5_tagOf 5 = .ok (.goto 7, 3) := by decide +kernel
theorem dX5_tagOf_8 : decode cX5_tagOf 8 = .ok (.aload_n 0, 1) := by decide +kernel
theorem dX5_tagOf_9 : decode cX5_tagOf 9 = .ok (.getfield 87, 3) := by decide +kernel
theorem dX5_tagOf_12 : decode cX5_tagOf 12 = .ok (.ireturn, 1) := by decide +kernel
theorem dX5_placeOf_0 : decode cX5_placeOf 0 = .ok (.aload_n 0, 1) := by decide +kernel
theorem dX5_placeOf_1 : decode cX5_placeOf 1 = .ok (.ifnonnull 7, 3) := by decide +kernel
theorem dX5_placeOf_4 : decode cX5_placeOf 4 = .ok (.iconst (-1), 1) := by decide +kernel
theorem dX5_placeOf_5 : decode cX5_placeOf 5 = .ok (.goto 19, 3) := by decide +kernel
theorem dX5_placeOf_8 : decode cX5_placeOf 8 = .ok (.sipush 128, 3) := by decide +kernel
theorem dX5_placeOf_11 : decode cX5_placeOf 11 = .ok (.aload_n 0, 1) := by decide +kernel
theorem dX5_placeOf_12 : decode cX5_placeOf 12 = .ok (.getfield 161, 3) := by decide +kernel
theorem dX5_placeOf_15 : decode cX5_placeOf 15 = .ok (.getfield 165, 3) := by decide +kernel
theorem dX5_placeOf_18 : decode cX5_placeOf 18 = .ok (.imul, 1) := by decide +kernel
theorem dX5_placeOf_19 : decode cX5_placeOf 19 = .ok (.aload_n 0, 1) := by decide +kernel
theorem dX5_placeOf_20 : decode cX5_placeOf 20 = .ok (.getfield 168, 3) := by decide +kernel
theorem dX5_placeOf_23 : decode cX5_placeOf 23 = .ok (.iadd, 1) := by decide +kernel
theorem dX5_placeOf_24 : decode cX5_placeOf 24 = .ok (.ireturn, 1) := by decide +kernel
theorem dJ9_max_7cf53_0 : decode cJ9_max_7cf53 0 = .ok (.iload_n 0, 1) := by decide +kernel
theorem dJ9_max_7cf53_1 : decode cJ9_max_7cf53 1 = .ok (.iload_n 1, 1) := by decide +kernel
theorem dJ9_max_7cf53_2 : decode cJ9_max_7cf53 2 = .ok (.if_icmp .lt 7, 3) := by decide +kernel
theorem dJ9_max_7cf53_5 : decode cJ9_max_7cf53 5 = .ok (.iload_n 0, 1) := by decide +kernel
theorem dJ9_max_7cf53_6 : decode cJ9_max_7cf53 6 = .ok (.goto 4, 3) := by decide +kernel
theorem dJ9_max_7cf53_9 : decode cJ9_max_7cf53 9 = .ok (.iload_n 1, 1) := by decide +kernel
theorem dJ9_max_7cf53_10 : decode cJ9_max_7cf53 10 = .ok (.ireturn, 1) := by decide +kernel
theorem dJ9_min_7cf53_0 : decode cJ9_min_7cf53 0 = .ok (.iload_n 0, 1) := by decide +kernel
theorem dJ9_min_7cf53_1 : decode cJ9_min_7cf53 1 = .ok (.iload_n 1, 1) := by decide +kernel
theorem dJ9_min_7cf53_2 : decode cJ9_min_7cf53 2 = .ok (.if_icmp .gt 7, 3) := by decide +kernel
theorem dJ9_min_7cf53_5 : decode cJ9_min_7cf53 5 = .ok (.iload_n 0, 1) := by decide +kernel
theorem dJ9_min_7cf53_6 : decode cJ9_min_7cf53 6 = .ok (.goto 4, 3) := by decide +kernel
theorem dJ9_min_7cf53_9 : decode cJ9_min_7cf53 9 = .ok (.iload_n 1, 1) := by decide +kernel
theorem dJ9_min_7cf53_10 : decode cJ9_min_7cf53 10 = .ok (.ireturn, 1) := by decide +kernel
theorem dL_cell_0 : decode cL_cell 0 = .ok (.iload_n 1, 1) := by decide +kernel
theorem dL_cell_1 : decode cL_cell 1 = .ok (.aload_n 0, 1) := by decide +kernel
theorem dL_cell_2 : decode cL_cell 2 = .ok (.arraylength, 1) := by decide +kernel
theorem dL_cell_3 : decode cL_cell 3 = .ok (.if_icmp .ge 9, 3) := by decide +kernel
theorem dL_cell_6 : decode cL_cell 6 = .ok (.aload_n 0, 1) := by decide +kernel
theorem dL_cell_7 : decode cL_cell 7 = .ok (.iload_n 1, 1) := by decide +kernel
theorem dL_cell_8 : decode cL_cell 8 = .ok (.iaload, 1) := by decide +kernel
theorem dL_cell_9 : decode cL_cell 9 = .ok (.goto 4, 3) := by decide +kernel
theorem dL_cell_12 : decode cL_cell 12 = .ok (.iconst 0, 1) := by decide +kernel
theorem dL_cell_13 : decode cL_cell 13 = .ok (.ireturn, 1) := by decide +kernel
theorem dL_alloc_0 : decode cL_alloc 0 = .ok (.aload 4, 2) := by decide +kernel
theorem dL_alloc_2 : decode cL_alloc 2 = .ok (.iconst 0, 1) := by decide +kernel
theorem dL_alloc_3 : decode cL_alloc 3 = .ok (.aload_n 0, 1) := by decide +kernel
theorem dL_alloc_4 : decode cL_alloc 4 = .ok (.iload_n 1, 1) := by decide +kernel
theorem dL_alloc_5 : decode cL_alloc 5 = .ok (.iload_n 2, 1) := by decide +kernel
theorem dL_alloc_6 : decode cL_alloc 6 = .ok (.iload_n 3, 1) := by decide +kernel
theorem dL_alloc_7 : decode cL_alloc 7 = .ok (.invokevirtual 7, 3) := by decide +kernel
theorem dL_alloc_10 : decode cL_alloc 10 = .ok (.i2l, 1) := by decide +kernel
theorem dL_alloc_11 : decode cL_alloc 11 = .ok (.lastore, 1) := by decide +kernel
theorem dL_alloc_12 : decode cL_alloc 12 = .ok (.goto 11, 3) := by decide +kernel
theorem dL_alloc_15 : decode cL_alloc 15 = .ok (.astore 5, 2) := by decide +kernel
theorem dL_alloc_17 : decode cL_alloc 17 = .ok (.iconst 1, 1) := by decide +kernel
theorem dL_alloc_18 : decode cL_alloc 18 = .ok (.ireturn, 1) := by decide +kernel
theorem dL_alloc_19 : decode cL_alloc 19 = .ok (.astore 5, 2) := by decide +kernel
theorem dL_alloc_21 : decode cL_alloc 21 = .ok (.iconst 2, 1) := by decide +kernel
theorem dL_alloc_22 : decode cL_alloc 22 = .ok (.ireturn, 1) := by decide +kernel
theorem dL_alloc_23 : decode cL_alloc 23 = .ok (.iconst 0, 1) := by decide +kernel
theorem dL_alloc_24 : decode cL_alloc 24 = .ok (.ireturn, 1) := by decide +kernel
theorem dL_move_0 : decode cL_move 0 = .ok (.aload_n 0, 1) := by decide +kernel
theorem dL_move_1 : decode cL_move 1 = .ok (.iload_n 1, 1) := by decide +kernel
theorem dL_move_2 : decode cL_move 2 = .ok (.iload_n 2, 1) := by decide +kernel
theorem dL_move_3 : decode cL_move 3 = .ok (.invokevirtual 17, 3) := by decide +kernel
theorem dL_move_6 : decode cL_move 6 = .ok (.goto 6, 3) := by decide +kernel
theorem dL_move_9 : decode cL_move 9 = .ok (.astore_n 3, 1) := by decide +kernel
theorem dL_move_10 : decode cL_move 10 = .ok (.iconst 1, 1) := by decide +kernel
theorem dL_move_11 : decode cL_move 11 = .ok (.ireturn, 1) := by decide +kernel
theorem dL_move_12 : decode cL_move 12 = .ok (.iconst 0, 1) := by decide +kernel
theorem dL_move_13 : decode cL_move 13 = .ok (.ireturn, 1) := by decide +kernel
theorem dL_drop_0 : decode cL_drop 0 = .ok (.aload_n 2, 1) := by decide +kernel
theorem dL_drop_1 : decode cL_drop 1 = .ok (.iconst 0, 1) := by decide +kernel
theorem dL_drop_2 : decode cL_drop 2 = .ok (.aload_n 0, 1) := by decide +kernel
theorem dL_drop_3 : decode cL_drop 3 = .ok (.iload_n 1, 1) := by decide +kernel
theorem dL_drop_4 : decode cL_drop 4 = .ok (.invokevirtual 21, 3) := by decide +kernel
theorem dL_drop_7 : decode cL_drop 7 = .ok (.ifCond .eq 7, 3) := by decide +kernel
theorem dL_drop_10 : decode cL_drop 10 = .ok (.lconst 1, 1) := by decide +kernel
theorem dL_drop_11 : decode cL_drop 11 = .ok (.goto 4, 3) := by decide +kernel
theorem dL_drop_14 : decode cL_drop 14 = .ok (.lconst 0, 1) := by decide +kernel
theorem dL_drop_15 : decode cL_drop 15 = .ok (.lastore, 1) := by decide +kernel
theorem dL_drop_16 : decode cL_drop 16 = .ok (.goto 6, 3) := by decide +kernel
theorem dL_drop_19 : decode cL_drop 19 = .ok (.astore_n 3, 1) := by decide +kernel
theorem dL_drop_20 : decode cL_drop 20 = .ok (.iconst 1, 1) := by decide +kernel
theorem dL_drop_21 : decode cL_drop 21 = .ok (.ireturn, 1) := by decide +kernel
theorem dL_drop_22 : decode cL_drop 22 = .ok (.iconst 0, 1) := by decide +kernel
theorem dL_drop_23 : decode cL_drop 23 = .ok (.ireturn, 1) := by decide +kernel
theorem dL_read_0 : decode cL_read 0 = .ok (.aload 4, 2) := by decide +kernel
theorem dL_read_2 : decode cL_read 2 = .ok (.iconst 0, 1) := by decide +kernel
theorem dL_read_3 : decode cL_read 3 = .ok (.aload_n 0, 1) := by decide +kernel
theorem dL_read_4 : decode cL_read 4 = .ok (.iload_n 1, 1) := by decide +kernel
theorem dL_read_5 : decode cL_read 5 = .ok (.iload_n 2, 1) := by decide +kernel
theorem dL_read_6 : decode cL_read 6 = .ok (.iload_n 3, 1) := by decide +kernel
theorem dL_read_7 : decode cL_read 7 = .ok (.invokevirtual 25, 3) := by decide +kernel
theorem dL_read_10 : decode cL_read 10 = .ok (.i2l, 1) := by decide +kernel
theorem dL_read_11 : decode cL_read 11 = .ok (.lastore, 1) := by decide +kernel
theorem dL_read_12 : decode cL_read 12 = .ok (.goto 11, 3) := by decide +kernel
theorem dL_read_15 : decode cL_read 15 = .ok (.astore 5, 2) := by decide +kernel
theorem dL_read_17 : decode cL_read 17 = .ok (.iconst 1, 1) := by decide +kernel
theorem dL_read_18 : decode cL_read 18 = .ok (.ireturn, 1) := by decide +kernel
theorem dL_read_19 : decode cL_read 19 = .ok (.astore 5, 2) := by decide +kernel
theorem dL_read_21 : decode cL_read 21 = .ok (.iconst 2, 1) := by decide +kernel
theorem dL_read_22 : decode cL_read 22 = .ok (.ireturn, 1) := by decide +kernel
theorem dL_read_23 : decode cL_read 23 = .ok (.iconst 0, 1) := by decide +kernel
theorem dL_read_24 : decode cL_read 24 = .ok (.ireturn, 1) := by decide +kernel
theorem dL_write_0 : decode cL_write 0 = .ok (.aload 4, 2) := by decide +kernel
theorem dL_write_2 : decode cL_write 2 = .ok (.iconst 0, 1) := by decide +kernel
theorem dL_write_3 : decode cL_write 3 = .ok (.aload_n 0, 1) := by decide +kernel
theorem dL_write_4 : decode cL_write 4 = .ok (.iload_n 1, 1) := by decide +kernel
theorem dL_write_5 : decode cL_write 5 = .ok (.iload_n 2, 1) := by decide +kernel
theorem dL_write_6 : decode cL_write 6 = .ok (.iload_n 3, 1) := by decide +kernel
theorem dL_write_7 : decode cL_write 7 = .ok (.invokevirtual 30, 3) := by decide +kernel
theorem dL_write_10 : decode cL_write 10 = .ok (.i2l, 1) := by decide +kernel
theorem dL_write_11 : decode cL_write 11 = .ok (.lastore, 1) := by decide +kernel
theorem dL_write_12 : decode cL_write 12 = .ok (.goto 11, 3) := by decide +kernel
theorem dL_write_15 : decode cL_write 15 = .ok (.astore 5, 2) := by decide +kernel
theorem dL_write_17 : decode cL_write 17 = .ok (.iconst 1, 1) := by decide +kernel
theorem dL_write_18 : decode cL_write 18 = .ok (.ireturn, 1) := by decide +kernel
theorem dL_write_19 : decode cL_write 19 = .ok (.astore 5, 2) := by decide +kernel
theorem dL_write_21 : decode cL_write 21 = .ok (.iconst 2, 1) := by decide +kernel
theorem dL_write_22 : decode cL_write 22 = .ok (.ireturn, 1) := by decide +kernel
theorem dL_write_23 : decode cL_write 23 = .ok (.iconst 0, 1) := by decide +kernel
theorem dL_write_24 : decode cL_write 24 = .ok (.ireturn, 1) := by decide +kernel
theorem dL_tag_0 : decode cL_tag 0 = .ok (.aload_n 2, 1) := by decide +kernel
theorem dL_tag_1 : decode cL_tag 1 = .ok (.iconst 0, 1) := by decide +kernel
theorem dL_tag_2 : decode cL_tag 2 = .ok (.aload_n 0, 1) := by decide +kernel
theorem dL_tag_3 : decode cL_tag 3 = .ok (.iload_n 1, 1) := by decide +kernel
theorem dL_tag_4 : decode cL_tag 4 = .ok (.invokevirtual 33, 3) := by decide +kernel
theorem dL_tag_7 : decode cL_tag 7 = .ok (.i2l, 1) := by decide +kernel
theorem dL_tag_8 : decode cL_tag 8 = .ok (.lastore, 1) := by decide +kernel
theorem dL_tag_9 : decode cL_tag 9 = .ok (.goto 9, 3) := by decide +kernel
theorem dL_tag_12 : decode cL_tag 12 = .ok (.astore_n 3, 1) := by decide +kernel
theorem dL_tag_13 : decode cL_tag 13 = .ok (.iconst 1, 1) := by decide +kernel
theorem dL_tag_14 : decode cL_tag 14 = .ok (.ireturn, 1) := by decide +kernel
theorem dL_tag_15 : decode cL_tag 15 = .ok (.astore_n 3, 1) := by decide +kernel
theorem dL_tag_16 : decode cL_tag 16 = .ok (.iconst 2, 1) := by decide +kernel
theorem dL_tag_17 : decode cL_tag 17 = .ok (.ireturn, 1) := by decide +kernel
theorem dL_tag_18 : decode cL_tag 18 = .ok (.iconst 0, 1) := by decide +kernel
theorem dL_tag_19 : decode cL_tag 19 = .ok (.ireturn, 1) := by decide +kernel
theorem dL_same_0 : decode cL_same 0 = .ok (.aload_n 3, 1) := by decide +kernel
theorem dL_same_1 : decode cL_same 1 = .ok (.iconst 0, 1) := by decide +kernel
theorem dL_same_2 : decode cL_same 2 = .ok (.aload_n 0, 1) := by decide +kernel
theorem dL_same_3 : decode cL_same 3 = .ok (.iload_n 1, 1) := by decide +kernel
theorem dL_same_4 : decode cL_same 4 = .ok (.iload_n 2, 1) := by decide +kernel
theorem dL_same_5 : decode cL_same 5 = .ok (.invokevirtual 37, 3) := by decide +kernel
theorem dL_same_8 : decode cL_same 8 = .ok (.ifCond .eq 7, 3) := by decide +kernel
theorem dL_same_11 : decode cL_same 11 = .ok (.lconst 1, 1) := by decide +kernel
theorem dL_same_12 : decode cL_same 12 = .ok (.goto 4, 3) := by decide +kernel
theorem dL_same_15 : decode cL_same 15 = .ok (.lconst 0, 1) := by decide +kernel
theorem dL_same_16 : decode cL_same 16 = .ok (.lastore, 1) := by decide +kernel
theorem dL_same_17 : decode cL_same 17 = .ok (.goto 7, 3) := by decide +kernel
theorem dL_same_20 : decode cL_same 20 = .ok (.astore 4, 2) := by decide +kernel
theorem dL_same_22 : decode cL_same 22 = .ok (.iconst 1, 1) := by decide +kernel
theorem dL_same_23 : decode cL_same 23 = .ok (.ireturn, 1) := by decide +kernel
theorem dL_same_24 : decode cL_same 24 = .ok (.iconst 0, 1) := by decide +kernel
theorem dL_same_25 : decode cL_same 25 = .ok (.ireturn, 1) := by decide +kernel
theorem dL_where_0 : decode cL_where 0 = .ok (.aload_n 2, 1) := by decide +kernel
theorem dL_where_1 : decode cL_where 1 = .ok (.iconst 0, 1) := by decide +kernel
theorem dL_where_2 : decode cL_where 2 = .ok (.aload_n 0, 1) := by decide +kernel
theorem dL_where_3 : decode cL_where 3 = .ok (.iload_n 1, 1) := by decide +kernel
theorem dL_where_4 : decode cL_where 4 = .ok (.invokevirtual 41, 3) := by decide +kernel
theorem dL_where_7 : decode cL_where 7 = .ok (.i2l, 1) := by decide +kernel
theorem dL_where_8 : decode cL_where 8 = .ok (.lastore, 1) := by decide +kernel
theorem dL_where_9 : decode cL_where 9 = .ok (.goto 6, 3) := by decide +kernel
theorem dL_where_12 : decode cL_where 12 = .ok (.astore_n 3, 1) := by decide +kernel
theorem dL_where_13 : decode cL_where 13 = .ok (.iconst 1, 1) := by decide +kernel
theorem dL_where_14 : decode cL_where 14 = .ok (.ireturn, 1) := by decide +kernel
theorem dL_where_15 : decode cL_where 15 = .ok (.iconst 0, 1) := by decide +kernel
theorem dL_where_16 : decode cL_where 16 = .ok (.ireturn, 1) := by decide +kernel
theorem dL_work_0 : decode cL_work 0 = .ok (.aload_n 2, 1) := by decide +kernel
theorem dL_work_1 : decode cL_work 1 = .ok (.iconst 0, 1) := by decide +kernel
theorem dL_work_2 : decode cL_work 2 = .ok (.aload_n 0, 1) := by decide +kernel
theorem dL_work_3 : decode cL_work 3 = .ok (.iload_n 1, 1) := by decide +kernel
theorem dL_work_4 : decode cL_work 4 = .ok (.invokevirtual 44, 3) := by decide +kernel
theorem dL_work_7 : decode cL_work 7 = .ok (.i2l, 1) := by decide +kernel
theorem dL_work_8 : decode cL_work 8 = .ok (.lastore, 1) := by decide +kernel
theorem dL_work_9 : decode cL_work 9 = .ok (.goto 6, 3) := by decide +kernel
theorem dL_work_12 : decode cL_work 12 = .ok (.astore_n 3, 1) := by decide +kernel
theorem dL_work_13 : decode cL_work 13 = .ok (.iconst 1, 1) := by decide +kernel
theorem dL_work_14 : decode cL_work 14 = .ok (.ireturn, 1) := by decide +kernel
theorem dL_work_15 : decode cL_work 15 = .ok (.iconst 0, 1) := by decide +kernel
theorem dL_work_16 : decode cL_work 16 = .ok (.ireturn, 1) := by decide +kernel
theorem dL_region_0 : decode cL_region 0 = .ok (.aload_n 3, 1) := by decide +kernel
theorem dL_region_1 : decode cL_region 1 = .ok (.iconst 0, 1) := by decide +kernel
theorem dL_region_2 : decode cL_region 2 = .ok (.aload_n 0, 1) := by decide +kernel
theorem dL_region_3 : decode cL_region 3 = .ok (.iload_n 1, 1) := by decide +kernel
theorem dL_region_4 : decode cL_region 4 = .ok (.iload_n 2, 1) := by decide +kernel
theorem dL_region_5 : decode cL_region 5 = .ok (.invokevirtual 47, 3) := by decide +kernel
theorem dL_region_8 : decode cL_region 8 = .ok (.i2l, 1) := by decide +kernel
theorem dL_region_9 : decode cL_region 9 = .ok (.lastore, 1) := by decide +kernel
theorem dL_region_10 : decode cL_region 10 = .ok (.goto 7, 3) := by decide +kernel
theorem dL_region_13 : decode cL_region 13 = .ok (.astore 4, 2) := by decide +kernel
theorem dL_region_15 : decode cL_region 15 = .ok (.iconst 1, 1) := by decide +kernel
theorem dL_region_16 : decode cL_region 16 = .ok (.ireturn, 1) := by decide +kernel
theorem dL_region_17 : decode cL_region 17 = .ok (.iconst 0, 1) := by decide +kernel
theorem dL_region_18 : decode cL_region 18 = .ok (.ireturn, 1) := by decide +kernel
end
section
theorem dX6_init_0 : decode cX6_init 0 = .ok (.aload_n 0, 1) := by decide +kernel
theorem dX6_init_1 : decode cX6_init 1 = .ok (.invokespecial 1, 3) := by decide +kernel
theorem dX6_init_4 : decode cX6_init 4 = .ok (.aload_n 0, 1) := by decide +kernel
theorem dX6_init_5 : decode cX6_init 5 = .ok (.bipush 16, 2) := by decide +kernel
theorem dX6_init_7 : decode cX6_init 7 = .ok (.newarray .int, 2) := by decide +kernel
theorem dX6_init_9 : decode cX6_init 9 = .ok (.putfield 7, 3) := by decide +kernel
theorem dX6_init_12 : decode cX6_init 12 = .ok (.aload_n 0, 1) := by decide +kernel
theorem dX6_init_13 : decode cX6_init 13 = .ok (.bipush 16, 2) := by decide +kernel
theorem dX6_init_15 : decode cX6_init 15 = .ok (.newarray .int, 2) := by decide +kernel
theorem dX6_init_17 : decode cX6_init 17 = .ok (.putfield 13, 3) := by decide +kernel
theorem dX6_init_20 : decode cX6_init 20 = .ok (.aload_n 0, 1) := by decide +kernel
theorem dX6_init_21 : decode cX6_init 21 = .ok (.bipush 16, 2) := by decide +kernel
theorem dX6_init_23 : decode cX6_init 23 = .ok (.newarray .boolean, 2) := by decide +kernel
theorem dX6_init_25 : decode cX6_init 25 = .ok (.putfield 16, 3) := by decide +kernel
theorem dX6_init_28 : decode cX6_init 28 = .ok (.aload_n 0, 1) := by decide +kernel
theorem dX6_init_29 : decode cX6_init 29 = .ok (.sipush 620, 3) := by decide +kernel
theorem dX6_init_32 : decode cX6_init 32 = .ok (.newarray .int, 2) := by decide +kernel
theorem dX6_init_34 : decode cX6_init 34 = .ok (.putfield 20, 3) := by decide +kernel
theorem dX6_init_37 : decode cX6_init 37 = .ok (.aload_n 0, 1) := by decide +kernel
theorem dX6_init_38 : decode cX6_init 38 = .ok (.sipush 620, 3) := by decide +kernel
theorem dX6_init_41 : decode cX6_init 41 = .ok (.newarray .int, 2) := by decide +kernel
theorem dX6_init_43 : decode cX6_init 43 = .ok (.putfield 23, 3) := by decide +kernel
theorem dX6_init_46 : decode cX6_init 46 = .ok (.aload_n 0, 1) := by decide +kernel
theorem dX6_init_47 : decode cX6_init 47 = .ok (.sipush 620, 3) := by decide +kernel
theorem dX6_init_50 : decode cX6_init 50 = .ok (.newarray .int, 2) := by decide +kernel
theorem dX6_init_52 : decode cX6_init 52 = .ok (.putfield 26, 3) := by decide +kernel
theorem dX6_init_55 : decode cX6_init 55 = .ok (.aload_n 0, 1) := by decide +kernel
theorem dX6_init_56 : decode cX6_init 56 = .ok (.sipush 620, 3) := by decide +kernel
theorem dX6_init_59 : decode cX6_init 59 = .ok (.newarray .int, 2) := by decide +kernel
theorem dX6_init_61 : decode cX6_init 61 = .ok (.putfield 29, 3) := by decide +kernel
theorem dX6_init_64 : decode cX6_init 64 = .ok (.aload_n 0, 1) := by decide +kernel
theorem dX6_init_65 : decode cX6_init 65 = .ok (.sipush 13020, 3) := by decide +kernel
theorem dX6_init_68 : decode cX6_init 68 = .ok (.newarray .int, 2) := by decide +kernel
theorem dX6_init_70 : decode cX6_init 70 = .ok (.putfield 32, 3) := by decide +kernel
theorem dX6_init_73 : decode cX6_init 73 = .ok (.aload_n 0, 1) := by decide +kernel
theorem dX6_init_74 : decode cX6_init 74 = .ok (.sipush 620, 3) := by decide +kernel
theorem dX6_init_77 : decode cX6_init 77 = .ok (.newarray .boolean, 2) := by decide +kernel
theorem dX6_init_79 : decode cX6_init 79 = .ok (.putfield 35, 3) := by decide +kernel
theorem dX6_init_82 : decode cX6_init 82 = .ok (.aload_n 0, 1) := by decide +kernel
theorem dX6_init_83 : decode cX6_init 83 = .ok (.sipush 620, 3) := by decide +kernel
theorem dX6_init_86 : decode cX6_init 86 = .ok (.newarray .boolean, 2) := by decide +kernel
theorem dX6_init_88 : decode cX6_init 88 = .ok (.putfield 38, 3) := by decide +kernel
theorem dX6_init_91 : decode cX6_init 91 = .ok (.aload_n 0, 1) := by decide +kernel
theorem dX6_init_92 : decode cX6_init 92 = .ok (.bipush 10, 2) := by decide +kernel
theorem dX6_init_94 : decode cX6_init 94 = .ok (.newarray .int, 2) := by decide +kernel
theorem dX6_init_96 : decode cX6_init 96 = .ok (.dup, 1) := by decide +kernel
theorem dX6_init_97 : decode cX6_init 97 = .ok (.iconst 0, 1) := by decide +kernel
theorem dX6_init_98 : decode cX6_init 98 = .ok (.iconst (-1), 1) := by decide +kernel
theorem dX6_init_99 : decode cX6_init 99 = .ok (.iastore, 1) := by decide +kernel
theorem dX6_init_100 : decode cX6_init 100 = .ok (.dup, 1) := by decide +kernel
theorem dX6_init_101 : decode cX6_init 101 = .ok (.iconst 1, 1) := by decide +kernel
theorem dX6_init_102 : decode cX6_init 102 = .ok (.iconst (-1), 1) := by decide +kernel
theorem dX6_init_103 : decode cX6_init 103 = .ok (.iastore, 1) := by decide +kernel
theorem dX6_init_104 : decode cX6_init 104 = .ok (.dup, 1) := by decide +kernel
theorem dX6_init_105 : decode cX6_init 105 = .ok (.iconst 2, 1) := by decide +kernel
theorem dX6_init_106 : decode cX6_init 106 = .ok (.iconst (-1), 1) := by decide +kernel
theorem dX6_init_107 : decode cX6_init 107 = .ok (.iastore, 1) := by decide +kernel
theorem dX6_init_108 : decode cX6_init 108 = .ok (.dup, 1) := by decide +kernel
theorem dX6_init_109 : decode cX6_init 109 = .ok (.iconst 3, 1) := by decide +kernel
theorem dX6_init_110 : decode cX6_init 110 = .ok (.iconst (-1), 1) := by decide +kernel
theorem dX6_init_111 : decode cX6_init 111 = .ok (.iastore, 1) := by decide +kernel
theorem dX6_init_112 : decode cX6_init 112 = .ok (.dup, 1) := by decide +kernel
theorem dX6_init_113 : decode cX6_init 113 = .ok (.iconst 4, 1) := by decide +kernel
theorem dX6_init_114 : decode cX6_init 114 = .ok (.iconst (-1), 1) := by decide +kernel
theorem dX6_init_115 : decode cX6_init 115 = .ok (.iastore, 1) := by decide +kernel
theorem dX6_init_116 : decode cX6_init 116 = .ok (.dup, 1) := by decide +kernel
theorem dX6_init_117 : decode cX6_init 117 = .ok (.iconst 5, 1) := by decide +kernel
theorem dX6_init_118 : decode cX6_init 118 = .ok (.iconst (-1), 1) := by decide +kernel
theorem dX6_init_119 : decode cX6_init 119 = .ok (.iastore, 1) := by decide +kernel
theorem dX6_init_120 : decode cX6_init 120 = .ok (.dup, 1) := by decide +kernel
theorem dX6_init_121 : decode cX6_init 121 = .ok (.bipush 6, 2) := by decide +kernel
theorem dX6_init_123 : decode cX6_init 123 = .ok (.iconst (-1), 1) := by decide +kernel
theorem dX6_init_124 : decode cX6_init 124 = .ok (.iastore, 1) := by decide +kernel
theorem dX6_init_125 : decode cX6_init 125 = .ok (.dup, 1) := by decide +kernel
theorem dX6_init_126 : decode cX6_init 126 = .ok (.bipush 7, 2) := by decide +kernel
theorem dX6_init_128 : decode cX6_init 128 = .ok (.iconst (-1), 1) := by decide +kernel
theorem dX6_init_129 : decode cX6_init 129 = .ok (.iastore, 1) := by decide +kernel
theorem dX6_init_130 : decode cX6_init 130 = .ok (.dup, 1) := by decide +kernel
theorem dX6_init_131 : decode cX6_init 131 = .ok (.bipush 8, 2) := by decide +kernel
theorem dX6_init_133 : decode cX6_init 133 = .ok (.iconst (-1), 1) := by decide +kernel
theorem dX6_init_134 : decode cX6_init 134 = .ok (.iastore, 1) := by decide +kernel
theorem dX6_init_135 : decode cX6_init 135 = .ok (.dup, 1) := by decide +kernel
theorem dX6_init_136 : decode cX6_init 136 = .ok (.bipush 9, 2) := by decide +kernel
theorem dX6_init_138 : decode cX6_init 138 = .ok (.iconst (-1), 1) := by decide +kernel
theorem dX6_init_139 : decode cX6_init 139 = .ok (.iastore, 1) := by decide +kernel
theorem dX6_init_140 : decode cX6_init 140 = .ok (.putfield 41, 3) := by decide +kernel
theorem dX6_init_143 : decode cX6_init 143 = .ok (.aload_n 0, 1) := by decide +kernel
theorem dX6_init_144 : decode cX6_init 144 = .ok (.sipush 620, 3) := by decide +kernel
theorem dX6_init_147 : decode cX6_init 147 = .ok (.newarray .int, 2) := by decide +kernel
theorem dX6_init_149 : decode cX6_init 149 = .ok (.putfield 44, 3) := by decide +kernel
theorem dX6_init_152 : decode cX6_init 152 = .ok (.aload_n 0, 1) := by decide +kernel
theorem dX6_init_153 : decode cX6_init 153 = .ok (.iload_n 1, 1) := by decide +kernel
theorem dX6_init_154 : decode cX6_init 154 = .ok (.iconst 3, 1) := by decide +kernel
theorem dX6_init_155 : decode cX6_init 155 = .ok (.if_icmp .ge 7, 3) := by decide +kernel
theorem dX6_init_158 : decode cX6_init 158 = .ok (.iconst 3, 1) := by decide +kernel
theorem dX6_init_159 : decode cX6_init 159 = .ok (.goto 15, 3) := by decide +kernel
theorem dX6_init_162 : decode cX6_init 162 = .ok (.iload_n 1, 1) := by decide +kernel
theorem dX6_init_163 : decode cX6_init 163 = .ok (.bipush 16, 2) := by decide +kernel
theorem dX6_init_165 : decode cX6_init 165 = .ok (.if_icmp .le 8, 3) := by decide +kernel
theorem dX6_init_168 : decode cX6_init 168 = .ok (.bipush 16, 2) := by decide +kernel
theorem dX6_init_170 : decode cX6_init 170 = .ok (.goto 4, 3) := by decide +kernel
theorem dX6_init_173 : decode cX6_init 173 = .ok (.iload_n 1, 1) := by decide +kernel
theorem dX6_init_174 : decode cX6_init 174 = .ok (.putfield 47, 3) := by decide +kernel
theorem dX6_init_177 : decode cX6_init 177 = .ok (.aload_n 0, 1) := by decide +kernel
theorem dX6_init_178 : decode cX6_init 178 = .ok (.iload_n 2, 1) := by decide +kernel
theorem dX6_init_179 : decode cX6_init 179 = .ok (.ifCond .ge 7, 3) := by decide +kernel
theorem dX6_init_182 : decode cX6_init 182 = .ok (.iconst 0, 1) := by decide +kernel
theorem dX6_init_183 : decode cX6_init 183 = .ok (.goto 17, 3) := by decide +kernel
theorem dX6_init_186 : decode cX6_init 186 = .ok (.iload_n 2, 1) := by decide +kernel
theorem dX6_init_187 : decode cX6_init 187 = .ok (.sipush 128, 3) := by decide +kernel
theorem dX6_init_190 : decode cX6_init 190 = .ok (.if_icmp .le 9, 3) := by decide +kernel
theorem dX6_init_193 : decode cX6_init 193 = .ok (.sipush 128, 3) := by decide +kernel
theorem dX6_init_196 : decode cX6_init 196 = .ok (.goto 4, 3) := by decide +kernel
theorem dX6_init_199 : decode cX6_init 199 = .ok (.iload_n 2, 1) := by decide +kernel
theorem dX6_init_200 : decode cX6_init 200 = .ok (.putfield 51, 3) := by decide +kernel
theorem dX6_init_203 : decode cX6_init 203 = .ok (.return_, 1) := by decide +kernel
theorem dX6_thrown_0 : decode cX6_thrown 0 = .ok (.aload_n 0, 1) := by decide +kernel
theorem dX6_thrown_1 : decode cX6_thrown 1 = .ok (.getfield 54, 3) := by decide +kernel
theorem dX6_thrown_4 : decode cX6_thrown 4 = .ok (.ireturn, 1) := by decide +kernel
theorem dX6_good_0 : decode cX6_good 0 = .ok (.aload_n 0, 1) := by decide +kernel
theorem dX6_good_1 : decode cX6_good 1 = .ok (.iload_n 1, 1) := by decide +kernel
theorem dX6_good_2 : decode cX6_good 2 = .ok (.ifCond .ne 7, 3) := by decide +kernel
theorem dX6_good_5 : decode cX6_good 5 = .ok (.iconst 1, 1) := by decide +kernel
theorem dX6_good_6 : decode cX6_good 6 = .ok (.goto 12, 3) := by decide +kernel
theorem dX6_good_9 : decode cX6_good 9 = .ok (.iload_n 2, 1) := by decide +kernel
theorem dX6_good_10 : decode cX6_good 10 = .ok (.ifCond .ne 7, 3) := by decide +kernel
theorem dX6_good_13 : decode cX6_good 13 = .ok (.iconst 2, 1) := by decide +kernel
theorem dX6_good_14 : decode cX6_good 14 = .ok (.goto 4, 3) := by decide +kernel
theorem dX6_good_17 : decode cX6_good 17 = .ok (.iconst 0, 1) := by decide +kernel
theorem dX6_good_18 : decode cX6_good 18 = .ok (.putfield 54, 3) := by decide +kernel
theorem dX6_good_21 : decode cX6_good 21 = .ok (.aload_n 0, 1) := by decide +kernel
theorem dX6_good_22 : decode cX6_good 22 = .ok (.getfield 54, 3) := by decide +kernel
theorem dX6_good_25 : decode cX6_good 25 = .ok (.ifCond .ne 7, 3) := by decide +kernel
theorem dX6_good_28 : decode cX6_good 28 = .ok (.iconst 1, 1) := by decide +kernel
theorem dX6_good_29 : decode cX6_good 29 = .ok (.goto 4, 3) := by decide +kernel
theorem dX6_good_32 : decode cX6_good 32 = .ok (.iconst 0, 1) := by decide +kernel
theorem dX6_good_33 : decode cX6_good 33 = .ok (.ireturn, 1) := by decide +kernel
theorem dX6_isRegister_0 : decode cX6_isRegister 0 = .ok (.iload_n 0, 1) := by decide +kernel
theorem dX6_isRegister_1 : decode cX6_isRegister 1 = .ok (.ifCond .lt 13, 3) := by decide +kernel
theorem dX6_isRegister_4 : decode cX6_isRegister 4 = .ok (.iload_n 0, 1) := by decide +kernel
theorem dX6_isRegister_5 : decode cX6_isRegister 5 = .ok (.bipush 10, 2) := by decide +kernel
theorem dX6_isRegister_7 : decode cX6_isRegister 7 = .ok (.if_icmp .ge 7, 3) := by decide +kernel
theorem dX6_isRegister_10 : decode cX6_isRegister 10 = .ok (.iconst 1, 1) := by decide +kernel
theorem dX6_isRegister_11 : decode cX6_isRegister 11 = .ok (.goto 4, 3) := by decide +kernel
theorem dX6_isRegister_14 : decode cX6_isRegister 14 = .ok (.iconst 0, 1) := by decide +kernel
theorem dX6_isRegister_15 : decode cX6_isRegister 15 = .ok (.ireturn, 1) := by decide +kernel
theorem dX6_place_0 : decode cX6_place 0 = .ok (.iload_n 1, 1) := by decide +kernel
theorem dX6_place_1 : decode cX6_place 1 = .ok (.iconst (-1), 1) := by decide +kernel
theorem dX6_place_2 : decode cX6_place 2 = .ok (.if_icmp .ne 7, 3) := by decide +kernel
theorem dX6_place_5 : decode cX6_place 5 = .ok (.iconst (-1), 1) := by decide +kernel
theorem dX6_place_6 : decode cX6_place 6 = .ok (.goto 20, 3) := by decide +kernel
theorem dX6_place_9 : decode cX6_place 9 = .ok (.sipush 128, 3) := by decide +kernel
theorem dX6_place_12 : decode cX6_place 12 = .ok (.aload_n 0, 1) := by decide +kernel
theorem dX6_place_13 : decode cX6_place 13 = .ok (.getfield 20, 3) := by decide +kernel
theorem dX6_place_16 : decode cX6_place 16 = .ok (.iload_n 1, 1) := by decide +kernel
theorem dX6_place_17 : decode cX6_place 17 = .ok (.iaload, 1) := by decide +kernel
theorem dX6_place_18 : decode cX6_place 18 = .ok (.imul, 1) := by decide +kernel
theorem dX6_place_19 : decode cX6_place 19 = .ok (.aload_n 0, 1) := by decide +kernel
theorem dX6_place_20 : decode cX6_place 20 = .ok (.getfield 23, 3) := by decide +kernel
theorem dX6_place_23 : decode cX6_place 23 = .ok (.iload_n 1, 1) := by decide +kernel
theorem dX6_place_24 : decode cX6_place 24 = .ok (.iaload, 1) := by decide +kernel
theorem dX6_place_25 : decode cX6_place 25 = .ok (.iadd, 1) := by decide +kernel
theorem dX6_place_26 : decode cX6_place 26 = .ok (.ireturn, 1) := by decide +kernel
theorem dX6_withState_0 : decode cX6_withState 0 = .ok (.iconst 0, 1) := by decide +kernel
theorem dX6_withState_1 : decode cX6_withState 1 = .ok (.istore_n 2, 1) := by decide +kernel
theorem dX6_withState_2 : decode cX6_withState 2 = .ok (.iload_n 2, 1) := by decide +kernel
theorem dX6_withState_3 : decode cX6_withState 3 = .ok (.aload_n 0, 1) := by decide +kernel
theorem dX6_withState_4 : decode cX6_withState 4 = .ok (.getfield 47, 3) := by decide +kernel
theorem dX6_withState_7 : decode cX6_withState 7 = .ok (.if_icmp .ge 19, 3) := by decide +kernel
theorem dX6_withState_10 : decode cX6_withState 10 = .ok (.aload_n 0, 1) := by decide +kernel
theorem dX6_withState_11 : decode cX6_withState 11 = .ok (.getfield 7, 3) := by decide +kernel
theorem dX6_withState_14 : decode cX6_withState 14 = .ok (.iload_n 2, 1) := by decide +kernel
theorem dX6_withState_15 : decode cX6_withState 15 = .ok (.iaload, 1) := by decide +kernel
theorem dX6_withState_16 : decode cX6_withState 16 = .ok (.iload_n 1, 1) := by decide +kernel
theorem dX6_withState_17 : decode cX6_withState 17 = .ok (.if_icmp .eq 9, 3) := by decide +kernel
theorem dX6_withState_20 : decode cX6_withState 20 = .ok (.iinc 2 1, 3) := by decide +kernel
theorem dX6_withState_23 : decode cX6_withState 23 = .ok (.goto (-21), 3) := by decide +kernel
theorem dX6_withState_26 : decode cX6_withState 26 = .ok (.iload_n 2, 1) := by decide +kernel
theorem dX6_withState_27 : decode cX6_withState 27 = .ok (.aload_n 0, 1) := by decide +kernel
theorem dX6_withState_28 : decode cX6_withState 28 = .ok (.getfield 47, 3) := by decide +kernel
theorem dX6_withState_31 : decode cX6_withState 31 = .ok (.if_icmp .ge 7, 3) := by decide +kernel
theorem dX6_withState_34 : decode cX6_withState 34 = .ok (.iload_n 2, 1) := by decide +kernel
theorem dX6_withState_35 : decode cX6_withState 35 = .ok (.goto 4, 3) := by decide +kernel
theorem dX6_withState_38 : decode cX6_withState 38 = .ok (.iconst (-1), 1) := by decide +kernel
theorem dX6_withState_39 : decode cX6_withState 39 = .ok (.ireturn, 1) := by decide +kernel
theorem dX6_seenIn_0 : decode cX6_seenIn 0 = .ok (.iconst 0, 1) := by decide +kernel
theorem dX6_seenIn_1 : decode cX6_seenIn 1 = .ok (.istore_n 2, 1) := by decide +kernel
theorem dX6_seenIn_2 : decode cX6_seenIn 2 = .ok (.iconst 0, 1) := by decide +kernel
theorem dX6_seenIn_3 : decode cX6_seenIn 3 = .ok (.istore_n 3, 1) := by decide +kernel
theorem dX6_seenIn_4 : decode cX6_seenIn 4 = .ok (.iload_n 3, 1) := by decide +kernel
theorem dX6_seenIn_5 : decode cX6_seenIn 5 = .ok (.aload_n 0, 1) := by decide +kernel
theorem dX6_seenIn_6 : decode cX6_seenIn 6 = .ok (.getfield 57, 3) := by decide +kernel
theorem dX6_seenIn_9 : decode cX6_seenIn 9 = .ok (.if_icmp .ge 50, 3) := by decide +kernel
theorem dX6_seenIn_12 : decode cX6_seenIn 12 = .ok (.aload_n 0, 1) := by decide +kernel
theorem dX6_seenIn_13 : decode cX6_seenIn 13 = .ok (.getfield 7, 3) := by decide +kernel
theorem dX6_seenIn_16 : decode cX6_seenIn 16 = .ok (.iload_n 1, 1) := by decide +kernel
theorem dX6_seenIn_17 : decode cX6_seenIn 17 = .ok (.iaload, 1) := by decide +kernel
theorem dX6_seenIn_18 : decode cX6_seenIn 18 = .ok (.ifCond .eq 41, 3) := by decide +kernel
theorem dX6_seenIn_21 : decode cX6_seenIn 21 = .ok (.aload_n 0, 1) := by decide +kernel
theorem dX6_seenIn_22 : decode cX6_seenIn 22 = .ok (.getfield 20, 3) := by decide +kernel
theorem dX6_seenIn_25 : decode cX6_seenIn 25 = .ok (.iload_n 3, 1) := by decide +kernel
theorem dX6_seenIn_26 : decode cX6_seenIn 26 = .ok (.iaload, 1) := by decide +kernel
theorem dX6_seenIn_27 : decode cX6_seenIn 27 = .ok (.iload_n 1, 1) := by decide +kernel
theorem dX6_seenIn_28 : decode cX6_seenIn 28 = .ok (.if_icmp .ne 23, 3) := by decide +kernel
theorem dX6_seenIn_31 : decode cX6_seenIn 31 = .ok (.aload_n 0, 1) := by decide +kernel
theorem dX6_seenIn_32 : decode cX6_seenIn 32 = .ok (.getfield 35, 3) := by decide +kernel
theorem dX6_seenIn_35 : decode cX6_seenIn 35 = .ok (.iload_n 3, 1) := by decide +kernel
theorem dX6_seenIn_36 : decode cX6_seenIn 36 = .ok (.baload, 1) := by decide +kernel
theorem dX6_seenIn_37 : decode cX6_seenIn 37 = .ok (.ifCond .eq 14, 3) := by decide +kernel
theorem dX6_seenIn_40 : decode cX6_seenIn 40 = .ok (.iload_n 2, 1) := by decide +kernel
theorem dX6_seenIn_41 : decode cX6_seenIn 41 = .ok (.aload_n 0, 1) := by decide +kernel
theorem dX6_seenIn_42 : decode cX6_seenIn 42 = .ok (.getfield 26, 3) := by decide +kernel
theorem dX6_seenIn_45 : decode cX6_seenIn 45 = .ok (.iload_n 3, 1) := by decide +kernel
theorem dX6_seenIn_46 : decode cX6_seenIn 46 = .ok (.iaload, 1) := by decide +kernel
theorem dX6_seenIn_47 : decode cX6_seenIn 47 = .ok (.iadd, 1) := by decide +kernel
theorem dX6_seenIn_48 : decode cX6_seenIn 48 = .ok (.goto 4, 3) := by decide +kernel
theorem dX6_seenIn_51 : decode cX6_seenIn 51 = .ok (.iload_n 2, 1) := by decide +kernel
theorem dX6_seenIn_52 : decode cX6_seenIn 52 = .ok (.istore_n 2, 1) := by decide +kernel
theorem dX6_seenIn_53 : decode cX6_seenIn 53 = .ok (.iinc 3 1, 3) := by decide +kernel
theorem dX6_seenIn_56 : decode cX6_seenIn 56 = .ok (.goto (-52), 3) := by decide +kernel
theorem dX6_seenIn_59 : decode cX6_seenIn 59 = .ok (.iload_n 2, 1) := by decide +kernel
theorem dX6_seenIn_60 : decode cX6_seenIn 60 = .ok (.ireturn, 1) := by decide +kernel
theorem dX6_see_0 : decode cX6_see 0 = .ok (.iload_n 1, 1) := by decide +kernel
theorem dX6_see_1 : decode cX6_see 1 = .ok (.iconst (-1), 1) := by decide +kernel
theorem dX6_see_2 : decode cX6_see 2 = .ok (.if_icmp .eq 39, 3) := by decide +kernel
theorem dX6_see_5 : decode cX6_see 5 = .ok (.aload_n 0, 1) := by decide +kernel
theorem dX6_see_6 : decode cX6_see 6 = .ok (.getfield 35, 3) := by decide +kernel
theorem dX6_see_9 : decode cX6_see 9 = .ok (.iload_n 1, 1) := by decide +kernel
theorem dX6_see_10 : decode cX6_see 10 = .ok (.baload, 1) := by decide +kernel
theorem dX6_see_11 : decode cX6_see 11 = .ok (.ifCond .ne 30, 3) := by decide +kernel
theorem dX6_see_14 : decode cX6_see 14 = .ok (.aload_n 0, 1) := by decide +kernel
theorem dX6_see_15 : decode cX6_see 15 = .ok (.getfield 35, 3) := by decide +kernel
theorem dX6_see_18 : decode cX6_see 18 = .ok (.iload_n 1, 1) := by decide +kernel
theorem dX6_see_19 : decode cX6_see 19 = .ok (.iconst 1, 1) := by decide +kernel
theorem dX6_see_20 : decode cX6_see 20 = .ok (.bastore, 1) := by decide +kernel
theorem dX6_see_21 : decode cX6_see 21 = .ok (.aload_n 0, 1) := by decide +kernel
theorem dX6_see_22 : decode cX6_see 22 = .ok (.getfield 44, 3) := by decide +kernel
theorem dX6_see_25 : decode cX6_see 25 = .ok (.aload_n 0, 1) := by decide +kernel
theorem dX6_see_26 : decode cX6_see 26 = .ok (.getfield 60, 3) := by decide +kernel
theorem dX6_see_29 : decode cX6_see 29 = .ok (.iload_n 1, 1) := by decide +kernel
theorem dX6_see_30 : decode cX6_see 30 = .ok (.iastore, 1) := by decide +kernel
theorem dX6_see_31 : decode cX6_see 31 = .ok (.aload_n 0, 1) := by decide +kernel
theorem dX6_see_32 : decode cX6_see 32 = .ok (.dup, 1) := by decide +kernel
theorem dX6_see_33 : decode cX6_see 33 = .ok (.getfield 60, 3) := by decide +kernel
theorem dX6_see_36 : decode cX6_see 36 = .ok (.iconst 1, 1) := by decide +kernel
theorem dX6_see_37 : decode cX6_see 37 = .ok (.iadd, 1) := by decide +kernel
theorem dX6_see_38 : decode cX6_see 38 = .ok (.putfield 60, 3) := by decide +kernel
theorem dX6_see_41 : decode cX6_see 41 = .ok (.return_, 1) := by decide +kernel
theorem dX6_start_0 : decode cX6_start 0 = .ok (.iconst 0, 1) := by decide +kernel
theorem dX6_start_1 : decode cX6_start 1 = .ok (.istore_n 1, 1) := by decide +kernel
theorem dX6_start_2 : decode cX6_start 2 = .ok (.iload_n 1, 1) := by decide +kernel
theorem dX6_start_3 : decode cX6_start 3 = .ok (.aload_n 0, 1) := by decide +kernel
theorem dX6_start_4 : decode cX6_start 4 = .ok (.getfield 57, 3) := by decide +kernel
theorem dX6_start_7 : decode cX6_start 7 = .ok (.if_icmp .ge 23, 3) := by decide +kernel
theorem dX6_start_10 : decode cX6_start 10 = .ok (.aload_n 0, 1) := by decide +kernel
theorem dX6_start_11 : decode cX6_start 11 = .ok (.getfield 35, 3) := by decide +kernel
theorem dX6_start_14 : decode cX6_start 14 = .ok (.iload_n 1, 1) := by decide +kernel
theorem dX6_start_15 : decode cX6_start 15 = .ok (.iconst 0, 1) := by decide +kernel
theorem dX6_start_16 : decode cX6_start 16 = .ok (.bastore, 1) := by decide +kernel
theorem dX6_start_17 : decode cX6_start 17 = .ok (.aload_n 0, 1) := by decide +kernel
theorem dX6_start_18 : decode cX6_start 18 = .ok (.getfield 38, 3) := by decide +kernel
theorem dX6_start_21 : decode cX6_start 21 = .ok (.iload_n 1, 1) := by decide +kernel
theorem dX6_start_22 : decode cX6_start 22 = .ok (.iconst 0, 1) := by decide +kernel
theorem dX6_start_23 : decode cX6_start 23 = .ok (.bastore, 1) := by decide +kernel
theorem dX6_start_24 : decode cX6_start 24 = .ok (.iinc 1 1, 3) := by decide +kernel
theorem dX6_start_27 : decode cX6_start 27 = .ok (.goto (-25), 3) := by decide +kernel
theorem dX6_start_30 : decode cX6_start 30 = .ok (.aload_n 0, 1) := by decide +kernel
theorem dX6_start_31 : decode cX6_start 31 = .ok (.iconst 0, 1) := by decide +kernel
theorem dX6_start_32 : decode cX6_start 32 = .ok (.putfield 63, 3) := by decide +kernel
theorem dX6_start_35 : decode cX6_start 35 = .ok (.aload_n 0, 1) := by decide +kernel
theorem dX6_start_36 : decode cX6_start 36 = .ok (.iconst 0, 1) := by decide +kernel
theorem dX6_start_37 : decode cX6_start 37 = .ok (.putfield 60, 3) := by decide +kernel
theorem dX6_start_40 : decode cX6_start 40 = .ok (.iconst 0, 1) := by decide +kernel
theorem dX6_start_41 : decode cX6_start 41 = .ok (.istore_n 1, 1) := by decide +kernel
theorem dX6_start_42 : decode cX6_start 42 = .ok (.iload_n 1, 1) := by decide +kernel
theorem dX6_start_43 : decode cX6_start 43 = .ok (.bipush 10, 2) := by decide +kernel
theorem dX6_start_45 : decode cX6_start 45 = .ok (.if_icmp .ge 19, 3) := by decide +kernel
theorem dX6_start_48 : decode cX6_start 48 = .ok (.aload_n 0, 1) := by decide +kernel
theorem dX6_start_49 : decode cX6_start 49 = .ok (.aload_n 0, 1) := by decide +kernel
theorem dX6_start_50 : decode cX6_start 50 = .ok (.getfield 41, 3) := by decide +kernel
theorem dX6_start_53 : decode cX6_start 53 = .ok (.iload_n 1, 1) := by decide +kernel
theorem dX6_start_54 : decode cX6_start 54 = .ok (.iaload, 1) := by decide +kernel
theorem dX6_start_55 : decode cX6_start 55 = .ok (.invokevirtual 66, 3) := by decide +kernel
theorem dX6_start_58 : decode cX6_start 58 = .ok (.iinc 1 1, 3) := by decide +kernel
theorem dX6_start_61 : decode cX6_start 61 = .ok (.goto (-19), 3) := by decide +kernel
theorem dX6_start_64 : decode cX6_start 64 = .ok (.aload_n 0, 1) := by decide +kernel
theorem dX6_start_65 : decode cX6_start 65 = .ok (.iconst 1, 1) := by decide +kernel
theorem dX6_start_66 : decode cX6_start 66 = .ok (.putfield 70, 3) := by decide +kernel
theorem dX6_start_69 : decode cX6_start 69 = .ok (.return_, 1) := by decide +kernel
theorem dX6_mark_0 : decode cX6_mark 0 = .ok (.aload_n 0, 1) := by decide +kernel
theorem dX6_mark_1 : decode cX6_mark 1 = .ok (.getfield 63, 3) := by decide +kernel
theorem dX6_mark_4 : decode cX6_mark 4 = .ok (.aload_n 0, 1) := by decide +kernel
theorem dX6_mark_5 : decode cX6_mark 5 = .ok (.getfield 60, 3) := by decide +kernel
theorem dX6_mark_8 : decode cX6_mark 8 = .ok (.if_icmp .ge 59, 3) := by decide +kernel
theorem dX6_mark_11 : decode cX6_mark 11 = .ok (.aload_n 0, 1) := by decide +kernel
theorem dX6_mark_12 : decode cX6_mark 12 = .ok (.getfield 44, 3) := by decide +kernel
theorem dX6_mark_15 : decode cX6_mark 15 = .ok (.aload_n 0, 1) := by decide +kernel
theorem dX6_mark_16 : decode cX6_mark 16 = .ok (.getfield 63, 3) := by decide +kernel
theorem dX6_mark_19 : decode cX6_mark 19 = .ok (.iaload, 1) := by decide +kernel
theorem dX6_mark_20 : decode cX6_mark 20 = .ok (.istore_n 1, 1) := by decide +kernel
theorem dX6_mark_21 : decode cX6_mark 21 = .ok (.aload_n 0, 1) := by decide +kernel
theorem dX6_mark_22 : decode cX6_mark 22 = .ok (.dup, 1) := by decide +kernel
theorem dX6_mark_23 : decode cX6_mark 23 = .ok (.getfield 63, 3) := by decide +kernel
theorem dX6_mark_26 : decode cX6_mark 26 = .ok (.iconst 1, 1) := by decide +kernel
theorem dX6_mark_27 : decode cX6_mark 27 = .ok (.iadd, 1) := by decide +kernel
theorem dX6_mark_28 : decode cX6_mark 28 = .ok (.putfield 63, 3) := by decide +kernel
theorem dX6_mark_31 : decode cX6_mark 31 = .ok (.iconst 0, 1) := by decide +kernel
theorem dX6_mark_32 : decode cX6_mark 32 = .ok (.istore_n 2, 1) := by decide +kernel
theorem dX6_mark_33 : decode cX6_mark 33 = .ok (.iload_n 2, 1) := by decide +kernel
theorem dX6_mark_34 : decode cX6_mark 34 = .ok (.aload_n 0, 1) := by decide +kernel
theorem dX6_mark_35 : decode cX6_mark 35 = .ok (.getfield 26, 3) := by decide +kernel
theorem dX6_mark_38 : decode cX6_mark 38 = .ok (.iload_n 1, 1) := by decide +kernel
theorem dX6_mark_39 : decode cX6_mark 39 = .ok (.iaload, 1) := by decide +kernel
theorem dX6_mark_40 : decode cX6_mark 40 = .ok (.iconst 2, 1) := by decide +kernel
theorem dX6_mark_41 : decode cX6_mark 41 = .ok (.isub, 1) := by decide +kernel
theorem dX6_mark_42 : decode cX6_mark 42 = .ok (.if_icmp .ge 24, 3) := by decide +kernel
theorem dX6_mark_45 : decode cX6_mark 45 = .ok (.aload_n 0, 1) := by decide +kernel
theorem dX6_mark_46 : decode cX6_mark 46 = .ok (.aload_n 0, 1) := by decide +kernel
theorem dX6_mark_47 : decode cX6_mark 47 = .ok (.getfield 32, 3) := by decide +kernel
theorem dX6_mark_50 : decode cX6_mark 50 = .ok (.bipush 21, 2) := by decide +kernel
theorem dX6_mark_52 : decode cX6_mark 52 = .ok (.iload_n 1, 1) := by decide +kernel
theorem dX6_mark_53 : decode cX6_mark 53 = .ok (.imul, 1) := by decide +kernel
theorem dX6_mark_54 : decode cX6_mark 54 = .ok (.iload_n 2, 1) := by decide +kernel
theorem dX6_mark_55 : decode cX6_mark 55 = .ok (.iadd, 1) := by decide +kernel
theorem dX6_mark_56 : decode cX6_mark 56 = .ok (.iaload, 1) := by decide +kernel
theorem dX6_mark_57 : decode cX6_mark 57 = .ok (.invokevirtual 66, 3) := by decide +kernel
theorem dX6_mark_60 : decode cX6_mark 60 = .ok (.iinc 2 1, 3) := by decide +kernel
theorem dX6_mark_63 : decode cX6_mark 63 = .ok (.goto (-30), 3) := by decide +kernel
theorem dX6_mark_66 : decode cX6_mark 66 = .ok (.return_, 1) := by decide +kernel
theorem dX6_mark_67 : decode cX6_mark 67 = .ok (.iconst 0, 1) := by decide +kernel
theorem dX6_mark_68 : decode cX6_mark 68 = .ok (.istore_n 1, 1) := by decide +kernel
theorem dX6_mark_69 : decode cX6_mark 69 = .ok (.iload_n 1, 1) := by decide +kernel
theorem dX6_mark_70 : decode cX6_mark 70 = .ok (.aload_n 0, 1) := by decide +kernel
theorem dX6_mark_71 : decode cX6_mark 71 = .ok (.getfield 47, 3) := by decide +kernel
theorem dX6_mark_74 : decode cX6_mark 74 = .ok (.if_icmp .ge 61, 3) := by decide +kernel
theorem dX6_mark_77 : decode cX6_mark 77 = .ok (.aload_n 0, 1) := by decide +kernel
theorem dX6_mark_78 : decode cX6_mark 78 = .ok (.getfield 16, 3) := by decide +kernel
theorem dX6_mark_81 : decode cX6_mark 81 = .ok (.iload_n 1, 1) := by decide +kernel
theorem dX6_mark_82 : decode cX6_mark 82 = .ok (.iconst 0, 1) := by decide +kernel
theorem dX6_mark_83 : decode cX6_mark 83 = .ok (.bastore, 1) := by decide +kernel
theorem dX6_mark_84 : decode cX6_mark 84 = .ok (.aload_n 0, 1) := by decide +kernel
theorem dX6_mark_85 : decode cX6_mark 85 = .ok (.getfield 7, 3) := by decide +kernel
theorem dX6_mark_88 : decode cX6_mark 88 = .ok (.iload_n 1, 1) := by decide +kernel
theorem dX6_mark_89 : decode cX6_mark 89 = .ok (.aload_n 0, 1) := by decide +kernel
theorem dX6_mark_90 : decode cX6_mark 90 = .ok (.getfield 7, 3) := by decide +kernel
theorem dX6_mark_93 : decode cX6_mark 93 = .ok (.iload_n 1, 1) := by decide +kernel
theorem dX6_mark_94 : decode cX6_mark 94 = .ok (.iaload, 1) := by decide +kernel
theorem dX6_mark_95 : decode cX6_mark 95 = .ok (.iconst 3, 1) := by decide +kernel
theorem dX6_mark_96 : decode cX6_mark 96 = .ok (.if_icmp .ne 26, 3) := by decide +kernel
theorem dX6_mark_99 : decode cX6_mark 99 = .ok (.aload_n 0, 1) := by decide +kernel
theorem dX6_mark_100 : decode cX6_mark 100 = .ok (.getfield 13, 3) := by decide +kernel
theorem dX6_mark_103 : decode cX6_mark 103 = .ok (.iload_n 1, 1) := by decide +kernel
theorem dX6_mark_104 : decode cX6_mark 104 = .ok (.iaload, 1) := by decide +kernel
theorem dX6_mark_105 : decode cX6_mark 105 = .ok (.aload_n 0, 1) := by decide +kernel
theorem dX6_mark_106 : decode cX6_mark 106 = .ok (.iload_n 1, 1) := by decide +kernel
theorem dX6_mark_107 : decode cX6_mark 107 = .ok (.invokevirtual 73, 3) := by decide +kernel
theorem dX6_mark_110 : decode cX6_mark 110 = .ok (.isub, 1) := by decide +kernel
theorem dX6_mark_111 : decode cX6_mark 111 = .ok (.aload_n 0, 1) := by decide +kernel
theorem dX6_mark_112 : decode cX6_mark 112 = .ok (.getfield 51, 3) := by decide +kernel
theorem dX6_mark_115 : decode cX6_mark 115 = .ok (.if_icmp .le 7, 3) := by decide +kernel
theorem dX6_mark_118 : decode cX6_mark 118 = .ok (.iconst 4, 1) := by decide +kernel
theorem dX6_mark_119 : decode cX6_mark 119 = .ok (.goto 9, 3) := by decide +kernel
theorem dX6_mark_122 : decode cX6_mark 122 = .ok (.aload_n 0, 1) := by decide +kernel
theorem dX6_mark_123 : decode cX6_mark 123 = .ok (.getfield 7, 3) := by decide +kernel
theorem dX6_mark_126 : decode cX6_mark 126 = .ok (.iload_n 1, 1) := by decide +kernel
theorem dX6_mark_127 : decode cX6_mark 127 = .ok (.iaload, 1) := by decide +kernel
theorem dX6_mark_128 : decode cX6_mark 128 = .ok (.iastore, 1) := by decide +kernel
theorem dX6_mark_129 : decode cX6_mark 129 = .ok (.iinc 1 1, 3) := by decide +kernel
theorem dX6_mark_132 : decode cX6_mark 132 = .ok (.goto (-63), 3) := by decide +kernel
theorem dX6_mark_135 : decode cX6_mark 135 = .ok (.aload_n 0, 1) := by decide +kernel
theorem dX6_mark_136 : decode cX6_mark 136 = .ok (.iconst 2, 1) := by decide +kernel
theorem dX6_mark_137 : decode cX6_mark 137 = .ok (.putfield 70, 3) := by decide +kernel
theorem dX6_mark_140 : decode cX6_mark 140 = .ok (.return_, 1) := by decide +kernel
theorem dX6_isToMove_0 : decode cX6_isToMove 0 = .ok (.aload_n 0, 1) := by decide +kernel
theorem dX6_isToMove_1 : decode cX6_isToMove 1 = .ok (.getfield 35, 3) := by decide +kernel
theorem dX6_isToMove_4 : decode cX6_isToMove 4 = .ok (.iload_n 1, 1) := by decide +kernel
theorem dX6_isToMove_5 : decode cX6_isToMove 5 = .ok (.baload, 1) := by decide +kernel
theorem dX6_isToMove_6 : decode cX6_isToMove 6 = .ok (.ifCond .eq 31, 3) := by decide +kernel
theorem dX6_isToMove_9 : decode cX6_isToMove 9 = .ok (.aload_n 0, 1) := by decide +kernel
theorem dX6_isToMove_10 : decode cX6_isToMove 10 = .ok (.getfield 38, 3) := by decide +kernel
theorem dX6_isToMove_13 : decode cX6_isToMove 13 = .ok (.iload_n 1, 1) := by decide +kernel
theorem dX6_isToMove_14 : decode cX6_isToMove 14 = .ok (.baload, 1) := by decide +kernel
theorem dX6_isToMove_15 : decode cX6_isToMove 15 = .ok (.ifCond .ne 22, 3) := by decide +kernel
theorem dX6_isToMove_18 : decode cX6_isToMove 18 = .ok (.aload_n 0, 1) := by decide +kernel
theorem dX6_isToMove_19 : decode cX6_isToMove 19 = .ok (.getfield 7, 3) := by decide +kernel
theorem dX6_isToMove_22 : decode cX6_isToMove 22 = .ok (.aload_n 0, 1) := by decide +kernel
theorem dX6_isToMove_23 : decode cX6_isToMove 23 = .ok (.getfield 20, 3) := by decide +kernel
theorem dX6_isToMove_26 : decode cX6_isToMove 26 = .ok (.iload_n 1, 1) := by decide +kernel
theorem dX6_isToMove_27 : decode cX6_isToMove 27 = .ok (.iaload, 1) := by decide +kernel
theorem dX6_isToMove_28 : decode cX6_isToMove 28 = .ok (.iaload, 1) := by decide +kernel
theorem dX6_isToMove_29 : decode cX6_isToMove 29 = .ok (.iconst 4, 1) := by decide +kernel
theorem dX6_isToMove_30 : decode cX6_isToMove 30 = .ok (.if_icmp .ne 7, 3) := by decide +kernel
theorem dX6_isToMove_33 : decode cX6_isToMove 33 = .ok (.iconst 1, 1) := by decide +kernel
theorem dX6_isToMove_34 : decode cX6_isToMove 34 = .ok (.goto 4, 3) := by decide +kernel
theorem dX6_isToMove_37 : decode cX6_isToMove 37 = .ok (.iconst 0, 1) := by decide +kernel
theorem dX6_isToMove_38 : decode cX6_isToMove 38 = .ok (.ireturn, 1) := by decide +kernel
theorem dX6_carry_0 : decode cX6_carry 0 = .ok (.aload_n 0, 1) := by decide +kernel
theorem dX6_carry_1 : decode cX6_carry 1 = .ok (.iconst 2, 1) := by decide +kernel
theorem dX6_carry_2 : decode cX6_carry 2 = .ok (.invokevirtual 77, 3) := by decide +kernel
theorem dX6_carry_5 : decode cX6_carry 5 = .ok (.istore_n 2, 1) := by decide +kernel
theorem dX6_carry_6 : decode cX6_carry 6 = .ok (.iload_n 2, 1) := by decide +kernel
theorem dX6_carry_7 : decode cX6_carry 7 = .ok (.iconst (-1), 1) := by decide +kernel
theorem dX6_carry_8 : decode cX6_carry 8 = .ok (.if_icmp .eq 22, 3) := by decide +kernel
theorem dX6_carry_11 : decode cX6_carry 11 = .ok (.aload_n 0, 1) := by decide +kernel
theorem dX6_carry_12 : decode cX6_carry 12 = .ok (.getfield 13, 3) := by decide +kernel
theorem dX6_carry_15 : decode cX6_carry 15 = .ok (.iload_n 2, 1) := by decide +kernel
theorem dX6_carry_16 : decode cX6_carry 16 = .ok (.iaload, 1) := by decide +kernel
theorem dX6_carry_17 : decode cX6_carry 17 = .ok (.aload_n 0, 1) := by decide +kernel
theorem dX6_carry_18 : decode cX6_carry 18 = .ok (.getfield 26, 3) := by decide +kernel
theorem dX6_carry_21 : decode cX6_carry 21 = .ok (.iload_n 1, 1) := by decide +kernel
theorem dX6_carry_22 : decode cX6_carry 22 = .ok (.iaload, 1) := by decide +kernel
theorem dX6_carry_23 : decode cX6_carry 23 = .ok (.iadd, 1) := by decide +kernel
theorem dX6_carry_24 : decode cX6_carry 24 = .ok (.sipush 128, 3) := by decide +kernel
theorem dX6_carry_27 : decode cX6_carry 27 = .ok (.if_icmp .le 72, 3) := by decide +kernel
theorem dX6_carry_30 : decode cX6_carry 30 = .ok (.aload_n 0, 1) := by decide +kernel
theorem dX6_carry_31 : decode cX6_carry 31 = .ok (.iconst 0, 1) := by decide +kernel
theorem dX6_carry_32 : decode cX6_carry 32 = .ok (.invokevirtual 77, 3) := by decide +kernel
theorem dX6_carry_35 : decode cX6_carry 35 = .ok (.istore_n 3, 1) := by decide +kernel
theorem dX6_carry_36 : decode cX6_carry 36 = .ok (.iload_n 3, 1) := by decide +kernel
theorem dX6_carry_37 : decode cX6_carry 37 = .ok (.iconst (-1), 1) := by decide +kernel
theorem dX6_carry_38 : decode cX6_carry 38 = .ok (.if_icmp .ne 33, 3) := by decide +kernel
theorem dX6_carry_41 : decode cX6_carry 41 = .ok (.aload_n 0, 1) := by decide +kernel
theorem dX6_carry_42 : decode cX6_carry 42 = .ok (.getfield 38, 3) := by decide +kernel
theorem dX6_carry_45 : decode cX6_carry 45 = .ok (.iload_n 1, 1) := by decide +kernel
theorem dX6_carry_46 : decode cX6_carry 46 = .ok (.iconst 1, 1) := by decide +kernel
theorem dX6_carry_47 : decode cX6_carry 47 = .ok (.bastore, 1) := by decide +kernel
theorem dX6_carry_48 : decode cX6_carry 48 = .ok (.aload_n 0, 1) := by decide +kernel
theorem dX6_carry_49 : decode cX6_carry 49 = .ok (.getfield 16, 3) := by decide +kernel
theorem dX6_carry_52 : decode cX6_carry 52 = .ok (.aload_n 0, 1) := by decide +kernel
theorem dX6_carry_53 : decode cX6_carry 53 = .ok (.getfield 20, 3) := by decide +kernel
theorem dX6_carry_56 : decode cX6_carry 56 = .ok (.iload_n 1, 1) := by decide +kernel
theorem dX6_carry_57 : decode cX6_carry 57 = .ok (.iaload, 1) := by decide +kernel
theorem dX6_carry_58 : decode cX6_carry 58 = .ok (.iconst 1, 1) := by decide +kernel
theorem dX6_carry_59 : decode cX6_carry 59 = .ok (.bastore, 1) := by decide +kernel
theorem dX6_carry_60 : decode cX6_carry 60 = .ok (.aload_n 0, 1) := by decide +kernel
theorem dX6_carry_61 : decode cX6_carry 61 = .ok (.dup, 1) := by decide +kernel
theorem dX6_carry_62 : decode cX6_carry 62 = .ok (.getfield 80, 3) := by decide +kernel
theorem dX6_carry_65 : decode cX6_carry 65 = .ok (.iconst 1, 1) := by decide +kernel
theorem dX6_carry_66 : decode cX6_carry 66 = .ok (.iadd, 1) := by decide +kernel
theorem dX6_carry_67 : decode cX6_carry 67 = .ok (.putfield 80, 3) := by decide +kernel
theorem dX6_carry_70 : decode cX6_carry 70 = .ok (.return_, 1) := by decide +kernel
theorem dX6_carry_71 : decode cX6_carry 71 = .ok (.iload_n 2, 1) := by decide +kernel
theorem dX6_carry_72 : decode cX6_carry 72 = .ok (.iconst (-1), 1) := by decide +kernel
theorem dX6_carry_73 : decode cX6_carry 73 = .ok (.if_icmp .eq 10, 3) := by decide +kernel
theorem dX6_carry_76 : decode cX6_carry 76 = .ok (.aload_n 0, 1) := by decide +kernel
theorem dX6_carry_77 : decode cX6_carry 77 = .ok (.getfield 7, 3) := by decide +kernel
theorem dX6_carry_80 : decode cX6_carry 80 = .ok (.iload_n 2, 1) := by decide +kernel
theorem dX6_carry_81 : decode cX6_carry 81 = .ok (.iconst 3, 1) := by decide +kernel
theorem dX6_carry_82 : decode cX6_carry 82 = .ok (.iastore, 1) := by decide +kernel
theorem dX6_carry_83 : decode cX6_carry 83 = .ok (.aload_n 0, 1) := by decide +kernel
theorem dX6_carry_84 : decode cX6_carry 84 = .ok (.getfield 7, 3) := by decide +kernel
theorem dX6_carry_87 : decode cX6_carry 87 = .ok (.iload_n 3, 1) := by decide +kernel
theorem dX6_carry_88 : decode cX6_carry 88 = .ok (.iconst 2, 1) := by decide +kernel
theorem dX6_carry_89 : decode cX6_carry 89 = .ok (.iastore, 1) := by decide +kernel
theorem dX6_carry_90 : decode cX6_carry 90 = .ok (.aload_n 0, 1) := by decide +kernel
theorem dX6_carry_91 : decode cX6_carry 91 = .ok (.getfield 13, 3) := by decide +kernel
theorem dX6_carry_94 : decode cX6_carry 94 = .ok (.iload_n 3, 1) := by decide +kernel
theorem dX6_carry_95 : decode cX6_carry 95 = .ok (.iconst 0, 1) := by decide +kernel
theorem dX6_carry_96 : decode cX6_carry 96 = .ok (.iastore, 1) := by decide +kernel
theorem dX6_carry_97 : decode cX6_carry 97 = .ok (.iload_n 3, 1) := by decide +kernel
theorem dX6_carry_98 : decode cX6_carry 98 = .ok (.istore_n 2, 1) := by decide +kernel
theorem dX6_carry_99 : decode cX6_carry 99 = .ok (.aload_n 0, 1) := by decide +kernel
theorem dX6_carry_100 : decode cX6_carry 100 = .ok (.getfield 20, 3) := by decide +kernel
theorem dX6_carry_103 : decode cX6_carry 103 = .ok (.iload_n 1, 1) := by decide +kernel
theorem dX6_carry_104 : decode cX6_carry 104 = .ok (.iload_n 2, 1) := by decide +kernel
theorem dX6_carry_105 : decode cX6_carry 105 = .ok (.iastore, 1) := by decide +kernel
theorem dX6_carry_106 : decode cX6_carry 106 = .ok (.aload_n 0, 1) := by decide +kernel
theorem dX6_carry_107 : decode cX6_carry 107 = .ok (.getfield 23, 3) := by decide +kernel
theorem dX6_carry_110 : decode cX6_carry 110 = .ok (.iload_n 1, 1) := by decide +kernel
theorem dX6_carry_111 : decode cX6_carry 111 = .ok (.aload_n 0, 1) := by decide +kernel
theorem dX6_carry_112 : decode cX6_carry 112 = .ok (.getfield 13, 3) := by decide +kernel
theorem dX6_carry_115 : decode cX6_carry 115 = .ok (.iload_n 2, 1) := by decide +kernel
theorem dX6_carry_116 : decode cX6_carry 116 = .ok (.iaload, 1) := by decide +kernel
theorem dX6_carry_117 : decode cX6_carry 117 = .ok (.iastore, 1) := by decide +kernel
theorem dX6_carry_118 : decode cX6_carry 118 = .ok (.aload_n 0, 1) := by decide +kernel
theorem dX6_carry_119 : decode cX6_carry 119 = .ok (.getfield 13, 3) := by decide +kernel
theorem dX6_carry_122 : decode cX6_carry 122 = .ok (.iload_n 2, 1) := by decide +kernel
theorem dX6_carry_123 : decode cX6_carry 123 = .ok (.aload_n 0, 1) := by decide +kernel
theorem dX6_carry_124 : decode cX6_carry 124 = .ok (.getfield 13, 3) := by decide +kernel
theorem dX6_carry_127 : decode cX6_carry 127 = .ok (.iload_n 2, 1) := by decide +kernel
theorem dX6_carry_128 : decode cX6_carry 128 = .ok (.iaload, 1) := by decide +kernel
theorem dX6_carry_129 : decode cX6_carry 129 = .ok (.aload_n 0, 1) := by decide +kernel
theorem dX6_carry_130 : decode cX6_carry 130 = .ok (.getfield 26, 3) := by decide +kernel
theorem dX6_carry_133 : decode cX6_carry 133 = .ok (.iload_n 1, 1) := by decide +kernel
theorem dX6_carry_134 : decode cX6_carry 134 = .ok (.iaload, 1) := by decide +kernel
theorem dX6_carry_135 : decode cX6_carry 135 = .ok (.iadd, 1) := by decide +kernel
theorem dX6_carry_136 : decode cX6_carry 136 = .ok (.iastore, 1) := by decide +kernel
theorem dX6_carry_137 : decode cX6_carry 137 = .ok (.aload_n 0, 1) := by decide +kernel
theorem dX6_carry_138 : decode cX6_carry 138 = .ok (.dup, 1) := by decide +kernel
theorem dX6_carry_139 : decode cX6_carry 139 = .ok (.getfield 83, 3) := by decide +kernel
theorem dX6_carry_142 : decode cX6_carry 142 = .ok (.iconst 1, 1) := by decide +kernel
theorem dX6_carry_143 : decode cX6_carry 143 = .ok (.iadd, 1) := by decide +kernel
theorem dX6_carry_144 : decode cX6_carry 144 = .ok (.putfield 83, 3) := by decide +kernel
theorem dX6_carry_147 : decode cX6_carry 147 = .ok (.return_, 1) := by decide +kernel
theorem dX6_moveOne_0 : decode cX6_moveOne 0 = .ok (.iconst (-1), 1) := by decide +kernel
theorem dX6_moveOne_1 : decode cX6_moveOne 1 = .ok (.istore_n 1, 1) := by decide +kernel
theorem dX6_moveOne_2 : decode cX6_moveOne 2 = .ok (.iconst 0, 1) := by decide +kernel
theorem dX6_moveOne_3 : decode cX6_moveOne 3 = .ok (.istore_n 2, 1) := by decide +kernel
theorem dX6_moveOne_4 : decode cX6_moveOne 4 = .ok (.iload_n 2, 1) := by decide +kernel
theorem dX6_moveOne_5 : decode cX6_moveOne 5 = .ok (.aload_n 0, 1) := by decide +kernel
theorem dX6_moveOne_6 : decode cX6_moveOne 6 = .ok (.getfield 57, 3) := by decide +kernel
theorem dX6_moveOne_9 : decode cX6_moveOne 9 = .ok (.if_icmp .ge 41, 3) := by decide +kernel
theorem dX6_moveOne_12 : decode cX6_moveOne 12 = .ok (.aload_n 0, 1) := by decide +kernel
theorem dX6_moveOne_13 : decode cX6_moveOne 13 = .ok (.iload_n 2, 1) := by decide +kernel
theorem dX6_moveOne_14 : decode cX6_moveOne 14 = .ok (.invokevirtual 86, 3) := by decide +kernel
theorem dX6_moveOne_17 : decode cX6_moveOne 17 = .ok (.ifCond .eq 25, 3) := by decide +kernel
theorem dX6_moveOne_20 : decode cX6_moveOne 20 = .ok (.iload_n 1, 1) := by decide +kernel
theorem dX6_moveOne_21 : decode cX6_moveOne 21 = .ok (.iconst (-1), 1) := by decide +kernel
theorem dX6_moveOne_22 : decode cX6_moveOne 22 = .ok (.if_icmp .eq 16, 3) := by decide +kernel
theorem dX6_moveOne_25 : decode cX6_moveOne 25 = .ok (.aload_n 0, 1) := by decide +kernel
theorem dX6_moveOne_26 : decode cX6_moveOne 26 = .ok (.iload_n 2, 1) := by decide +kernel
theorem dX6_moveOne_27 : decode cX6_moveOne 27 = .ok (.invokevirtual 90, 3) := by decide +kernel
theorem dX6_moveOne_30 : decode cX6_moveOne 30 = .ok (.aload_n 0, 1) := by decide +kernel
theorem dX6_moveOne_31 : decode cX6_moveOne 31 = .ok (.iload_n 1, 1) := by decide +kernel
theorem dX6_moveOne_32 : decode cX6_moveOne 32 = .ok (.invokevirtual 90, 3) := by decide +kernel
theorem dX6_moveOne_35 : decode cX6_moveOne 35 = .ok (.if_icmp .ge 7, 3) := by decide +kernel
theorem dX6_moveOne_38 : decode cX6_moveOne 38 = .ok (.iload_n 2, 1) := by decide +kernel
theorem dX6_moveOne_39 : decode cX6_moveOne 39 = .ok (.goto 4, 3) := by decide +kernel
theorem dX6_moveOne_42 : decode cX6_moveOne 42 = .ok (.iload_n 1, 1) := by decide +kernel
theorem dX6_moveOne_43 : decode cX6_moveOne 43 = .ok (.istore_n 1, 1) := by decide +kernel
theorem dX6_moveOne_44 : decode cX6_moveOne 44 = .ok (.iinc 2 1, 3) := by decide +kernel
theorem dX6_moveOne_47 : decode cX6_moveOne 47 = .ok (.goto (-43), 3) := by decide +kernel
theorem dX6_moveOne_50 : decode cX6_moveOne 50 = .ok (.iload_n 1, 1) := by decide +kernel
theorem dX6_moveOne_51 : decode cX6_moveOne 51 = .ok (.iconst (-1), 1) := by decide +kernel
theorem dX6_moveOne_52 : decode cX6_moveOne 52 = .ok (.if_icmp .eq 11, 3) := by decide +kernel
theorem dX6_moveOne_55 : decode cX6_moveOne 55 = .ok (.aload_n 0, 1) := by decide +kernel
theorem dX6_moveOne_56 : decode cX6_moveOne 56 = .ok (.iload_n 1, 1) := by decide +kernel
theorem dX6_moveOne_57 : decode cX6_moveOne 57 = .ok (.invokevirtual 93, 3) := by decide +kernel
theorem dX6_moveOne_60 : decode cX6_moveOne 60 = .ok (.goto 13, 3) := by decide +kernel
theorem dX6_moveOne_63 : decode cX6_moveOne 63 = .ok (.aload_n 0, 1) := by decide +kernel
theorem dX6_moveOne_64 : decode cX6_moveOne 64 = .ok (.iconst 3, 1) := by decide +kernel
theorem dX6_moveOne_65 : decode cX6_moveOne 65 = .ok (.putfield 70, 3) := by decide +kernel
theorem dX6_moveOne_68 : decode cX6_moveOne 68 = .ok (.aload_n 0, 1) := by decide +kernel
theorem dX6_moveOne_69 : decode cX6_moveOne 69 = .ok (.iconst 0, 1) := by decide +kernel
theorem dX6_moveOne_70 : decode cX6_moveOne 70 = .ok (.putfield 96, 3) := by decide +kernel
theorem dX6_moveOne_73 : decode cX6_moveOne 73 = .ok (.return_, 1) := by decide +kernel
theorem dX6_update_0 : decode cX6_update 0 = .ok (.aload_n 0, 1) := by decide +kernel
theorem dX6_update_1 : decode cX6_update 1 = .ok (.dup, 1) := by decide +kernel
theorem dX6_update_2 : decode cX6_update 2 = .ok (.getfield 96, 3) := by decide +kernel
theorem dX6_update_5 : decode cX6_update 5 = .ok (.iconst 1, 1) := by decide +kernel
theorem dX6_update_6 : decode cX6_update 6 = .ok (.iadd, 1) := by decide +kernel
theorem dX6_update_7 : decode cX6_update 7 = .ok (.putfield 96, 3) := by decide +kernel
theorem dX6_update_10 : decode cX6_update 10 = .ok (.aload_n 0, 1) := by decide +kernel
theorem dX6_update_11 : decode cX6_update 11 = .ok (.getfield 96, 3) := by decide +kernel
theorem dX6_update_14 : decode cX6_update 14 = .ok (.aload_n 0, 1) := by decide +kernel
theorem dX6_update_15 : decode cX6_update 15 = .ok (.getfield 47, 3) := by decide +kernel
theorem dX6_update_18 : decode cX6_update 18 = .ok (.if_icmp .ge 4, 3) := by decide +kernel
theorem dX6_update_21 : decode cX6_update 21 = .ok (.return_, 1) := by decide +kernel
theorem dX6_update_22 : decode cX6_update 22 = .ok (.iconst 0, 1) := by decide +kernel
theorem dX6_update_23 : decode cX6_update 23 = .ok (.istore_n 1, 1) := by decide +kernel
theorem dX6_update_24 : decode cX6_update 24 = .ok (.iload_n 1, 1) := by decide +kernel
theorem dX6_update_25 : decode cX6_update 25 = .ok (.aload_n 0, 1) := by decide +kernel
theorem dX6_update_26 : decode cX6_update 26 = .ok (.getfield 47, 3) := by decide +kernel
theorem dX6_update_29 : decode cX6_update 29 = .ok (.if_icmp .ge 78, 3) := by decide +kernel
theorem dX6_update_32 : decode cX6_update 32 = .ok (.aload_n 0, 1) := by decide +kernel
theorem dX6_update_33 : decode cX6_update 33 = .ok (.getfield 7, 3) := by decide +kernel
theorem dX6_update_36 : decode cX6_update 36 = .ok (.iload_n 1, 1) := by decide +kernel
theorem dX6_update_37 : decode cX6_update 37 = .ok (.iaload, 1) := by decide +kernel
theorem dX6_update_38 : decode cX6_update 38 = .ok (.iconst 4, 1) := by decide +kernel
theorem dX6_update_39 : decode cX6_update 39 = .ok (.if_icmp .ne 26, 3) := by decide +kernel
theorem dX6_update_42 : decode cX6_update 42 = .ok (.aload_n 0, 1) := by decide +kernel
theorem dX6_update_43 : decode cX6_update 43 = .ok (.getfield 16, 3) := by decide +kernel
theorem dX6_update_46 : decode cX6_update 46 = .ok (.iload_n 1, 1) := by decide +kernel
theorem dX6_update_47 : decode cX6_update 47 = .ok (.baload, 1) := by decide +kernel
theorem dX6_update_48 : decode cX6_update 48 = .ok (.ifCond .ne 17, 3) := by decide +kernel
theorem dX6_update_51 : decode cX6_update 51 = .ok (.aload_n 0, 1) := by decide +kernel
theorem dX6_update_52 : decode cX6_update 52 = .ok (.getfield 7, 3) := by decide +kernel
theorem dX6_update_55 : decode cX6_update 55 = .ok (.iload_n 1, 1) := by decide +kernel
theorem dX6_update_56 : decode cX6_update 56 = .ok (.iconst 0, 1) := by decide +kernel
theorem dX6_update_57 : decode cX6_update 57 = .ok (.iastore, 1) := by decide +kernel
theorem dX6_update_58 : decode cX6_update 58 = .ok (.aload_n 0, 1) := by decide +kernel
theorem dX6_update_59 : decode cX6_update 59 = .ok (.getfield 13, 3) := by decide +kernel
theorem dX6_update_62 : decode cX6_update 62 = .ok (.iload_n 1, 1) := by decide +kernel
theorem dX6_update_63 : decode cX6_update 63 = .ok (.iconst 0, 1) := by decide +kernel
theorem dX6_update_64 : decode cX6_update 64 = .ok (.iastore, 1) := by decide +kernel
theorem dX6_update_65 : decode cX6_update 65 = .ok (.aload_n 0, 1) := by decide +kernel
theorem dX6_update_66 : decode cX6_update 66 = .ok (.getfield 7, 3) := by decide +kernel
theorem dX6_update_69 : decode cX6_update 69 = .ok (.iload_n 1, 1) := by decide +kernel
theorem dX6_update_70 : decode cX6_update 70 = .ok (.aload_n 0, 1) := by decide +kernel
theorem dX6_update_71 : decode cX6_update 71 = .ok (.getfield 7, 3) := by decide +kernel
theorem dX6_update_74 : decode cX6_update 74 = .ok (.iload_n 1, 1) := by decide +kernel
theorem dX6_update_75 : decode cX6_update 75 = .ok (.iaload, 1) := by decide +kernel
theorem dX6_update_76 : decode cX6_update 76 = .ok (.iconst 4, 1) := by decide +kernel
theorem dX6_update_77 : decode cX6_update 77 = .ok (.if_icmp .eq 13, 3) := by decide +kernel
theorem dX6_update_80 : decode cX6_update 80 = .ok (.aload_n 0, 1) := by decide +kernel
theorem dX6_update_81 : decode cX6_update 81 = .ok (.getfield 7, 3) := by decide +kernel
theorem dX6_update_84 : decode cX6_update 84 = .ok (.iload_n 1, 1) := by decide +kernel
theorem dX6_update_85 : decode cX6_update 85 = .ok (.iaload, 1) := by decide +kernel
theorem dX6_update_86 : decode cX6_update 86 = .ok (.iconst 2, 1) := by decide +kernel
theorem dX6_update_87 : decode cX6_update 87 = .ok (.if_icmp .ne 7, 3) := by decide +kernel
theorem dX6_update_90 : decode cX6_update 90 = .ok (.iconst 3, 1) := by decide +kernel
theorem dX6_update_91 : decode cX6_update 91 = .ok (.goto 9, 3) := by decide +kernel
theorem dX6_update_94 : decode cX6_update 94 = .ok (.aload_n 0, 1) := by decide +kernel
theorem dX6_update_95 : decode cX6_update 95 = .ok (.getfield 7, 3) := by decide +kernel
theorem dX6_update_98 : decode cX6_update 98 = .ok (.iload_n 1, 1) := by decide +kernel
theorem dX6_update_99 : decode cX6_update 99 = .ok (.iaload, 1) := by decide +kernel
theorem dX6_update_100 : decode cX6_update 100 = .ok (.iastore, 1) := by decide +kernel
theorem dX6_update_101 : decode cX6_update 101 = .ok (.iinc 1 1, 3) := by decide +kernel
theorem dX6_update_104 : decode cX6_update 104 = .ok (.goto (-80), 3) := by decide +kernel
theorem dX6_update_107 : decode cX6_update 107 = .ok (.aload_n 0, 1) := by decide +kernel
theorem dX6_update_108 : decode cX6_update 108 = .ok (.iconst 0, 1) := by decide +kernel
theorem dX6_update_109 : decode cX6_update 109 = .ok (.putfield 70, 3) := by decide +kernel
theorem dX6_update_112 : decode cX6_update 112 = .ok (.return_, 1) := by decide +kernel
theorem dX6_unit_0 : decode cX6_unit 0 = .ok (.aload_n 0, 1) := by decide +kernel
theorem dX6_unit_1 : decode cX6_unit 1 = .ok (.getfield 70, 3) := by decide +kernel
theorem dX6_unit_4 : decode cX6_unit 4 = .ok (.iconst 1, 1) := by decide +kernel
theorem dX6_unit_5 : decode cX6_unit 5 = .ok (.if_icmp .ne 10, 3) := by decide +kernel
theorem dX6_unit_8 : decode cX6_unit 8 = .ok (.aload_n 0, 1) := by decide +kernel
theorem dX6_unit_9 : decode cX6_unit 9 = .ok (.invokevirtual 99, 3) := by decide +kernel
theorem dX6_unit_12 : decode cX6_unit 12 = .ok (.goto 30, 3) := by decide +kernel
theorem dX6_unit_15 : decode cX6_unit 15 = .ok (.aload_n 0, 1) := by decide +kernel
theorem dX6_unit_16 : decode cX6_unit 16 = .ok (.getfield 70, 3) := by decide +kernel
theorem dX6_unit_19 : decode cX6_unit 19 = .ok (.iconst 2, 1) := by decide +kernel
theorem dX6_unit_20 : decode cX6_unit 20 = .ok (.if_icmp .ne 10, 3) := by decide +kernel
theorem dX6_unit_23 : decode cX6_unit 23 = .ok (.aload_n 0, 1) := by decide +kernel
theorem dX6_unit_24 : decode cX6_unit 24 = .ok (.invokevirtual 102, 3) := by decide +kernel
theorem dX6_unit_27 : decode cX6_unit 27 = .ok (.goto 15, 3) := by decide +kernel
theorem dX6_unit_30 : decode cX6_unit 30 = .ok (.aload_n 0, 1) := by decide +kernel
theorem dX6_unit_31 : decode cX6_unit 31 = .ok (.getfield 70, 3) := by decide +kernel
theorem dX6_unit_34 : decode cX6_unit 34 = .ok (.iconst 3, 1) := by decide +kernel
theorem dX6_unit_35 : decode cX6_unit 35 = .ok (.if_icmp .ne 7, 3) := by decide +kernel
theorem dX6_unit_38 : decode cX6_unit 38 = .ok (.aload_n 0, 1) := by decide +kernel
theorem dX6_unit_39 : decode cX6_unit 39 = .ok (.invokevirtual 105, 3) := by decide +kernel
theorem dX6_unit_42 : decode cX6_unit 42 = .ok (.return_, 1) := by decide +kernel
theorem dX6_finish_0 : decode cX6_finish 0 = .ok (.aload_n 0, 1) := by decide +kernel
theorem dX6_finish_1 : decode cX6_finish 1 = .ok (.getfield 70, 3) := by decide +kernel
theorem dX6_finish_4 : decode cX6_finish 4 = .ok (.ifCond .le 10, 3) := by decide +kernel
theorem dX6_finish_7 : decode cX6_finish 7 = .ok (.aload_n 0, 1) := by decide +kernel
theorem dX6_finish_8 : decode cX6_finish 8 = .ok (.invokevirtual 108, 3) := by decide +kernel
theorem dX6_finish_11 : decode cX6_finish 11 = .ok (.goto (-11), 3) := by decide +kernel
theorem dX6_finish_14 : decode cX6_finish 14 = .ok (.return_, 1) := by decide +kernel
theorem dX6_whole_0 : decode cX6_whole 0 = .ok (.aload_n 0, 1) := by decide +kernel
theorem dX6_whole_1 : decode cX6_whole 1 = .ok (.invokevirtual 111, 3) := by decide +kernel
theorem dX6_whole_4 : decode cX6_whole 4 = .ok (.aload_n 0, 1) := by decide +kernel
theorem dX6_whole_5 : decode cX6_whole 5 = .ok (.invokevirtual 114, 3) := by decide +kernel
theorem dX6_whole_8 : decode cX6_whole 8 = .ok (.aload_n 0, 1) := by decide +kernel
theorem dX6_whole_9 : decode cX6_whole 9 = .ok (.invokevirtual 111, 3) := by decide +kernel
theorem dX6_whole_12 : decode cX6_whole 12 = .ok (.return_, 1) := by decide +kernel
theorem dX6_hasActive_0 : decode cX6_hasActive 0 = .ok (.aload_n 0, 1) := by decide +kernel
theorem dX6_hasActive_1 : decode cX6_hasActive 1 = .ok (.iconst 1, 1) := by decide +kernel
theorem dX6_hasActive_2 : decode cX6_hasActive 2 = .ok (.invokevirtual 77, 3) := by decide +kernel
theorem dX6_hasActive_5 : decode cX6_hasActive 5 = .ok (.istore_n 2, 1) := by decide +kernel
theorem dX6_hasActive_6 : decode cX6_hasActive 6 = .ok (.iload_n 2, 1) := by decide +kernel
theorem dX6_hasActive_7 : decode cX6_hasActive 7 = .ok (.iconst (-1), 1) := by decide +kernel
theorem dX6_hasActive_8 : decode cX6_hasActive 8 = .ok (.if_icmp .eq 26, 3) := by decide +kernel
theorem dX6_hasActive_11 : decode cX6_hasActive 11 = .ok (.aload_n 0, 1) := by decide +kernel
theorem dX6_hasActive_12 : decode cX6_hasActive 12 = .ok (.getfield 13, 3) := by decide +kernel
theorem dX6_hasActive_15 : decode cX6_hasActive 15 = .ok (.iload_n 2, 1) := by decide +kernel
theorem dX6_hasActive_16 : decode cX6_hasActive 16 = .ok (.iaload, 1) := by decide +kernel
theorem dX6_hasActive_17 : decode cX6_hasActive 17 = .ok (.iload_n 1, 1) := by decide +kernel
theorem dX6_hasActive_18 : decode cX6_hasActive 18 = .ok (.iadd, 1) := by decide +kernel
theorem dX6_hasActive_19 : decode cX6_hasActive 19 = .ok (.sipush 128, 3) := by decide +kernel
theorem dX6_hasActive_22 : decode cX6_hasActive 22 = .ok (.if_icmp .le 12, 3) := by decide +kernel
theorem dX6_hasActive_25 : decode cX6_hasActive 25 = .ok (.aload_n 0, 1) := by decide +kernel
theorem dX6_hasActive_26 : decode cX6_hasActive 26 = .ok (.getfield 7, 3) := by decide +kernel
theorem dX6_hasActive_29 : decode cX6_hasActive 29 = .ok (.iload_n 2, 1) := by decide +kernel
theorem dX6_hasActive_30 : decode cX6_hasActive 30 = .ok (.iconst 3, 1) := by decide +kernel
theorem dX6_hasActive_31 : decode cX6_hasActive 31 = .ok (.iastore, 1) := by decide +kernel
theorem dX6_hasActive_32 : decode cX6_hasActive 32 = .ok (.iconst (-1), 1) := by decide +kernel
theorem dX6_hasActive_33 : decode cX6_hasActive 33 = .ok (.istore_n 2, 1) := by decide +kernel
theorem dX6_hasActive_34 : decode cX6_hasActive 34 = .ok (.iload_n 2, 1) := by decide +kernel
theorem dX6_hasActive_35 : decode cX6_hasActive 35 = .ok (.iconst (-1), 1) := by decide +kernel
theorem dX6_hasActive_36 : decode cX6_hasActive 36 = .ok (.if_icmp .ne 21, 3) := by decide +kernel
theorem dX6_hasActive_39 : decode cX6_hasActive 39 = .ok (.aload_n 0, 1) := by decide +kernel
theorem dX6_hasActive_40 : decode cX6_hasActive 40 = .ok (.iconst 0, 1) := by decide +kernel
theorem dX6_hasActive_41 : decode cX6_hasActive 41 = .ok (.invokevirtual 77, 3) := by decide +kernel
theorem dX6_hasActive_44 : decode cX6_hasActive 44 = .ok (.istore_n 2, 1) := by decide +kernel
theorem dX6_hasActive_45 : decode cX6_hasActive 45 = .ok (.iload_n 2, 1) := by decide +kernel
theorem dX6_hasActive_46 : decode cX6_hasActive 46 = .ok (.iconst (-1), 1) := by decide +kernel
theorem dX6_hasActive_47 : decode cX6_hasActive 47 = .ok (.if_icmp .eq 10, 3) := by decide +kernel
theorem dX6_hasActive_50 : decode cX6_hasActive 50 = .ok (.aload_n 0, 1) := by decide +kernel
theorem dX6_hasActive_51 : decode cX6_hasActive 51 = .ok (.getfield 7, 3) := by decide +kernel
theorem dX6_hasActive_54 : decode cX6_hasActive 54 = .ok (.iload_n 2, 1) := by decide +kernel
theorem dX6_hasActive_55 : decode cX6_hasActive 55 = .ok (.iconst 1, 1) := by decide +kernel
theorem dX6_hasActive_56 : decode cX6_hasActive 56 = .ok (.iastore, 1) := by decide +kernel
theorem dX6_hasActive_57 : decode cX6_hasActive 57 = .ok (.iload_n 2, 1) := by decide +kernel
theorem dX6_hasActive_58 : decode cX6_hasActive 58 = .ok (.iconst (-1), 1) := by decide +kernel
theorem dX6_hasActive_59 : decode cX6_hasActive 59 = .ok (.if_icmp .eq 7, 3) := by decide +kernel
theorem dX6_hasActive_62 : decode cX6_hasActive 62 = .ok (.iconst 1, 1) := by decide +kernel
theorem dX6_hasActive_63 : decode cX6_hasActive 63 = .ok (.goto 4, 3) := by decide +kernel
theorem dX6_hasActive_66 : decode cX6_hasActive 66 = .ok (.iconst 0, 1) := by decide +kernel
theorem dX6_hasActive_67 : decode cX6_hasActive 67 = .ok (.ireturn, 1) := by decide +kernel
theorem dX6_alloc_0 : decode cX6_alloc 0 = .ok (.aload_n 0, 1) := by decide +kernel
theorem dX6_alloc_1 : decode cX6_alloc 1 = .ok (.iload_n 1, 1) := by decide +kernel
theorem dX6_alloc_2 : decode cX6_alloc 2 = .ok (.invokestatic 117, 3) := by decide +kernel
theorem dX6_alloc_5 : decode cX6_alloc 5 = .ok (.iload_n 2, 1) := by decide +kernel
theorem dX6_alloc_6 : decode cX6_alloc 6 = .ok (.ifCond .lt 13, 3) := by decide +kernel
theorem dX6_alloc_9 : decode cX6_alloc 9 = .ok (.iload_n 2, 1) := by decide +kernel
theorem dX6_alloc_10 : decode cX6_alloc 10 = .ok (.bipush 20, 2) := by decide +kernel
theorem dX6_alloc_12 : decode cX6_alloc 12 = .ok (.if_icmp .gt 7, 3) := by decide +kernel
theorem dX6_alloc_15 : decode cX6_alloc 15 = .ok (.iconst 1, 1) := by decide +kernel
theorem dX6_alloc_16 : decode cX6_alloc 16 = .ok (.goto 4, 3) := by decide +kernel
theorem dX6_alloc_19 : decode cX6_alloc 19 = .ok (.iconst 0, 1) := by decide +kernel
theorem dX6_alloc_20 : decode cX6_alloc 20 = .ok (.invokevirtual 120, 3) := by decide +kernel
theorem dX6_alloc_23 : decode cX6_alloc 23 = .ok (.ifCond .ne 5, 3) := by decide +kernel
theorem dX6_alloc_26 : decode cX6_alloc 26 = .ok (.iconst 0, 1) := by decide +kernel
theorem dX6_alloc_27 : decode cX6_alloc 27 = .ok (.ireturn, 1) := by decide +kernel
theorem dX6_alloc_28 : decode cX6_alloc 28 = .ok (.aload_n 0, 1) := by decide +kernel
theorem dX6_alloc_29 : decode cX6_alloc 29 = .ok (.iload_n 2, 1) := by decide +kernel
theorem dX6_alloc_30 : decode cX6_alloc 30 = .ok (.iconst 2, 1) := by decide +kernel
theorem dX6_alloc_31 : decode cX6_alloc 31 = .ok (.iadd, 1) := by decide +kernel
theorem dX6_alloc_32 : decode cX6_alloc 32 = .ok (.invokevirtual 124, 3) := by decide +kernel
theorem dX6_alloc_35 : decode cX6_alloc 35 = .ok (.ifCond .ne 19, 3) := by decide +kernel
theorem dX6_alloc_38 : decode cX6_alloc 38 = .ok (.aload_n 0, 1) := by decide +kernel
theorem dX6_alloc_39 : decode cX6_alloc 39 = .ok (.invokevirtual 127, 3) := by decide +kernel
theorem dX6_alloc_42 : decode cX6_alloc 42 = .ok (.aload_n 0, 1) := by decide +kernel
theorem dX6_alloc_43 : decode cX6_alloc 43 = .ok (.iload_n 2, 1) := by decide +kernel
theorem dX6_alloc_44 : decode cX6_alloc 44 = .ok (.iconst 2, 1) := by decide +kernel
theorem dX6_alloc_45 : decode cX6_alloc 45 = .ok (.iadd, 1) := by decide +kernel
theorem dX6_alloc_46 : decode cX6_alloc 46 = .ok (.invokevirtual 124, 3) := by decide +kernel
theorem dX6_alloc_49 : decode cX6_alloc 49 = .ok (.ifCond .ne 5, 3) := by decide +kernel
theorem dX6_alloc_52 : decode cX6_alloc 52 = .ok (.iconst (-1), 1) := by decide +kernel
theorem dX6_alloc_53 : decode cX6_alloc 53 = .ok (.ireturn, 1) := by decide +kernel
theorem dX6_alloc_54 : decode cX6_alloc 54 = .ok (.aload_n 0, 1) := by decide +kernel
theorem dX6_alloc_55 : decode cX6_alloc 55 = .ok (.iconst 1, 1) := by decide +kernel
theorem dX6_alloc_56 : decode cX6_alloc 56 = .ok (.invokevirtual 77, 3) := by decide +kernel
theorem dX6_alloc_59 : decode cX6_alloc 59 = .ok (.istore 4, 2) := by decide +kernel
theorem dX6_alloc_61 : decode cX6_alloc 61 = .ok (.aload_n 0, 1) := by decide +kernel
theorem dX6_alloc_62 : decode cX6_alloc 62 = .ok (.getfield 57, 3) := by decide +kernel
theorem dX6_alloc_65 : decode cX6_alloc 65 = .ok (.istore 5, 2) := by decide +kernel
theorem dX6_alloc_67 : decode cX6_alloc 67 = .ok (.aload_n 0, 1) := by decide +kernel
theorem dX6_alloc_68 : decode cX6_alloc 68 = .ok (.dup, 1) := by decide +kernel
theorem dX6_alloc_69 : decode cX6_alloc 69 = .ok (.getfield 57, 3) := by decide +kernel
theorem dX6_alloc_72 : decode cX6_alloc 72 = .ok (.iconst 1, 1) := by decide +kernel
theorem dX6_alloc_73 : decode cX6_alloc 73 = .ok (.iadd, 1) := by decide +kernel
theorem dX6_alloc_74 : decode cX6_alloc 74 = .ok (.putfield 57, 3) := by decide +kernel
theorem dX6_alloc_77 : decode cX6_alloc 77 = .ok (.aload_n 0, 1) := by decide +kernel
theorem dX6_alloc_78 : decode cX6_alloc 78 = .ok (.getfield 20, 3) := by decide +kernel
theorem dX6_alloc_81 : decode cX6_alloc 81 = .ok (.iload 5, 2) := by decide +kernel
theorem dX6_alloc_83 : decode cX6_alloc 83 = .ok (.iload 4, 2) := by decide +kernel
theorem dX6_alloc_85 : decode cX6_alloc 85 = .ok (.iastore, 1) := by decide +kernel
theorem dX6_alloc_86 : decode cX6_alloc 86 = .ok (.aload_n 0, 1) := by decide +kernel
theorem dX6_alloc_87 : decode cX6_alloc 87 = .ok (.getfield 23, 3) := by decide +kernel
theorem dX6_alloc_90 : decode cX6_alloc 90 = .ok (.iload 5, 2) := by decide +kernel
theorem dX6_alloc_92 : decode cX6_alloc 92 = .ok (.aload_n 0, 1) := by decide +kernel
theorem dX6_alloc_93 : decode cX6_alloc 93 = .ok (.getfield 13, 3) := by decide +kernel
theorem dX6_alloc_96 : decode cX6_alloc 96 = .ok (.iload 4, 2) := by decide +kernel
theorem dX6_alloc_98 : decode cX6_alloc 98 = .ok (.iaload, 1) := by decide +kernel
theorem dX6_alloc_99 : decode cX6_alloc 99 = .ok (.iastore, 1) := by decide +kernel
theorem dX6_alloc_100 : decode cX6_alloc 100 = .ok (.aload_n 0, 1) := by decide +kernel
theorem dX6_alloc_101 : decode cX6_alloc 101 = .ok (.getfield 26, 3) := by decide +kernel
theorem dX6_alloc_104 : decode cX6_alloc 104 = .ok (.iload 5, 2) := by decide +kernel
theorem dX6_alloc_106 : decode cX6_alloc 106 = .ok (.iload_n 2, 1) := by decide +kernel
theorem dX6_alloc_107 : decode cX6_alloc 107 = .ok (.iconst 2, 1) := by decide +kernel
theorem dX6_alloc_108 : decode cX6_alloc 108 = .ok (.iadd, 1) := by decide +kernel
theorem dX6_alloc_109 : decode cX6_alloc 109 = .ok (.iastore, 1) := by decide +kernel
theorem dX6_alloc_110 : decode cX6_alloc 110 = .ok (.aload_n 0, 1) := by decide +kernel
theorem dX6_alloc_111 : decode cX6_alloc 111 = .ok (.getfield 13, 3) := by decide +kernel
theorem dX6_alloc_114 : decode cX6_alloc 114 = .ok (.iload 4, 2) := by decide +kernel
theorem dX6_alloc_116 : decode cX6_alloc 116 = .ok (.aload_n 0, 1) := by decide +kernel
theorem dX6_alloc_117 : decode cX6_alloc 117 = .ok (.getfield 13, 3) := by decide +kernel
theorem dX6_alloc_120 : decode cX6_alloc 120 = .ok (.iload 4, 2) := by decide +kernel
theorem dX6_alloc_122 : decode cX6_alloc 122 = .ok (.iaload, 1) := by decide +kernel
theorem dX6_alloc_123 : decode cX6_alloc 123 = .ok (.aload_n 0, 1) := by decide +kernel
theorem dX6_alloc_124 : decode cX6_alloc 124 = .ok (.getfield 26, 3) := by decide +kernel
theorem dX6_alloc_127 : decode cX6_alloc 127 = .ok (.iload 5, 2) := by decide +kernel
theorem dX6_alloc_129 : decode cX6_alloc 129 = .ok (.iaload, 1) := by decide +kernel
theorem dX6_alloc_130 : decode cX6_alloc 130 = .ok (.iadd, 1) := by decide +kernel
theorem dX6_alloc_131 : decode cX6_alloc 131 = .ok (.iastore, 1) := by decide +kernel
theorem dX6_alloc_132 : decode cX6_alloc 132 = .ok (.aload_n 0, 1) := by decide +kernel
theorem dX6_alloc_133 : decode cX6_alloc 133 = .ok (.getfield 29, 3) := by decide +kernel
theorem dX6_alloc_136 : decode cX6_alloc 136 = .ok (.iload 5, 2) := by decide +kernel
theorem dX6_alloc_138 : decode cX6_alloc 138 = .ok (.iload_n 3, 1) := by decide +kernel
theorem dX6_alloc_139 : decode cX6_alloc 139 = .ok (.iastore, 1) := by decide +kernel
theorem dX6_alloc_140 : decode cX6_alloc 140 = .ok (.iconst 0, 1) := by decide +kernel
theorem dX6_alloc_141 : decode cX6_alloc 141 = .ok (.istore 6, 2) := by decide +kernel
theorem dX6_alloc_143 : decode cX6_alloc 143 = .ok (.iload 6, 2) := by decide +kernel
theorem dX6_alloc_145 : decode cX6_alloc 145 = .ok (.iload_n 2, 1) := by decide +kernel
theorem dX6_alloc_146 : decode cX6_alloc 146 = .ok (.if_icmp .ge 23, 3) := by decide +kernel
theorem dX6_alloc_149 : decode cX6_alloc 149 = .ok (.aload_n 0, 1) := by decide +kernel
theorem dX6_alloc_150 : decode cX6_alloc 150 = .ok (.getfield 32, 3) := by decide +kernel
theorem dX6_alloc_153 : decode cX6_alloc 153 = .ok (.bipush 21, 2) := by decide +kernel
theorem dX6_alloc_155 : decode cX6_alloc 155 = .ok (.iload 5, 2) := by decide +kernel
theorem dX6_alloc_157 : decode cX6_alloc 157 = .ok (.imul, 1) := by decide +kernel
theorem dX6_alloc_158 : decode cX6_alloc 158 = .ok (.iload 6, 2) := by decide +kernel
theorem dX6_alloc_160 : decode cX6_alloc 160 = .ok (.iadd, 1) := by decide +kernel
theorem dX6_alloc_161 : decode cX6_alloc 161 = .ok (.iconst (-1), 1) := by decide +kernel
theorem dX6_alloc_162 : decode cX6_alloc 162 = .ok (.iastore, 1) := by decide +kernel
theorem dX6_alloc_163 : decode cX6_alloc 163 = .ok (.iinc 6 1, 3) := by decide +kernel
theorem dX6_alloc_166 : decode cX6_alloc 166 = .ok (.goto (-23), 3) := by decide +kernel
theorem dX6_alloc_169 : decode cX6_alloc 169 = .ok (.aload_n 0, 1) := by decide +kernel
theorem dX6_alloc_170 : decode cX6_alloc 170 = .ok (.getfield 35, 3) := by decide +kernel
theorem dX6_alloc_173 : decode cX6_alloc 173 = .ok (.iload 5, 2) := by decide +kernel
theorem dX6_alloc_175 : decode cX6_alloc 175 = .ok (.aload_n 0, 1) := by decide +kernel
theorem dX6_alloc_176 : decode cX6_alloc 176 = .ok (.getfield 70, 3) := by decide +kernel
theorem dX6_alloc_179 : decode cX6_alloc 179 = .ok (.ifCond .le 7, 3) := by decide +kernel
theorem dX6_alloc_182 : decode cX6_alloc 182 = .ok (.iconst 1, 1) := by decide +kernel
theorem dX6_alloc_183 : decode cX6_alloc 183 = .ok (.goto 4, 3) := by decide +kernel
theorem dX6_alloc_186 : decode cX6_alloc 186 = .ok (.iconst 0, 1) := by decide +kernel
theorem dX6_alloc_187 : decode cX6_alloc 187 = .ok (.bastore, 1) := by decide +kernel
theorem dX6_alloc_188 : decode cX6_alloc 188 = .ok (.aload_n 0, 1) := by decide +kernel
theorem dX6_alloc_189 : decode cX6_alloc 189 = .ok (.getfield 38, 3) := by decide +kernel
theorem dX6_alloc_192 : decode cX6_alloc 192 = .ok (.iload 5, 2) := by decide +kernel
theorem dX6_alloc_194 : decode cX6_alloc 194 = .ok (.iconst 0, 1) := by decide +kernel
theorem dX6_alloc_195 : decode cX6_alloc 195 = .ok (.bastore, 1) := by decide +kernel
theorem dX6_alloc_196 : decode cX6_alloc 196 = .ok (.aload_n 0, 1) := by decide +kernel
theorem dX6_alloc_197 : decode cX6_alloc 197 = .ok (.getfield 41, 3) := by decide +kernel
theorem dX6_alloc_200 : decode cX6_alloc 200 = .ok (.iload_n 1, 1) := by decide +kernel
theorem dX6_alloc_201 : decode cX6_alloc 201 = .ok (.iload 5, 2) := by decide +kernel
theorem dX6_alloc_203 : decode cX6_alloc 203 = .ok (.iastore, 1) := by decide +kernel
theorem dX6_alloc_204 : decode cX6_alloc 204 = .ok (.aload_n 0, 1) := by decide +kernel
theorem dX6_alloc_205 : decode cX6_alloc 205 = .ok (.iload 5, 2) := by decide +kernel
theorem dX6_alloc_207 : decode cX6_alloc 207 = .ok (.invokevirtual 90, 3) := by decide +kernel
theorem dX6_alloc_210 : decode cX6_alloc 210 = .ok (.ireturn, 1) := by decide +kernel
theorem dX6_move_0 : decode cX6_move 0 = .ok (.aload_n 0, 1) := by decide +kernel
theorem dX6_move_1 : decode cX6_move 1 = .ok (.iload_n 1, 1) := by decide +kernel
theorem dX6_move_2 : decode cX6_move 2 = .ok (.invokestatic 117, 3) := by decide +kernel
theorem dX6_move_5 : decode cX6_move 5 = .ok (.ifCond .eq 14, 3) := by decide +kernel
theorem dX6_move_8 : decode cX6_move 8 = .ok (.iload_n 2, 1) := by decide +kernel
theorem dX6_move_9 : decode cX6_move 9 = .ok (.invokestatic 117, 3) := by decide +kernel
theorem dX6_move_12 : decode cX6_move 12 = .ok (.ifCond .eq 7, 3) := by decide +kernel
theorem dX6_move_15 : decode cX6_move 15 = .ok (.iconst 1, 1) := by decide +kernel
theorem dX6_move_16 : decode cX6_move 16 = .ok (.goto 4, 3) := by decide +kernel
theorem dX6_move_19 : decode cX6_move 19 = .ok (.iconst 0, 1) := by decide +kernel
theorem dX6_move_20 : decode cX6_move 20 = .ok (.iconst 1, 1) := by decide +kernel
theorem dX6_move_21 : decode cX6_move 21 = .ok (.invokevirtual 120, 3) := by decide +kernel
theorem dX6_move_24 : decode cX6_move 24 = .ok (.ifCond .eq 15, 3) := by decide +kernel
theorem dX6_move_27 : decode cX6_move 27 = .ok (.aload_n 0, 1) := by decide +kernel
theorem dX6_move_28 : decode cX6_move 28 = .ok (.getfield 41, 3) := by decide +kernel
theorem dX6_move_31 : decode cX6_move 31 = .ok (.iload_n 1, 1) := by decide +kernel
theorem dX6_move_32 : decode cX6_move 32 = .ok (.aload_n 0, 1) := by decide +kernel
theorem dX6_move_33 : decode cX6_move 33 = .ok (.getfield 41, 3) := by decide +kernel
theorem dX6_move_36 : decode cX6_move 36 = .ok (.iload_n 2, 1) := by decide +kernel
theorem dX6_move_37 : decode cX6_move 37 = .ok (.iaload, 1) := by decide +kernel
theorem dX6_move_38 : decode cX6_move 38 = .ok (.iastore, 1) := by decide +kernel
theorem dX6_move_39 : decode cX6_move 39 = .ok (.return_, 1) := by decide +kernel
theorem dX6_drop_0 : decode cX6_drop 0 = .ok (.aload_n 0, 1) := by decide +kernel
theorem dX6_drop_1 : decode cX6_drop 1 = .ok (.iload_n 1, 1) := by decide +kernel
theorem dX6_drop_2 : decode cX6_drop 2 = .ok (.invokestatic 117, 3) := by decide +kernel
theorem dX6_drop_5 : decode cX6_drop 5 = .ok (.iconst 1, 1) := by decide +kernel
theorem dX6_drop_6 : decode cX6_drop 6 = .ok (.invokevirtual 120, 3) := by decide +kernel
theorem dX6_drop_9 : decode cX6_drop 9 = .ok (.ifCond .ne 5, 3) := by decide +kernel
theorem dX6_drop_12 : decode cX6_drop 12 = .ok (.iconst 0, 1) := by decide +kernel
theorem dX6_drop_13 : decode cX6_drop 13 = .ok (.ireturn, 1) := by decide +kernel
theorem dX6_drop_14 : decode cX6_drop 14 = .ok (.aload_n 0, 1) := by decide +kernel
theorem dX6_drop_15 : decode cX6_drop 15 = .ok (.getfield 41, 3) := by decide +kernel
theorem dX6_drop_18 : decode cX6_drop 18 = .ok (.iload_n 1, 1) := by decide +kernel
theorem dX6_drop_19 : decode cX6_drop 19 = .ok (.iaload, 1) := by decide +kernel
theorem dX6_drop_20 : decode cX6_drop 20 = .ok (.iconst (-1), 1) := by decide +kernel
theorem dX6_drop_21 : decode cX6_drop 21 = .ok (.if_icmp .eq 7, 3) := by decide +kernel
theorem dX6_drop_24 : decode cX6_drop 24 = .ok (.iconst 1, 1) := by decide +kernel
theorem dX6_drop_25 : decode cX6_drop 25 = .ok (.goto 4, 3) := by decide +kernel
theorem dX6_drop_28 : decode cX6_drop 28 = .ok (.iconst 0, 1) := by decide +kernel
theorem dX6_drop_29 : decode cX6_drop 29 = .ok (.istore_n 2, 1) := by decide +kernel
theorem dX6_drop_30 : decode cX6_drop 30 = .ok (.aload_n 0, 1) := by decide +kernel
theorem dX6_drop_31 : decode cX6_drop 31 = .ok (.getfield 41, 3) := by decide +kernel
theorem dX6_drop_34 : decode cX6_drop 34 = .ok (.iload_n 1, 1) := by decide +kernel
theorem dX6_drop_35 : decode cX6_drop 35 = .ok (.iconst (-1), 1) := by decide +kernel
theorem dX6_drop_36 : decode cX6_drop 36 = .ok (.iastore, 1) := by decide +kernel
theorem dX6_drop_37 : decode cX6_drop 37 = .ok (.iload_n 2, 1) := by decide +kernel
theorem dX6_drop_38 : decode cX6_drop 38 = .ok (.ireturn, 1) := by decide +kernel
theorem dX6_tagOf_0 : decode cX6_tagOf 0 = .ok (.iload_n 1, 1) := by decide +kernel
theorem dX6_tagOf_1 : decode cX6_tagOf 1 = .ok (.iconst (-1), 1) := by decide +kernel
theorem dX6_tagOf_2 : decode cX6_tagOf 2 = .ok (.if_icmp .ne 7, 3) := by decide +kernel
theorem dX6_tagOf_5 : decode cX6_tagOf 5 = .ok (.iconst 0, 1) := by decide +kernel
theorem dX6_tagOf_6 : decode cX6_tagOf 6 = .ok (.goto 9, 3) := by decide +kernel
theorem dX6_tagOf_9 : decode cX6_tagOf 9 = .ok (.aload_n 0, 1) := by decide +kernel
theorem dX6_tagOf_10 : decode cX6_tagOf 10 = .ok (.getfield 29, 3) := by decide +kernel
theorem dX6_tagOf_13 : decode cX6_tagOf 13 = .ok (.iload_n 1, 1) := by decide +kernel
theorem dX6_tagOf_14 : decode cX6_tagOf 14 = .ok (.iaload, 1) := by decide +kernel
theorem dX6_tagOf_15 : decode cX6_tagOf 15 = .ok (.ireturn, 1) := by decide +kernel
theorem dX6_hasField_0 : decode cX6_hasField 0 = .ok (.aload_n 0, 1) := by decide +kernel
theorem dX6_hasField_1 : decode cX6_hasField 1 = .ok (.iload_n 1, 1) := by decide +kernel
theorem dX6_hasField_2 : decode cX6_hasField 2 = .ok (.invokestatic 117, 3) := by decide +kernel
theorem dX6_hasField_5 : decode cX6_hasField 5 = .ok (.ifCond .eq 14, 3) := by decide +kernel
theorem dX6_hasField_8 : decode cX6_hasField 8 = .ok (.iload_n 2, 1) := by decide +kernel
theorem dX6_hasField_9 : decode cX6_hasField 9 = .ok (.invokestatic 117, 3) := by decide +kernel
theorem dX6_hasField_12 : decode cX6_hasField 12 = .ok (.ifCond .eq 7, 3) := by decide +kernel
theorem dX6_hasField_15 : decode cX6_hasField 15 = .ok (.iconst 1, 1) := by decide +kernel
theorem dX6_hasField_16 : decode cX6_hasField 16 = .ok (.goto 4, 3) := by decide +kernel
theorem dX6_hasField_19 : decode cX6_hasField 19 = .ok (.iconst 0, 1) := by decide +kernel
theorem dX6_hasField_20 : decode cX6_hasField 20 = .ok (.iconst 1, 1) := by decide +kernel
theorem dX6_hasField_21 : decode cX6_hasField 21 = .ok (.invokevirtual 120, 3) := by decide +kernel
theorem dX6_hasField_24 : decode cX6_hasField 24 = .ok (.ifCond .eq 26, 3) := by decide +kernel
theorem dX6_hasField_27 : decode cX6_hasField 27 = .ok (.aload_n 0, 1) := by decide +kernel
theorem dX6_hasField_28 : decode cX6_hasField 28 = .ok (.iconst 1, 1) := by decide +kernel
theorem dX6_hasField_29 : decode cX6_hasField 29 = .ok (.aload_n 0, 1) := by decide +kernel
theorem dX6_hasField_30 : decode cX6_hasField 30 = .ok (.getfield 41, 3) := by decide +kernel
theorem dX6_hasField_33 : decode cX6_hasField 33 = .ok (.iload_n 3, 1) := by decide +kernel
theorem dX6_hasField_34 : decode cX6_hasField 34 = .ok (.iaload, 1) := by decide +kernel
theorem dX6_hasField_35 : decode cX6_hasField 35 = .ok (.iconst (-1), 1) := by decide +kernel
theorem dX6_hasField_36 : decode cX6_hasField 36 = .ok (.if_icmp .eq 7, 3) := by decide +kernel
theorem dX6_hasField_39 : decode cX6_hasField 39 = .ok (.iconst 1, 1) := by decide +kernel
theorem dX6_hasField_40 : decode cX6_hasField 40 = .ok (.goto 4, 3) := by decide +kernel
theorem dX6_hasField_43 : decode cX6_hasField 43 = .ok (.iconst 0, 1) := by decide +kernel
theorem dX6_hasField_44 : decode cX6_hasField 44 = .ok (.invokevirtual 120, 3) := by decide +kernel
theorem dX6_hasField_47 : decode cX6_hasField 47 = .ok (.ifCond .ne 5, 3) := by decide +kernel
theorem dX6_hasField_50 : decode cX6_hasField 50 = .ok (.iconst 0, 1) := by decide +kernel
theorem dX6_hasField_51 : decode cX6_hasField 51 = .ok (.ireturn, 1) := by decide +kernel
theorem dX6_hasField_52 : decode cX6_hasField 52 = .ok (.aload_n 0, 1) := by decide +kernel
theorem dX6_hasField_53 : decode cX6_hasField 53 = .ok (.iload 4, 2) := by decide +kernel
theorem dX6_hasField_55 : decode cX6_hasField 55 = .ok (.ifCond .lt 25, 3) := by decide +kernel
theorem dX6_hasField_58 : decode cX6_hasField 58 = .ok (.iload 4, 2) := by decide +kernel
theorem dX6_hasField_60 : decode cX6_hasField 60 = .ok (.aload_n 0, 1) := by decide +kernel
theorem dX6_hasField_61 : decode cX6_hasField 61 = .ok (.getfield 26, 3) := by decide +kernel
theorem dX6_hasField_64 : decode cX6_hasField 64 = .ok (.aload_n 0, 1) := by decide +kernel
theorem dX6_hasField_65 : decode cX6_hasField 65 = .ok (.getfield 41, 3) := by decide +kernel
theorem dX6_hasField_68 : decode cX6_hasField 68 = .ok (.iload_n 3, 1) := by decide +kernel
theorem dX6_hasField_69 : decode cX6_hasField 69 = .ok (.iaload, 1) := by decide +kernel
theorem dX6_hasField_70 : decode cX6_hasField 70 = .ok (.iaload, 1) := by decide +kernel
theorem dX6_hasField_71 : decode cX6_hasField 71 = .ok (.iconst 2, 1) := by decide +kernel
theorem dX6_hasField_72 : decode cX6_hasField 72 = .ok (.isub, 1) := by decide +kernel
theorem dX6_hasField_73 : decode cX6_hasField 73 = .ok (.if_icmp .ge 7, 3) := by decide +kernel
theorem dX6_hasField_76 : decode cX6_hasField 76 = .ok (.iconst 1, 1) := by decide +kernel
theorem dX6_hasField_77 : decode cX6_hasField 77 = .ok (.goto 4, 3) := by decide +kernel
theorem dX6_hasField_80 : decode cX6_hasField 80 = .ok (.iconst 0, 1) := by decide +kernel
theorem dX6_hasField_81 : decode cX6_hasField 81 = .ok (.iconst 1, 1) := by decide +kernel
theorem dX6_hasField_82 : decode cX6_hasField 82 = .ok (.invokevirtual 120, 3) := by decide +kernel
theorem dX6_hasField_85 : decode cX6_hasField 85 = .ok (.ireturn, 1) := by decide +kernel
theorem dX6_read_0 : decode cX6_read 0 = .ok (.aload_n 0, 1) := by decide +kernel
theorem dX6_read_1 : decode cX6_read 1 = .ok (.iload_n 1, 1) := by decide +kernel
theorem dX6_read_2 : decode cX6_read 2 = .ok (.iload_n 2, 1) := by decide +kernel
theorem dX6_read_3 : decode cX6_read 3 = .ok (.iload_n 2, 1) := by decide +kernel
theorem dX6_read_4 : decode cX6_read 4 = .ok (.iload_n 3, 1) := by decide +kernel
theorem dX6_read_5 : decode cX6_read 5 = .ok (.invokevirtual 130, 3) := by decide +kernel
theorem dX6_read_8 : decode cX6_read 8 = .ok (.ifCond .ne 5, 3) := by decide +kernel
theorem dX6_read_11 : decode cX6_read 11 = .ok (.iconst 0, 1) := by decide +kernel
theorem dX6_read_12 : decode cX6_read 12 = .ok (.ireturn, 1) := by decide +kernel
theorem dX6_read_13 : decode cX6_read 13 = .ok (.aload_n 0, 1) := by decide +kernel
theorem dX6_read_14 : decode cX6_read 14 = .ok (.getfield 41, 3) := by decide +kernel
theorem dX6_read_17 : decode cX6_read 17 = .ok (.iload_n 1, 1) := by decide +kernel
theorem dX6_read_18 : decode cX6_read 18 = .ok (.aload_n 0, 1) := by decide +kernel
theorem dX6_read_19 : decode cX6_read 19 = .ok (.getfield 32, 3) := by decide +kernel
theorem dX6_read_22 : decode cX6_read 22 = .ok (.bipush 21, 2) := by decide +kernel
theorem dX6_read_24 : decode cX6_read 24 = .ok (.aload_n 0, 1) := by decide +kernel
theorem dX6_read_25 : decode cX6_read 25 = .ok (.getfield 41, 3) := by decide +kernel
theorem dX6_read_28 : decode cX6_read 28 = .ok (.iload_n 2, 1) := by decide +kernel
theorem dX6_read_29 : decode cX6_read 29 = .ok (.iaload, 1) := by decide +kernel
theorem dX6_read_30 : decode cX6_read 30 = .ok (.imul, 1) := by decide +kernel
theorem dX6_read_31 : decode cX6_read 31 = .ok (.iload_n 3, 1) := by decide +kernel
theorem dX6_read_32 : decode cX6_read 32 = .ok (.iadd, 1) := by decide +kernel
theorem dX6_read_33 : decode cX6_read 33 = .ok (.iaload, 1) := by decide +kernel
theorem dX6_read_34 : decode cX6_read 34 = .ok (.iastore, 1) := by decide +kernel
theorem dX6_read_35 : decode cX6_read 35 = .ok (.aload_n 0, 1) := by decide +kernel
theorem dX6_read_36 : decode cX6_read 36 = .ok (.aload_n 0, 1) := by decide +kernel
theorem dX6_read_37 : decode cX6_read 37 = .ok (.getfield 41, 3) := by decide +kernel
theorem dX6_read_40 : decode cX6_read 40 = .ok (.iload_n 1, 1) := by decide +kernel
theorem dX6_read_41 : decode cX6_read 41 = .ok (.iaload, 1) := by decide +kernel
theorem dX6_read_42 : decode cX6_read 42 = .ok (.invokevirtual 134, 3) := by decide +kernel
theorem dX6_read_45 : decode cX6_read 45 = .ok (.ireturn, 1) := by decide +kernel
theorem dX6_write_0 : decode cX6_write 0 = .ok (.aload_n 0, 1) := by decide +kernel
theorem dX6_write_1 : decode cX6_write 1 = .ok (.iload_n 1, 1) := by decide +kernel
theorem dX6_write_2 : decode cX6_write 2 = .ok (.iload_n 3, 1) := by decide +kernel
theorem dX6_write_3 : decode cX6_write 3 = .ok (.iload_n 1, 1) := by decide +kernel
theorem dX6_write_4 : decode cX6_write 4 = .ok (.iload_n 2, 1) := by decide +kernel
theorem dX6_write_5 : decode cX6_write 5 = .ok (.invokevirtual 130, 3) := by decide +kernel
theorem dX6_write_8 : decode cX6_write 8 = .ok (.ifCond .ne 5, 3) := by decide +kernel
theorem dX6_write_11 : decode cX6_write 11 = .ok (.iconst 0, 1) := by decide +kernel
theorem dX6_write_12 : decode cX6_write 12 = .ok (.ireturn, 1) := by decide +kernel
theorem dX6_write_13 : decode cX6_write 13 = .ok (.aload_n 0, 1) := by decide +kernel
theorem dX6_write_14 : decode cX6_write 14 = .ok (.getfield 41, 3) := by decide +kernel
theorem dX6_write_17 : decode cX6_write 17 = .ok (.iload_n 1, 1) := by decide +kernel
theorem dX6_write_18 : decode cX6_write 18 = .ok (.iaload, 1) := by decide +kernel
theorem dX6_write_19 : decode cX6_write 19 = .ok (.istore 4, 2) := by decide +kernel
theorem dX6_write_21 : decode cX6_write 21 = .ok (.aload_n 0, 1) := by decide +kernel
theorem dX6_write_22 : decode cX6_write 22 = .ok (.getfield 32, 3) := by decide +kernel
theorem dX6_write_25 : decode cX6_write 25 = .ok (.bipush 21, 2) := by decide +kernel
theorem dX6_write_27 : decode cX6_write 27 = .ok (.iload 4, 2) := by decide +kernel
theorem dX6_write_29 : decode cX6_write 29 = .ok (.imul, 1) := by decide +kernel
theorem dX6_write_30 : decode cX6_write 30 = .ok (.iload_n 2, 1) := by decide +kernel
theorem dX6_write_31 : decode cX6_write 31 = .ok (.iadd, 1) := by decide +kernel
theorem dX6_write_32 : decode cX6_write 32 = .ok (.iaload, 1) := by decide +kernel
theorem dX6_write_33 : decode cX6_write 33 = .ok (.istore 5, 2) := by decide +kernel
theorem dX6_write_35 : decode cX6_write 35 = .ok (.aload_n 0, 1) := by decide +kernel
theorem dX6_write_36 : decode cX6_write 36 = .ok (.getfield 70, 3) := by decide +kernel
theorem dX6_write_39 : decode cX6_write 39 = .ok (.iconst 1, 1) := by decide +kernel
theorem dX6_write_40 : decode cX6_write 40 = .ok (.if_icmp .ne 9, 3) := by decide +kernel
theorem dX6_write_43 : decode cX6_write 43 = .ok (.aload_n 0, 1) := by decide +kernel
theorem dX6_write_44 : decode cX6_write 44 = .ok (.iload 5, 2) := by decide +kernel
theorem dX6_write_46 : decode cX6_write 46 = .ok (.invokevirtual 66, 3) := by decide +kernel
theorem dX6_write_49 : decode cX6_write 49 = .ok (.aload_n 0, 1) := by decide +kernel
theorem dX6_write_50 : decode cX6_write 50 = .ok (.getfield 70, 3) := by decide +kernel
theorem dX6_write_53 : decode cX6_write 53 = .ok (.iconst 2, 1) := by decide +kernel
theorem dX6_write_54 : decode cX6_write 54 = .ok (.if_icmp .ne 18, 3) := by decide +kernel
theorem dX6_write_57 : decode cX6_write 57 = .ok (.aload_n 0, 1) := by decide +kernel
theorem dX6_write_58 : decode cX6_write 58 = .ok (.iload 4, 2) := by decide +kernel
theorem dX6_write_60 : decode cX6_write 60 = .ok (.invokevirtual 86, 3) := by decide +kernel
theorem dX6_write_63 : decode cX6_write 63 = .ok (.ifCond .eq 9, 3) := by decide +kernel
theorem dX6_write_66 : decode cX6_write 66 = .ok (.aload_n 0, 1) := by decide +kernel
theorem dX6_write_67 : decode cX6_write 67 = .ok (.iload 4, 2) := by decide +kernel
theorem dX6_write_69 : decode cX6_write 69 = .ok (.invokevirtual 93, 3) := by decide +kernel
theorem dX6_write_72 : decode cX6_write 72 = .ok (.aload_n 0, 1) := by decide +kernel
theorem dX6_write_73 : decode cX6_write 73 = .ok (.getfield 32, 3) := by decide +kernel
theorem dX6_write_76 : decode cX6_write 76 = .ok (.bipush 21, 2) := by decide +kernel
theorem dX6_write_78 : decode cX6_write 78 = .ok (.iload 4, 2) := by decide +kernel
theorem dX6_write_80 : decode cX6_write 80 = .ok (.imul, 1) := by decide +kernel
theorem dX6_write_81 : decode cX6_write 81 = .ok (.iload_n 2, 1) := by decide +kernel
theorem dX6_write_82 : decode cX6_write 82 = .ok (.iadd, 1) := by decide +kernel
theorem dX6_write_83 : decode cX6_write 83 = .ok (.aload_n 0, 1) := by decide +kernel
theorem dX6_write_84 : decode cX6_write 84 = .ok (.getfield 41, 3) := by decide +kernel
theorem dX6_write_87 : decode cX6_write 87 = .ok (.iload_n 3, 1) := by decide +kernel
theorem dX6_write_88 : decode cX6_write 88 = .ok (.iaload, 1) := by decide +kernel
theorem dX6_write_89 : decode cX6_write 89 = .ok (.iastore, 1) := by decide +kernel
theorem dX6_write_90 : decode cX6_write 90 = .ok (.aload_n 0, 1) := by decide +kernel
theorem dX6_write_91 : decode cX6_write 91 = .ok (.iload 5, 2) := by decide +kernel
theorem dX6_write_93 : decode cX6_write 93 = .ok (.invokevirtual 134, 3) := by decide +kernel
theorem dX6_write_96 : decode cX6_write 96 = .ok (.ireturn, 1) := by decide +kernel
theorem dX6_tag_0 : decode cX6_tag 0 = .ok (.aload_n 0, 1) := by decide +kernel
theorem dX6_tag_1 : decode cX6_tag 1 = .ok (.iload_n 1, 1) := by decide +kernel
theorem dX6_tag_2 : decode cX6_tag 2 = .ok (.invokestatic 117, 3) := by decide +kernel
theorem dX6_tag_5 : decode cX6_tag 5 = .ok (.iload_n 1, 1) := by decide +kernel
theorem dX6_tag_6 : decode cX6_tag 6 = .ok (.invokestatic 117, 3) := by decide +kernel
theorem dX6_tag_9 : decode cX6_tag 9 = .ok (.ifCond .eq 13, 3) := by decide +kernel
theorem dX6_tag_12 : decode cX6_tag 12 = .ok (.aload_n 0, 1) := by decide +kernel
theorem dX6_tag_13 : decode cX6_tag 13 = .ok (.getfield 41, 3) := by decide +kernel
theorem dX6_tag_16 : decode cX6_tag 16 = .ok (.iload_n 1, 1) := by decide +kernel
theorem dX6_tag_17 : decode cX6_tag 17 = .ok (.iaload, 1) := by decide +kernel
theorem dX6_tag_18 : decode cX6_tag 18 = .ok (.iconst (-1), 1) := by decide +kernel
theorem dX6_tag_19 : decode cX6_tag 19 = .ok (.if_icmp .eq 7, 3) := by decide +kernel
theorem dX6_tag_22 : decode cX6_tag 22 = .ok (.iconst 1, 1) := by decide +kernel
theorem dX6_tag_23 : decode cX6_tag 23 = .ok (.goto 4, 3) := by decide +kernel
theorem dX6_tag_26 : decode cX6_tag 26 = .ok (.iconst 0, 1) := by decide +kernel
theorem dX6_tag_27 : decode cX6_tag 27 = .ok (.invokevirtual 120, 3) := by decide +kernel
theorem dX6_tag_30 : decode cX6_tag 30 = .ok (.ifCond .eq 17, 3) := by decide +kernel
theorem dX6_tag_33 : decode cX6_tag 33 = .ok (.aload_n 0, 1) := by decide +kernel
theorem dX6_tag_34 : decode cX6_tag 34 = .ok (.getfield 29, 3) := by decide +kernel
theorem dX6_tag_37 : decode cX6_tag 37 = .ok (.aload_n 0, 1) := by decide +kernel
theorem dX6_tag_38 : decode cX6_tag 38 = .ok (.getfield 41, 3) := by decide +kernel
theorem dX6_tag_41 : decode cX6_tag 41 = .ok (.iload_n 1, 1) := by decide +kernel
theorem dX6_tag_42 : decode cX6_tag 42 = .ok (.iaload, 1) := by decide +kernel
theorem dX6_tag_43 : decode cX6_tag 43 = .ok (.iaload, 1) := by decide +kernel
theorem dX6_tag_44 : decode cX6_tag 44 = .ok (.goto 4, 3) := by decide +kernel
theorem dX6_tag_47 : decode cX6_tag 47 = .ok (.iconst 0, 1) := by decide +kernel
theorem dX6_tag_48 : decode cX6_tag 48 = .ok (.ireturn, 1) := by decide +kernel
theorem dX6_same_0 : decode cX6_same 0 = .ok (.aload_n 0, 1) := by decide +kernel
theorem dX6_same_1 : decode cX6_same 1 = .ok (.iload_n 1, 1) := by decide +kernel
theorem dX6_same_2 : decode cX6_same 2 = .ok (.invokestatic 117, 3) := by decide +kernel
theorem dX6_same_5 : decode cX6_same 5 = .ok (.ifCond .eq 14, 3) := by decide +kernel
theorem dX6_same_8 : decode cX6_same 8 = .ok (.iload_n 2, 1) := by decide +kernel
theorem dX6_same_9 : decode cX6_same 9 = .ok (.invokestatic 117, 3) := by decide +kernel
theorem dX6_same_12 : decode cX6_same 12 = .ok (.ifCond .eq 7, 3) := by decide +kernel
theorem dX6_same_15 : decode cX6_same 15 = .ok (.iconst 1, 1) := by decide +kernel
theorem dX6_same_16 : decode cX6_same 16 = .ok (.goto 4, 3) := by decide +kernel
theorem dX6_same_19 : decode cX6_same 19 = .ok (.iconst 0, 1) := by decide +kernel
theorem dX6_same_20 : decode cX6_same 20 = .ok (.iconst 1, 1) := by decide +kernel
theorem dX6_same_21 : decode cX6_same 21 = .ok (.invokevirtual 120, 3) := by decide +kernel
theorem dX6_same_24 : decode cX6_same 24 = .ok (.ifCond .eq 22, 3) := by decide +kernel
theorem dX6_same_27 : decode cX6_same 27 = .ok (.aload_n 0, 1) := by decide +kernel
theorem dX6_same_28 : decode cX6_same 28 = .ok (.getfield 41, 3) := by decide +kernel
theorem dX6_same_31 : decode cX6_same 31 = .ok (.iload_n 1, 1) := by decide +kernel
theorem dX6_same_32 : decode cX6_same 32 = .ok (.iaload, 1) := by decide +kernel
theorem dX6_same_33 : decode cX6_same 33 = .ok (.aload_n 0, 1) := by decide +kernel
theorem dX6_same_34 : decode cX6_same 34 = .ok (.getfield 41, 3) := by decide +kernel
theorem dX6_same_37 : decode cX6_same 37 = .ok (.iload_n 2, 1) := by decide +kernel
theorem dX6_same_38 : decode cX6_same 38 = .ok (.iaload, 1) := by decide +kernel
theorem dX6_same_39 : decode cX6_same 39 = .ok (.if_icmp .ne 7, 3) := by decide +kernel
theorem dX6_same_42 : decode cX6_same 42 = .ok (.iconst 1, 1) := by decide +kernel
theorem dX6_same_43 : decode cX6_same 43 = .ok (.goto 4, 3) := by decide +kernel
theorem dX6_same_46 : decode cX6_same 46 = .ok (.iconst 0, 1) := by decide +kernel
theorem dX6_same_47 : decode cX6_same 47 = .ok (.ireturn, 1) := by decide +kernel
theorem dX6_where_0 : decode cX6_where 0 = .ok (.aload_n 0, 1) := by decide +kernel
theorem dX6_where_1 : decode cX6_where 1 = .ok (.iload_n 1, 1) := by decide +kernel
theorem dX6_where_2 : decode cX6_where 2 = .ok (.invokestatic 117, 3) := by decide +kernel
theorem dX6_where_5 : decode cX6_where 5 = .ok (.iconst 1, 1) := by decide +kernel
theorem dX6_where_6 : decode cX6_where 6 = .ok (.invokevirtual 120, 3) := by decide +kernel
theorem dX6_where_9 : decode cX6_where 9 = .ok (.ifCond .eq 16, 3) := by decide +kernel
theorem dX6_where_12 : decode cX6_where 12 = .ok (.aload_n 0, 1) := by decide +kernel
theorem dX6_where_13 : decode cX6_where 13 = .ok (.aload_n 0, 1) := by decide +kernel
theorem dX6_where_14 : decode cX6_where 14 = .ok (.getfield 41, 3) := by decide +kernel
theorem dX6_where_17 : decode cX6_where 17 = .ok (.iload_n 1, 1) := by decide +kernel
theorem dX6_where_18 : decode cX6_where 18 = .ok (.iaload, 1) := by decide +kernel
theorem dX6_where_19 : decode cX6_where 19 = .ok (.invokevirtual 90, 3) := by decide +kernel
theorem dX6_where_22 : decode cX6_where 22 = .ok (.goto 4, 3) := by decide +kernel
theorem dX6_where_25 : decode cX6_where 25 = .ok (.iconst 0, 1) := by decide +kernel
theorem dX6_where_26 : decode cX6_where 26 = .ok (.ireturn, 1) := by decide +kernel
theorem dX6_begin_0 : decode cX6_begin 0 = .ok (.aload_n 0, 1) := by decide +kernel
theorem dX6_begin_1 : decode cX6_begin 1 = .ok (.iconst 0, 1) := by decide +kernel
theorem dX6_begin_2 : decode cX6_begin 2 = .ok (.putfield 54, 3) := by decide +kernel
theorem dX6_begin_5 : decode cX6_begin 5 = .ok (.aload_n 0, 1) := by decide +kernel
theorem dX6_begin_6 : decode cX6_begin 6 = .ok (.getfield 70, 3) := by decide +kernel
theorem dX6_begin_9 : decode cX6_begin 9 = .ok (.ifCond .le 5, 3) := by decide +kernel
theorem dX6_begin_12 : decode cX6_begin 12 = .ok (.iconst 0, 1) := by decide +kernel
theorem dX6_begin_13 : decode cX6_begin 13 = .ok (.ireturn, 1) := by decide +kernel
theorem dX6_begin_14 : decode cX6_begin 14 = .ok (.aload_n 0, 1) := by decide +kernel
theorem dX6_begin_15 : decode cX6_begin 15 = .ok (.invokevirtual 114, 3) := by decide +kernel
theorem dX6_begin_18 : decode cX6_begin 18 = .ok (.iconst 1, 1) := by decide +kernel
theorem dX6_begin_19 : decode cX6_begin 19 = .ok (.ireturn, 1) := by decide +kernel
theorem dX6_work_0 : decode cX6_work 0 = .ok (.aload_n 0, 1) := by decide +kernel
theorem dX6_work_1 : decode cX6_work 1 = .ok (.iload_n 1, 1) := by decide +kernel
theorem dX6_work_2 : decode cX6_work 2 = .ok (.ifCond .lt 14, 3) := by decide +kernel
theorem dX6_work_5 : decode cX6_work 5 = .ok (.iload_n 1, 1) := by decide +kernel
theorem dX6_work_6 : decode cX6_work 6 = .ok (.sipush 10000, 3) := by decide +kernel
theorem dX6_work_9 : decode cX6_work 9 = .ok (.if_icmp .gt 7, 3) := by decide +kernel
theorem dX6_work_12 : decode cX6_work 12 = .ok (.iconst 1, 1) := by decide +kernel
theorem dX6_work_13 : decode cX6_work 13 = .ok (.goto 4, 3) := by decide +kernel
theorem dX6_work_16 : decode cX6_work 16 = .ok (.iconst 0, 1) := by decide +kernel
theorem dX6_work_17 : decode cX6_work 17 = .ok (.iconst 1, 1) := by decide +kernel
theorem dX6_work_18 : decode cX6_work 18 = .ok (.invokevirtual 120, 3) := by decide +kernel
theorem dX6_work_21 : decode cX6_work 21 = .ok (.ifCond .ne 5, 3) := by decide +kernel
theorem dX6_work_24 : decode cX6_work 24 = .ok (.iconst 0, 1) := by decide +kernel
theorem dX6_work_25 : decode cX6_work 25 = .ok (.ireturn, 1) := by decide +kernel
theorem dX6_work_26 : decode cX6_work 26 = .ok (.iconst 0, 1) := by decide +kernel
theorem dX6_work_27 : decode cX6_work 27 = .ok (.istore_n 2, 1) := by decide +kernel
theorem dX6_work_28 : decode cX6_work 28 = .ok (.iload_n 2, 1) := by decide +kernel
theorem dX6_work_29 : decode cX6_work 29 = .ok (.iload_n 1, 1) := by decide +kernel
theorem dX6_work_30 : decode cX6_work 30 = .ok (.if_icmp .ge 20, 3) := by decide +kernel
theorem dX6_work_33 : decode cX6_work 33 = .ok (.aload_n 0, 1) := by decide +kernel
theorem dX6_work_34 : decode cX6_work 34 = .ok (.getfield 70, 3) := by decide +kernel
theorem dX6_work_37 : decode cX6_work 37 = .ok (.ifCond .le 13, 3) := by decide +kernel
theorem dX6_work_40 : decode cX6_work 40 = .ok (.aload_n 0, 1) := by decide +kernel
theorem dX6_work_41 : decode cX6_work 41 = .ok (.invokevirtual 108, 3) := by decide +kernel
theorem dX6_work_44 : decode cX6_work 44 = .ok (.iinc 2 1, 3) := by decide +kernel
theorem dX6_work_47 : decode cX6_work 47 = .ok (.goto (-19), 3) := by decide +kernel
theorem dX6_work_50 : decode cX6_work 50 = .ok (.aload_n 0, 1) := by decide +kernel
theorem dX6_work_51 : decode cX6_work 51 = .ok (.getfield 70, 3) := by decide +kernel
theorem dX6_work_54 : decode cX6_work 54 = .ok (.ireturn, 1) := by decide +kernel
theorem dX6_collect_0 : decode cX6_collect 0 = .ok (.aload_n 0, 1) := by decide +kernel
theorem dX6_collect_1 : decode cX6_collect 1 = .ok (.iconst 0, 1) := by decide +kernel
theorem dX6_collect_2 : decode cX6_collect 2 = .ok (.putfield 54, 3) := by decide +kernel
theorem dX6_collect_5 : decode cX6_collect 5 = .ok (.aload_n 0, 1) := by decide +kernel
theorem dX6_collect_6 : decode cX6_collect 6 = .ok (.invokevirtual 127, 3) := by decide +kernel
theorem dX6_collect_9 : decode cX6_collect 9 = .ok (.iconst 0, 1) := by decide +kernel
theorem dX6_collect_10 : decode cX6_collect 10 = .ok (.istore_n 1, 1) := by decide +kernel
theorem dX6_collect_11 : decode cX6_collect 11 = .ok (.iconst 0, 1) := by decide +kernel
theorem dX6_collect_12 : decode cX6_collect 12 = .ok (.istore_n 2, 1) := by decide +kernel
theorem dX6_collect_13 : decode cX6_collect 13 = .ok (.iload_n 2, 1) := by decide +kernel
theorem dX6_collect_14 : decode cX6_collect 14 = .ok (.aload_n 0, 1) := by decide +kernel
theorem dX6_collect_15 : decode cX6_collect 15 = .ok (.getfield 47, 3) := by decide +kernel
theorem dX6_collect_18 : decode cX6_collect 18 = .ok (.if_icmp .ge 26, 3) := by decide +kernel
theorem dX6_collect_21 : decode cX6_collect 21 = .ok (.aload_n 0, 1) := by decide +kernel
theorem dX6_collect_22 : decode cX6_collect 22 = .ok (.getfield 7, 3) := by decide +kernel
theorem dX6_collect_25 : decode cX6_collect 25 = .ok (.iload_n 2, 1) := by decide +kernel
theorem dX6_collect_26 : decode cX6_collect 26 = .ok (.iaload, 1) := by decide +kernel
theorem dX6_collect_27 : decode cX6_collect 27 = .ok (.ifCond .ne 9, 3) := by decide +kernel
theorem dX6_collect_30 : decode cX6_collect 30 = .ok (.iload_n 1, 1) := by decide +kernel
theorem dX6_collect_31 : decode cX6_collect 31 = .ok (.iconst 1, 1) := by decide +kernel
theorem dX6_collect_32 : decode cX6_collect 32 = .ok (.iadd, 1) := by decide +kernel
theorem dX6_collect_33 : decode cX6_collect 33 = .ok (.goto 4, 3) := by decide +kernel
theorem dX6_collect_36 : decode cX6_collect 36 = .ok (.iload_n 1, 1) := by decide +kernel
theorem dX6_collect_37 : decode cX6_collect 37 = .ok (.istore_n 1, 1) := by decide +kernel
theorem dX6_collect_38 : decode cX6_collect 38 = .ok (.iinc 2 1, 3) := by decide +kernel
theorem dX6_collect_41 : decode cX6_collect 41 = .ok (.goto (-28), 3) := by decide +kernel
theorem dX6_collect_44 : decode cX6_collect 44 = .ok (.iload_n 1, 1) := by decide +kernel
theorem dX6_collect_45 : decode cX6_collect 45 = .ok (.ireturn, 1) := by decide +kernel
theorem dX6_region_0 : decode cX6_region 0 = .ok (.aload_n 0, 1) := by decide +kernel
theorem dX6_region_1 : decode cX6_region 1 = .ok (.iload_n 1, 1) := by decide +kernel
theorem dX6_region_2 : decode cX6_region 2 = .ok (.ifCond .lt 15, 3) := by decide +kernel
theorem dX6_region_5 : decode cX6_region 5 = .ok (.iload_n 1, 1) := by decide +kernel
theorem dX6_region_6 : decode cX6_region 6 = .ok (.aload_n 0, 1) := by decide +kernel
theorem dX6_region_7 : decode cX6_region 7 = .ok (.getfield 47, 3) := by decide +kernel
theorem dX6_region_10 : decode cX6_region 10 = .ok (.if_icmp .ge 7, 3) := by decide +kernel
theorem dX6_region_13 : decode cX6_region 13 = .ok (.iconst 1, 1) := by decide +kernel
theorem dX6_region_14 : decode cX6_region 14 = .ok (.goto 4, 3) := by decide +kernel
theorem dX6_region_17 : decode cX6_region 17 = .ok (.iconst 0, 1) := by decide +kernel
theorem dX6_region_18 : decode cX6_region 18 = .ok (.iconst 1, 1) := by decide +kernel
theorem dX6_region_19 : decode cX6_region 19 = .ok (.invokevirtual 120, 3) := by decide +kernel
theorem dX6_region_22 : decode cX6_region 22 = .ok (.ifCond .ne 5, 3) := by decide +kernel
theorem dX6_region_25 : decode cX6_region 25 = .ok (.iconst 0, 1) := by decide +kernel
theorem dX6_region_26 : decode cX6_region 26 = .ok (.ireturn, 1) := by decide +kernel
theorem dX6_region_27 : decode cX6_region 27 = .ok (.iload_n 2, 1) := by decide +kernel
theorem dX6_region_28 : decode cX6_region 28 = .ok (.ifCond .ne 12, 3) := by decide +kernel
theorem dX6_region_31 : decode cX6_region 31 = .ok (.aload_n 0, 1) := by decide +kernel
theorem dX6_region_32 : decode cX6_region 32 = .ok (.getfield 7, 3) := by decide +kernel
theorem dX6_region_35 : decode cX6_region 35 = .ok (.iload_n 1, 1) := by decide +kernel
theorem dX6_region_36 : decode cX6_region 36 = .ok (.iaload, 1) := by decide +kernel
theorem dX6_region_37 : decode cX6_region 37 = .ok (.goto 31, 3) := by decide +kernel
theorem dX6_region_40 : decode cX6_region 40 = .ok (.iload_n 2, 1) := by decide +kernel
theorem dX6_region_41 : decode cX6_region 41 = .ok (.iconst 1, 1) := by decide +kernel
theorem dX6_region_42 : decode cX6_region 42 = .ok (.if_icmp .ne 12, 3) := by decide +kernel
theorem dX6_region_45 : decode cX6_region 45 = .ok (.aload_n 0, 1) := by decide +kernel
theorem dX6_region_46 : decode cX6_region 46 = .ok (.getfield 13, 3) := by decide +kernel
theorem dX6_region_49 : decode cX6_region 49 = .ok (.iload_n 1, 1) := by decide +kernel
theorem dX6_region_50 : decode cX6_region 50 = .ok (.iaload, 1) := by decide +kernel
theorem dX6_region_51 : decode cX6_region 51 = .ok (.goto 17, 3) := by decide +kernel
theorem dX6_region_54 : decode cX6_region 54 = .ok (.iload_n 2, 1) := by decide +kernel
theorem dX6_region_55 : decode cX6_region 55 = .ok (.iconst 2, 1) := by decide +kernel
theorem dX6_region_56 : decode cX6_region 56 = .ok (.if_icmp .ne 11, 3) := by decide +kernel
theorem dX6_region_59 : decode cX6_region 59 = .ok (.aload_n 0, 1) := by decide +kernel
theorem dX6_region_60 : decode cX6_region 60 = .ok (.iload_n 1, 1) := by decide +kernel
theorem dX6_region_61 : decode cX6_region 61 = .ok (.invokevirtual 73, 3) := by decide +kernel
theorem dX6_region_64 : decode cX6_region 64 = .ok (.goto 4, 3) := by decide +kernel
theorem dX6_region_67 : decode cX6_region 67 = .ok (.iconst (-1), 1) := by decide +kernel
theorem dX6_region_68 : decode cX6_region 68 = .ok (.ireturn, 1) := by decide +kernel
theorem dX6_count_0 : decode cX6_count 0 = .ok (.aload_n 0, 1) := by decide +kernel
theorem dX6_count_1 : decode cX6_count 1 = .ok (.iconst 0, 1) := by decide +kernel
theorem dX6_count_2 : decode cX6_count 2 = .ok (.putfield 54, 3) := by decide +kernel
theorem dX6_count_5 : decode cX6_count 5 = .ok (.iload_n 1, 1) := by decide +kernel
theorem dX6_count_6 : decode cX6_count 6 = .ok (.ifCond .ne 10, 3) := by decide +kernel
theorem dX6_count_9 : decode cX6_count 9 = .ok (.aload_n 0, 1) := by decide +kernel
theorem dX6_count_10 : decode cX6_count 10 = .ok (.getfield 83, 3) := by decide +kernel
theorem dX6_count_13 : decode cX6_count 13 = .ok (.goto 45, 3) := by decide +kernel
theorem dX6_count_16 : decode cX6_count 16 = .ok (.iload_n 1, 1) := by decide +kernel
theorem dX6_count_17 : decode cX6_count 17 = .ok (.iconst 1, 1) := by decide +kernel
theorem dX6_count_18 : decode cX6_count 18 = .ok (.if_icmp .ne 10, 3) := by decide +kernel
theorem dX6_count_21 : decode cX6_count 21 = .ok (.aload_n 0, 1) := by decide +kernel
theorem dX6_count_22 : decode cX6_count 22 = .ok (.getfield 80, 3) := by decide +kernel
theorem dX6_count_25 : decode cX6_count 25 = .ok (.goto 33, 3) := by decide +kernel
theorem dX6_count_28 : decode cX6_count 28 = .ok (.iload_n 1, 1) := by decide +kernel
theorem dX6_count_29 : decode cX6_count 29 = .ok (.iconst 2, 1) := by decide +kernel
theorem dX6_count_30 : decode cX6_count 30 = .ok (.if_icmp .ne 27, 3) := by decide +kernel
theorem dX6_count_33 : decode cX6_count 33 = .ok (.aload_n 0, 1) := by decide +kernel
theorem dX6_count_34 : decode cX6_count 34 = .ok (.getfield 70, 3) := by decide +kernel
theorem dX6_count_37 : decode cX6_count 37 = .ok (.iconst 1, 1) := by decide +kernel
theorem dX6_count_38 : decode cX6_count 38 = .ok (.if_icmp .ne 15, 3) := by decide +kernel
theorem dX6_count_41 : decode cX6_count 41 = .ok (.aload_n 0, 1) := by decide +kernel
theorem dX6_count_42 : decode cX6_count 42 = .ok (.getfield 60, 3) := by decide +kernel
theorem dX6_count_45 : decode cX6_count 45 = .ok (.aload_n 0, 1) := by decide +kernel
theorem dX6_count_46 : decode cX6_count 46 = .ok (.getfield 63, 3) := by decide +kernel
theorem dX6_count_49 : decode cX6_count 49 = .ok (.isub, 1) := by decide +kernel
theorem dX6_count_50 : decode cX6_count 50 = .ok (.goto 8, 3) := by decide +kernel
theorem dX6_count_53 : decode cX6_count 53 = .ok (.iconst 0, 1) := by decide +kernel
theorem dX6_count_54 : decode cX6_count 54 = .ok (.goto 4, 3) := by decide +kernel
theorem dX6_count_57 : decode cX6_count 57 = .ok (.iconst (-1), 1) := by decide +kernel
theorem dX6_count_58 : decode cX6_count 58 = .ok (.ireturn, 1) := by decide +kernel
end
section
theorem dL_law_0 : decode cL_law 0 = .ok (.new 8, 3) := by decide +kernel
theorem dL_law_3 : decode cL_law 3 = .ok (.dup, 1) := by decide +kernel
theorem dL_law_4 : decode cL_law 4 = .ok (.aload_n 0, 1) := by decide +kernel
theorem dL_law_5 : decode cL_law 5 = .ok (.iconst 0, 1) := by decide +kernel
theorem dL_law_6 : decode cL_law 6 = .ok (.invokestatic 51, 3) := by decide +kernel
theorem dL_law_9 : decode cL_law 9 = .ok (.aload_n 0, 1) := by decide +kernel
theorem dL_law_10 : decode cL_law 10 = .ok (.iconst 1, 1) := by decide +kernel
theorem dL_law_11 : decode cL_law 11 = .ok (.invokestatic 51, 3) := by decide +kernel
theorem dL_law_14 : decode cL_law 14 = .ok (.invokespecial 57, 3) := by decide +kernel
theorem dL_law_17 : decode cL_law 17 = .ok (.astore_n 1, 1) := by decide +kernel
theorem dL_law_18 : decode cL_law 18 = .ok (.new 59, 3) := by decide +kernel
theorem dL_law_21 : decode cL_law 21 = .ok (.dup, 1) := by decide +kernel
theorem dL_law_22 : decode cL_law 22 = .ok (.aload_n 0, 1) := by decide +kernel
theorem dL_law_23 : decode cL_law 23 = .ok (.iconst 0, 1) := by decide +kernel
theorem dL_law_24 : decode cL_law 24 = .ok (.invokestatic 51, 3) := by decide +kernel
theorem dL_law_27 : decode cL_law 27 = .ok (.aload_n 0, 1) := by decide +kernel
theorem dL_law_28 : decode cL_law 28 = .ok (.iconst 1, 1) := by decide +kernel
theorem dL_law_29 : decode cL_law 29 = .ok (.invokestatic 51, 3) := by decide +kernel
theorem dL_law_32 : decode cL_law 32 = .ok (.invokespecial 61, 3) := by decide +kernel
theorem dL_law_35 : decode cL_law 35 = .ok (.astore_n 2, 1) := by decide +kernel
theorem dL_law_36 : decode cL_law 36 = .ok (.iconst 1, 1) := by decide +kernel
theorem dL_law_37 : decode cL_law 37 = .ok (.newarray .long, 2) := by decide +kernel
theorem dL_law_39 : decode cL_law 39 = .ok (.astore_n 3, 1) := by decide +kernel
theorem dL_law_40 : decode cL_law 40 = .ok (.iconst 2, 1) := by decide +kernel
theorem dL_law_41 : decode cL_law 41 = .ok (.istore 4, 2) := by decide +kernel
theorem dL_law_43 : decode cL_law 43 = .ok (.iload 4, 2) := by decide +kernel
theorem dL_law_45 : decode cL_law 45 = .ok (.aload_n 0, 1) := by decide +kernel
theorem dL_law_46 : decode cL_law 46 = .ok (.arraylength, 1) := by decide +kernel
theorem dL_law_47 : decode cL_law 47 = .ok (.iconst 4, 1) := by decide +kernel
theorem dL_law_48 : decode cL_law 48 = .ok (.isub, 1) := by decide +kernel
theorem dL_law_49 : decode cL_law 49 = .ok (.if_icmp .gt 794, 3) := by decide +kernel
theorem dL_law_52 : decode cL_law 52 = .ok (.aload_n 0, 1) := by decide +kernel
theorem dL_law_53 : decode cL_law 53 = .ok (.iload 4, 2) := by decide +kernel
theorem dL_law_55 : decode cL_law 55 = .ok (.iaload, 1) := by decide +kernel
theorem dL_law_56 : decode cL_law 56 = .ok (.bipush 15, 2) := by decide +kernel
theorem dL_law_58 : decode cL_law 58 = .ok (.iand, 1) := by decide +kernel
theorem dL_law_59 : decode cL_law 59 = .ok (.tableswitch 778 0 12 #[65, 145, 193, 256, 336, 416, 472, 547, 603, 616, 672, 685, 753], 65) := by decide +kernel
theorem dL_law_124 : decode cL_law 124 = .ok (.aload_n 1, 1) := by decide +kernel
theorem dL_law_125 : decode cL_law 125 = .ok (.aload_n 0, 1) := by decide +kernel
theorem dL_law_126 : decode cL_law 126 = .ok (.iload 4, 2) := by decide +kernel
theorem dL_law_128 : decode cL_law 128 = .ok (.iconst 1, 1) := by decide +kernel
theorem dL_law_129 : decode cL_law 129 = .ok (.iadd, 1) := by decide +kernel
theorem dL_law_130 : decode cL_law 130 = .ok (.iaload, 1) := by decide +kernel
theorem dL_law_131 : decode cL_law 131 = .ok (.aload_n 0, 1) := by decide +kernel
theorem dL_law_132 : decode cL_law 132 = .ok (.iload 4, 2) := by decide +kernel
theorem dL_law_134 : decode cL_law 134 = .ok (.iconst 2, 1) := by decide +kernel
theorem dL_law_135 : decode cL_law 135 = .ok (.iadd, 1) := by decide +kernel
theorem dL_law_136 : decode cL_law 136 = .ok (.iaload, 1) := by decide +kernel
theorem dL_law_137 : decode cL_law 137 = .ok (.aload_n 0, 1) := by decide +kernel
theorem dL_law_138 : decode cL_law 138 = .ok (.iload 4, 2) := by decide +kernel
theorem dL_law_140 : decode cL_law 140 = .ok (.iconst 3, 1) := by decide +kernel
theorem dL_law_141 : decode cL_law 141 = .ok (.iadd, 1) := by decide +kernel
theorem dL_law_142 : decode cL_law 142 = .ok (.iaload, 1) := by decide +kernel
theorem dL_law_143 : decode cL_law 143 = .ok (.aload_n 3, 1) := by decide +kernel
theorem dL_law_144 : decode cL_law 144 = .ok (.invokestatic 62, 3) := by decide +kernel
theorem dL_law_147 : decode cL_law 147 = .ok (.istore 5, 2) := by decide +kernel
theorem dL_law_149 : decode cL_law 149 = .ok (.aload_n 2, 1) := by decide +kernel
theorem dL_law_150 : decode cL_law 150 = .ok (.aload_n 0, 1) := by decide +kernel
theorem dL_law_151 : decode cL_law 151 = .ok (.iload 4, 2) := by decide +kernel
theorem dL_law_153 : decode cL_law 153 = .ok (.iconst 1, 1) := by decide +kernel
theorem dL_law_154 : decode cL_law 154 = .ok (.iadd, 1) := by decide +kernel
theorem dL_law_155 : decode cL_law 155 = .ok (.iaload, 1) := by decide +kernel
theorem dL_law_156 : decode cL_law 156 = .ok (.aload_n 0, 1) := by decide +kernel
theorem dL_law_157 : decode cL_law 157 = .ok (.iload 4, 2) := by decide +kernel
theorem dL_law_159 : decode cL_law 159 = .ok (.iconst 2, 1) := by decide +kernel
theorem dL_law_160 : decode cL_law 160 = .ok (.iadd, 1) := by decide +kernel
theorem dL_law_161 : decode cL_law 161 = .ok (.iaload, 1) := by decide +kernel
theorem dL_law_162 : decode cL_law 162 = .ok (.aload_n 0, 1) := by decide +kernel
theorem dL_law_163 : decode cL_law 163 = .ok (.iload 4, 2) := by decide +kernel
theorem dL_law_165 : decode cL_law 165 = .ok (.iconst 3, 1) := by decide +kernel
theorem dL_law_166 : decode cL_law 166 = .ok (.iadd, 1) := by decide +kernel
theorem dL_law_167 : decode cL_law 167 = .ok (.iaload, 1) := by decide +kernel
theorem dL_law_168 : decode cL_law 168 = .ok (.invokevirtual 65, 3) := by decide +kernel
theorem dL_law_171 : decode cL_law 171 = .ok (.istore 6, 2) := by decide +kernel
theorem dL_law_173 : decode cL_law 173 = .ok (.aload_n 2, 1) := by decide +kernel
theorem dL_law_174 : decode cL_law 174 = .ok (.invokevirtual 66, 3) := by decide +kernel
theorem dL_law_177 : decode cL_law 177 = .ok (.iload 5, 2) := by decide +kernel
theorem dL_law_179 : decode cL_law 179 = .ok (.if_icmp .eq 5, 3) := by decide +kernel
theorem dL_law_182 : decode cL_law 182 = .ok (.iconst 0, 1) := by decide +kernel
theorem dL_law_183 : decode cL_law 183 = .ok (.ireturn, 1) := by decide +kernel
theorem dL_law_184 : decode cL_law 184 = .ok (.iload 5, 2) := by decide +kernel
theorem dL_law_186 : decode cL_law 186 = .ok (.ifCond .ne 15, 3) := by decide +kernel
theorem dL_law_189 : decode cL_law 189 = .ok (.aload_n 3, 1) := by decide +kernel
theorem dL_law_190 : decode cL_law 190 = .ok (.iconst 0, 1) := by decide +kernel
theorem dL_law_191 : decode cL_law 191 = .ok (.laload, 1) := by decide +kernel
theorem dL_law_192 : decode cL_law 192 = .ok (.iload 6, 2) := by decide +kernel
theorem dL_law_194 : decode cL_law 194 = .ok (.i2l, 1) := by decide +kernel
theorem dL_law_195 : decode cL_law 195 = .ok (.lcmp, 1) := by decide +kernel
theorem dL_law_196 : decode cL_law 196 = .ok (.ifCond .eq 5, 3) := by decide +kernel
theorem dL_law_199 : decode cL_law 199 = .ok (.iconst 0, 1) := by decide +kernel
theorem dL_law_200 : decode cL_law 200 = .ok (.ireturn, 1) := by decide +kernel
theorem dL_law_201 : decode cL_law 201 = .ok (.goto 636, 3) := by decide +kernel
theorem dL_law_204 : decode cL_law 204 = .ok (.aload_n 1, 1) := by decide +kernel
theorem dL_law_205 : decode cL_law 205 = .ok (.aload_n 0, 1) := by decide +kernel
theorem dL_law_206 : decode cL_law 206 = .ok (.iload 4, 2) := by decide +kernel
theorem dL_law_208 : decode cL_law 208 = .ok (.iconst 1, 1) := by decide +kernel
theorem dL_law_209 : decode cL_law 209 = .ok (.iadd, 1) := by decide +kernel
theorem dL_law_210 : decode cL_law 210 = .ok (.iaload, 1) := by decide +kernel
theorem dL_law_211 : decode cL_law 211 = .ok (.aload_n 0, 1) := by decide +kernel
theorem dL_law_212 : decode cL_law 212 = .ok (.iload 4, 2) := by decide +kernel
theorem dL_law_214 : decode cL_law 214 = .ok (.iconst 2, 1) := by decide +kernel
theorem dL_law_215 : decode cL_law 215 = .ok (.iadd, 1) := by decide +kernel
theorem dL_law_216 : decode cL_law 216 = .ok (.iaload, 1) := by decide +kernel
theorem dL_law_217 : decode cL_law 217 = .ok (.invokestatic 70, 3) := by decide +kernel
theorem dL_law_220 : decode cL_law 220 = .ok (.istore 5, 2) := by decide +kernel
theorem dL_law_222 : decode cL_law 222 = .ok (.aload_n 2, 1) := by decide +kernel
theorem dL_law_223 : decode cL_law 223 = .ok (.aload_n 0, 1) := by decide +kernel
theorem dL_law_224 : decode cL_law 224 = .ok (.iload 4, 2) := by decide +kernel
theorem dL_law_226 : decode cL_law 226 = .ok (.iconst 1, 1) := by decide +kernel
theorem dL_law_227 : decode cL_law 227 = .ok (.iadd, 1) := by decide +kernel
theorem dL_law_228 : decode cL_law 228 = .ok (.iaload, 1) := by decide +kernel
theorem dL_law_229 : decode cL_law 229 = .ok (.aload_n 0, 1) := by decide +kernel
theorem dL_law_230 : decode cL_law 230 = .ok (.iload 4, 2) := by decide +kernel
theorem dL_law_232 : decode cL_law 232 = .ok (.iconst 2, 1) := by decide +kernel
theorem dL_law_233 : decode cL_law 233 = .ok (.iadd, 1) := by decide +kernel
theorem dL_law_234 : decode cL_law 234 = .ok (.iaload, 1) := by decide +kernel
theorem dL_law_235 : decode cL_law 235 = .ok (.invokevirtual 73, 3) := by decide +kernel
theorem dL_law_238 : decode cL_law 238 = .ok (.aload_n 2, 1) := by decide +kernel
theorem dL_law_239 : decode cL_law 239 = .ok (.invokevirtual 66, 3) := by decide +kernel
theorem dL_law_242 : decode cL_law 242 = .ok (.iload 5, 2) := by decide +kernel
theorem dL_law_244 : decode cL_law 244 = .ok (.if_icmp .eq 5, 3) := by decide +kernel
theorem dL_law_247 : decode cL_law 247 = .ok (.iconst 0, 1) := by decide +kernel
theorem dL_law_248 : decode cL_law 248 = .ok (.ireturn, 1) := by decide +kernel
theorem dL_law_249 : decode cL_law 249 = .ok (.goto 588, 3) := by decide +kernel
theorem dL_law_252 : decode cL_law 252 = .ok (.aload_n 1, 1) := by decide +kernel
theorem dL_law_253 : decode cL_law 253 = .ok (.aload_n 0, 1) := by decide +kernel
theorem dL_law_254 : decode cL_law 254 = .ok (.iload 4, 2) := by decide +kernel
theorem dL_law_256 : decode cL_law 256 = .ok (.iconst 1, 1) := by decide +kernel
theorem dL_law_257 : decode cL_law 257 = .ok (.iadd, 1) := by decide +kernel
theorem dL_law_258 : decode cL_law 258 = .ok (.iaload, 1) := by decide +kernel
theorem dL_law_259 : decode cL_law 259 = .ok (.aload_n 3, 1) := by decide +kernel
theorem dL_law_260 : decode cL_law 260 = .ok (.invokestatic 74, 3) := by decide +kernel
theorem dL_law_263 : decode cL_law 263 = .ok (.istore 5, 2) := by decide +kernel
theorem dL_law_265 : decode cL_law 265 = .ok (.aload_n 2, 1) := by decide +kernel
theorem dL_law_266 : decode cL_law 266 = .ok (.aload_n 0, 1) := by decide +kernel
theorem dL_law_267 : decode cL_law 267 = .ok (.iload 4, 2) := by decide +kernel
theorem dL_law_269 : decode cL_law 269 = .ok (.iconst 1, 1) := by decide +kernel
theorem dL_law_270 : decode cL_law 270 = .ok (.iadd, 1) := by decide +kernel
theorem dL_law_271 : decode cL_law 271 = .ok (.iaload, 1) := by decide +kernel
theorem dL_law_272 : decode cL_law 272 = .ok (.invokevirtual 77, 3) := by decide +kernel
theorem dL_law_275 : decode cL_law 275 = .ok (.istore 6, 2) := by decide +kernel
theorem dL_law_277 : decode cL_law 277 = .ok (.aload_n 2, 1) := by decide +kernel
theorem dL_law_278 : decode cL_law 278 = .ok (.invokevirtual 66, 3) := by decide +kernel
theorem dL_law_281 : decode cL_law 281 = .ok (.iload 5, 2) := by decide +kernel
theorem dL_law_283 : decode cL_law 283 = .ok (.if_icmp .eq 5, 3) := by decide +kernel
theorem dL_law_286 : decode cL_law 286 = .ok (.iconst 0, 1) := by decide +kernel
theorem dL_law_287 : decode cL_law 287 = .ok (.ireturn, 1) := by decide +kernel
theorem dL_law_288 : decode cL_law 288 = .ok (.iload 5, 2) := by decide +kernel
theorem dL_law_290 : decode cL_law 290 = .ok (.ifCond .ne 22, 3) := by decide +kernel
theorem dL_law_293 : decode cL_law 293 = .ok (.aload_n 3, 1) := by decide +kernel
theorem dL_law_294 : decode cL_law 294 = .ok (.iconst 0, 1) := by decide +kernel
theorem dL_law_295 : decode cL_law 295 = .ok (.laload, 1) := by decide +kernel
theorem dL_law_296 : decode cL_law 296 = .ok (.iload 6, 2) := by decide +kernel
theorem dL_law_298 : decode cL_law 298 = .ok (.ifCond .eq 7, 3) := by decide +kernel
theorem dL_law_301 : decode cL_law 301 = .ok (.lconst 1, 1) := by decide +kernel
theorem dL_law_302 : decode cL_law 302 = .ok (.goto 4, 3) := by decide +kernel
theorem dL_law_305 : decode cL_law 305 = .ok (.lconst 0, 1) := by decide +kernel
theorem dL_law_306 : decode cL_law 306 = .ok (.lcmp, 1) := by decide +kernel
theorem dL_law_307 : decode cL_law 307 = .ok (.ifCond .eq 5, 3) := by decide +kernel
theorem dL_law_310 : decode cL_law 310 = .ok (.iconst 0, 1) := by decide +kernel
theorem dL_law_311 : decode cL_law 311 = .ok (.ireturn, 1) := by decide +kernel
theorem dL_law_312 : decode cL_law 312 = .ok (.goto 525, 3) := by decide +kernel
theorem dL_law_315 : decode cL_law 315 = .ok (.aload_n 1, 1) := by decide +kernel
theorem dL_law_316 : decode cL_law 316 = .ok (.aload_n 0, 1) := by decide +kernel
theorem dL_law_317 : decode cL_law 317 = .ok (.iload 4, 2) := by decide +kernel
theorem dL_law_319 : decode cL_law 319 = .ok (.iconst 1, 1) := by decide +kernel
theorem dL_law_320 : decode cL_law 320 = .ok (.iadd, 1) := by decide +kernel
theorem dL_law_321 : decode cL_law 321 = .ok (.iaload, 1) := by decide +kernel
theorem dL_law_322 : decode cL_law 322 = .ok (.aload_n 0, 1) := by decide +kernel
theorem dL_law_323 : decode cL_law 323 = .ok (.iload 4, 2) := by decide +kernel
theorem dL_law_325 : decode cL_law 325 = .ok (.iconst 2, 1) := by decide +kernel
theorem dL_law_326 : decode cL_law 326 = .ok (.iadd, 1) := by decide +kernel
theorem dL_law_327 : decode cL_law 327 = .ok (.iaload, 1) := by decide +kernel
theorem dL_law_328 : decode cL_law 328 = .ok (.aload_n 0, 1) := by decide +kernel
theorem dL_law_329 : decode cL_law 329 = .ok (.iload 4, 2) := by decide +kernel
theorem dL_law_331 : decode cL_law 331 = .ok (.iconst 3, 1) := by decide +kernel
theorem dL_law_332 : decode cL_law 332 = .ok (.iadd, 1) := by decide +kernel
theorem dL_law_333 : decode cL_law 333 = .ok (.iaload, 1) := by decide +kernel
theorem dL_law_334 : decode cL_law 334 = .ok (.aload_n 3, 1) := by decide +kernel
theorem dL_law_335 : decode cL_law 335 = .ok (.invokestatic 78, 3) := by decide +kernel
theorem dL_law_338 : decode cL_law 338 = .ok (.istore 5, 2) := by decide +kernel
theorem dL_law_340 : decode cL_law 340 = .ok (.aload_n 2, 1) := by decide +kernel
theorem dL_law_341 : decode cL_law 341 = .ok (.aload_n 0, 1) := by decide +kernel
theorem dL_law_342 : decode cL_law 342 = .ok (.iload 4, 2) := by decide +kernel
theorem dL_law_344 : decode cL_law 344 = .ok (.iconst 1, 1) := by decide +kernel
theorem dL_law_345 : decode cL_law 345 = .ok (.iadd, 1) := by decide +kernel
theorem dL_law_346 : decode cL_law 346 = .ok (.iaload, 1) := by decide +kernel
theorem dL_law_347 : decode cL_law 347 = .ok (.aload_n 0, 1) := by decide +kernel
theorem dL_law_348 : decode cL_law 348 = .ok (.iload 4, 2) := by decide +kernel
theorem dL_law_350 : decode cL_law 350 = .ok (.iconst 2, 1) := by decide +kernel
theorem dL_law_351 : decode cL_law 351 = .ok (.iadd, 1) := by decide +kernel
theorem dL_law_352 : decode cL_law 352 = .ok (.iaload, 1) := by decide +kernel
theorem dL_law_353 : decode cL_law 353 = .ok (.aload_n 0, 1) := by decide +kernel
theorem dL_law_354 : decode cL_law 354 = .ok (.iload 4, 2) := by decide +kernel
theorem dL_law_356 : decode cL_law 356 = .ok (.iconst 3, 1) := by decide +kernel
theorem dL_law_357 : decode cL_law 357 = .ok (.iadd, 1) := by decide +kernel
theorem dL_law_358 : decode cL_law 358 = .ok (.iaload, 1) := by decide +kernel
theorem dL_law_359 : decode cL_law 359 = .ok (.invokevirtual 80, 3) := by decide +kernel
theorem dL_law_362 : decode cL_law 362 = .ok (.istore 6, 2) := by decide +kernel
theorem dL_law_364 : decode cL_law 364 = .ok (.aload_n 2, 1) := by decide +kernel
theorem dL_law_365 : decode cL_law 365 = .ok (.invokevirtual 66, 3) := by decide +kernel
theorem dL_law_368 : decode cL_law 368 = .ok (.iload 5, 2) := by decide +kernel
theorem dL_law_370 : decode cL_law 370 = .ok (.if_icmp .eq 5, 3) := by decide +kernel
theorem dL_law_373 : decode cL_law 373 = .ok (.iconst 0, 1) := by decide +kernel
theorem dL_law_374 : decode cL_law 374 = .ok (.ireturn, 1) := by decide +kernel
theorem dL_law_375 : decode cL_law 375 = .ok (.iload 5, 2) := by decide +kernel
theorem dL_law_377 : decode cL_law 377 = .ok (.ifCond .ne 15, 3) := by decide +kernel
theorem dL_law_380 : decode cL_law 380 = .ok (.aload_n 3, 1) := by decide +kernel
theorem dL_law_381 : decode cL_law 381 = .ok (.iconst 0, 1) := by decide +kernel
theorem dL_law_382 : decode cL_law 382 = .ok (.laload, 1) := by decide +kernel
theorem dL_law_383 : decode cL_law 383 = .ok (.iload 6, 2) := by decide +kernel
theorem dL_law_385 : decode cL_law 385 = .ok (.i2l, 1) := by decide +kernel
theorem dL_law_386 : decode cL_law 386 = .ok (.lcmp, 1) := by decide +kernel
theorem dL_law_387 : decode cL_law 387 = .ok (.ifCond .eq 5, 3) := by decide +kernel
theorem dL_law_390 : decode cL_law 390 = .ok (.iconst 0, 1) := by decide +kernel
theorem dL_law_391 : decode cL_law 391 = .ok (.ireturn, 1) := by decide +kernel
theorem dL_law_392 : decode cL_law 392 = .ok (.goto 445, 3) := by decide +kernel
theorem dL_law_395 : decode cL_law 395 = .ok (.aload_n 1, 1) := by decide +kernel
theorem dL_law_396 : decode cL_law 396 = .ok (.aload_n 0, 1) := by decide +kernel
theorem dL_law_397 : decode cL_law 397 = .ok (.iload 4, 2) := by decide +kernel
theorem dL_law_399 : decode cL_law 399 = .ok (.iconst 1, 1) := by decide +kernel
theorem dL_law_400 : decode cL_law 400 = .ok (.iadd, 1) := by decide +kernel
theorem dL_law_401 : decode cL_law 401 = .ok (.iaload, 1) := by decide +kernel
theorem dL_law_402 : decode cL_law 402 = .ok (.aload_n 0, 1) := by decide +kernel
theorem dL_law_403 : decode cL_law 403 = .ok (.iload 4, 2) := by decide +kernel
theorem dL_law_405 : decode cL_law 405 = .ok (.iconst 2, 1) := by decide +kernel
theorem dL_law_406 : decode cL_law 406 = .ok (.iadd, 1) := by decide +kernel
theorem dL_law_407 : decode cL_law 407 = .ok (.iaload, 1) := by decide +kernel
theorem dL_law_408 : decode cL_law 408 = .ok (.aload_n 0, 1) := by decide +kernel
theorem dL_law_409 : decode cL_law 409 = .ok (.iload 4, 2) := by decide +kernel
theorem dL_law_411 : decode cL_law 411 = .ok (.iconst 3, 1) := by decide +kernel
theorem dL_law_412 : decode cL_law 412 = .ok (.iadd, 1) := by decide +kernel
theorem dL_law_413 : decode cL_law 413 = .ok (.iaload, 1) := by decide +kernel
theorem dL_law_414 : decode cL_law 414 = .ok (.aload_n 3, 1) := by decide +kernel
theorem dL_law_415 : decode cL_law 415 = .ok (.invokestatic 81, 3) := by decide +kernel
theorem dL_law_418 : decode cL_law 418 = .ok (.istore 5, 2) := by decide +kernel
theorem dL_law_420 : decode cL_law 420 = .ok (.aload_n 2, 1) := by decide +kernel
theorem dL_law_421 : decode cL_law 421 = .ok (.aload_n 0, 1) := by decide +kernel
theorem dL_law_422 : decode cL_law 422 = .ok (.iload 4, 2) := by decide +kernel
theorem dL_law_424 : decode cL_law 424 = .ok (.iconst 1, 1) := by decide +kernel
theorem dL_law_425 : decode cL_law 425 = .ok (.iadd, 1) := by decide +kernel
theorem dL_law_426 : decode cL_law 426 = .ok (.iaload, 1) := by decide +kernel
theorem dL_law_427 : decode cL_law 427 = .ok (.aload_n 0, 1) := by decide +kernel
theorem dL_law_428 : decode cL_law 428 = .ok (.iload 4, 2) := by decide +kernel
theorem dL_law_430 : decode cL_law 430 = .ok (.iconst 2, 1) := by decide +kernel
theorem dL_law_431 : decode cL_law 431 = .ok (.iadd, 1) := by decide +kernel
theorem dL_law_432 : decode cL_law 432 = .ok (.iaload, 1) := by decide +kernel
theorem dL_law_433 : decode cL_law 433 = .ok (.aload_n 0, 1) := by decide +kernel
theorem dL_law_434 : decode cL_law 434 = .ok (.iload 4, 2) := by decide +kernel
theorem dL_law_436 : decode cL_law 436 = .ok (.iconst 3, 1) := by decide +kernel
theorem dL_law_437 : decode cL_law 437 = .ok (.iadd, 1) := by decide +kernel
theorem dL_law_438 : decode cL_law 438 = .ok (.iaload, 1) := by decide +kernel
theorem dL_law_439 : decode cL_law 439 = .ok (.invokevirtual 83, 3) := by decide +kernel
theorem dL_law_442 : decode cL_law 442 = .ok (.istore 6, 2) := by decide +kernel
theorem dL_law_444 : decode cL_law 444 = .ok (.aload_n 2, 1) := by decide +kernel
theorem dL_law_445 : decode cL_law 445 = .ok (.invokevirtual 66, 3) := by decide +kernel
theorem dL_law_448 : decode cL_law 448 = .ok (.iload 5, 2) := by decide +kernel
theorem dL_law_450 : decode cL_law 450 = .ok (.if_icmp .eq 5, 3) := by decide +kernel
theorem dL_law_453 : decode cL_law 453 = .ok (.iconst 0, 1) := by decide +kernel
theorem dL_law_454 : decode cL_law 454 = .ok (.ireturn, 1) := by decide +kernel
theorem dL_law_455 : decode cL_law 455 = .ok (.iload 5, 2) := by decide +kernel
theorem dL_law_457 : decode cL_law 457 = .ok (.ifCond .ne 15, 3) := by decide +kernel
theorem dL_law_460 : decode cL_law 460 = .ok (.aload_n 3, 1) := by decide +kernel
theorem dL_law_461 : decode cL_law 461 = .ok (.iconst 0, 1) := by decide +kernel
theorem dL_law_462 : decode cL_law 462 = .ok (.laload, 1) := by decide +kernel
theorem dL_law_463 : decode cL_law 463 = .ok (.iload 6, 2) := by decide +kernel
theorem dL_law_465 : decode cL_law 465 = .ok (.i2l, 1) := by decide +kernel
theorem dL_law_466 : decode cL_law 466 = .ok (.lcmp, 1) := by decide +kernel
theorem dL_law_467 : decode cL_law 467 = .ok (.ifCond .eq 5, 3) := by decide +kernel
theorem dL_law_470 : decode cL_law 470 = .ok (.iconst 0, 1) := by decide +kernel
theorem dL_law_471 : decode cL_law 471 = .ok (.ireturn, 1) := by decide +kernel
theorem dL_law_472 : decode cL_law 472 = .ok (.goto 365, 3) := by decide +kernel
theorem dL_law_475 : decode cL_law 475 = .ok (.aload_n 1, 1) := by decide +kernel
theorem dL_law_476 : decode cL_law 476 = .ok (.aload_n 0, 1) := by decide +kernel
theorem dL_law_477 : decode cL_law 477 = .ok (.iload 4, 2) := by decide +kernel
theorem dL_law_479 : decode cL_law 479 = .ok (.iconst 1, 1) := by decide +kernel
theorem dL_law_480 : decode cL_law 480 = .ok (.iadd, 1) := by decide +kernel
theorem dL_law_481 : decode cL_law 481 = .ok (.iaload, 1) := by decide +kernel
theorem dL_law_482 : decode cL_law 482 = .ok (.aload_n 3, 1) := by decide +kernel
theorem dL_law_483 : decode cL_law 483 = .ok (.invokestatic 84, 3) := by decide +kernel
theorem dL_law_486 : decode cL_law 486 = .ok (.istore 5, 2) := by decide +kernel
theorem dL_law_488 : decode cL_law 488 = .ok (.aload_n 2, 1) := by decide +kernel
theorem dL_law_489 : decode cL_law 489 = .ok (.aload_n 0, 1) := by decide +kernel
theorem dL_law_490 : decode cL_law 490 = .ok (.iload 4, 2) := by decide +kernel
theorem dL_law_492 : decode cL_law 492 = .ok (.iconst 1, 1) := by decide +kernel
theorem dL_law_493 : decode cL_law 493 = .ok (.iadd, 1) := by decide +kernel
theorem dL_law_494 : decode cL_law 494 = .ok (.iaload, 1) := by decide +kernel
theorem dL_law_495 : decode cL_law 495 = .ok (.invokevirtual 86, 3) := by decide +kernel
theorem dL_law_498 : decode cL_law 498 = .ok (.istore 6, 2) := by decide +kernel
theorem dL_law_500 : decode cL_law 500 = .ok (.aload_n 2, 1) := by decide +kernel
theorem dL_law_501 : decode cL_law 501 = .ok (.invokevirtual 66, 3) := by decide +kernel
theorem dL_law_504 : decode cL_law 504 = .ok (.iload 5, 2) := by decide +kernel
theorem dL_law_506 : decode cL_law 506 = .ok (.if_icmp .eq 5, 3) := by decide +kernel
theorem dL_law_509 : decode cL_law 509 = .ok (.iconst 0, 1) := by decide +kernel
theorem dL_law_510 : decode cL_law 510 = .ok (.ireturn, 1) := by decide +kernel
theorem dL_law_511 : decode cL_law 511 = .ok (.iload 5, 2) := by decide +kernel
theorem dL_law_513 : decode cL_law 513 = .ok (.ifCond .ne 15, 3) := by decide +kernel
theorem dL_law_516 : decode cL_law 516 = .ok (.aload_n 3, 1) := by decide +kernel
theorem dL_law_517 : decode cL_law 517 = .ok (.iconst 0, 1) := by decide +kernel
theorem dL_law_518 : decode cL_law 518 = .ok (.laload, 1) := by decide +kernel
theorem dL_law_519 : decode cL_law 519 = .ok (.iload 6, 2) := by decide +kernel
theorem dL_law_521 : decode cL_law 521 = .ok (.i2l, 1) := by decide +kernel
theorem dL_law_522 : decode cL_law 522 = .ok (.lcmp, 1) := by decide +kernel
theorem dL_law_523 : decode cL_law 523 = .ok (.ifCond .eq 5, 3) := by decide +kernel
theorem dL_law_526 : decode cL_law 526 = .ok (.iconst 0, 1) := by decide +kernel
theorem dL_law_527 : decode cL_law 527 = .ok (.ireturn, 1) := by decide +kernel
theorem dL_law_528 : decode cL_law 528 = .ok (.goto 309, 3) := by decide +kernel
theorem dL_law_531 : decode cL_law 531 = .ok (.aload_n 1, 1) := by decide +kernel
theorem dL_law_532 : decode cL_law 532 = .ok (.aload_n 0, 1) := by decide +kernel
theorem dL_law_533 : decode cL_law 533 = .ok (.iload 4, 2) := by decide +kernel
theorem dL_law_535 : decode cL_law 535 = .ok (.iconst 1, 1) := by decide +kernel
theorem dL_law_536 : decode cL_law 536 = .ok (.iadd, 1) := by decide +kernel
theorem dL_law_537 : decode cL_law 537 = .ok (.iaload, 1) := by decide +kernel
theorem dL_law_538 : decode cL_law 538 = .ok (.aload_n 0, 1) := by decide +kernel
theorem dL_law_539 : decode cL_law 539 = .ok (.iload 4, 2) := by decide +kernel
theorem dL_law_541 : decode cL_law 541 = .ok (.iconst 2, 1) := by decide +kernel
theorem dL_law_542 : decode cL_law 542 = .ok (.iadd, 1) := by decide +kernel
theorem dL_law_543 : decode cL_law 543 = .ok (.iaload, 1) := by decide +kernel
theorem dL_law_544 : decode cL_law 544 = .ok (.aload_n 3, 1) := by decide +kernel
theorem dL_law_545 : decode cL_law 545 = .ok (.invokestatic 87, 3) := by decide +kernel
theorem dL_law_548 : decode cL_law 548 = .ok (.istore 5, 2) := by decide +kernel
theorem dL_law_550 : decode cL_law 550 = .ok (.aload_n 2, 1) := by decide +kernel
theorem dL_law_551 : decode cL_law 551 = .ok (.aload_n 0, 1) := by decide +kernel
theorem dL_law_552 : decode cL_law 552 = .ok (.iload 4, 2) := by decide +kernel
theorem dL_law_554 : decode cL_law 554 = .ok (.iconst 1, 1) := by decide +kernel
theorem dL_law_555 : decode cL_law 555 = .ok (.iadd, 1) := by decide +kernel
theorem dL_law_556 : decode cL_law 556 = .ok (.iaload, 1) := by decide +kernel
theorem dL_law_557 : decode cL_law 557 = .ok (.aload_n 0, 1) := by decide +kernel
theorem dL_law_558 : decode cL_law 558 = .ok (.iload 4, 2) := by decide +kernel
theorem dL_law_560 : decode cL_law 560 = .ok (.iconst 2, 1) := by decide +kernel
theorem dL_law_561 : decode cL_law 561 = .ok (.iadd, 1) := by decide +kernel
theorem dL_law_562 : decode cL_law 562 = .ok (.iaload, 1) := by decide +kernel
theorem dL_law_563 : decode cL_law 563 = .ok (.invokevirtual 90, 3) := by decide +kernel
theorem dL_law_566 : decode cL_law 566 = .ok (.istore 6, 2) := by decide +kernel
theorem dL_law_568 : decode cL_law 568 = .ok (.aload_n 2, 1) := by decide +kernel
theorem dL_law_569 : decode cL_law 569 = .ok (.invokevirtual 66, 3) := by decide +kernel
theorem dL_law_572 : decode cL_law 572 = .ok (.iload 5, 2) := by decide +kernel
theorem dL_law_574 : decode cL_law 574 = .ok (.if_icmp .eq 5, 3) := by decide +kernel
theorem dL_law_577 : decode cL_law 577 = .ok (.iconst 0, 1) := by decide +kernel
theorem dL_law_578 : decode cL_law 578 = .ok (.ireturn, 1) := by decide +kernel
theorem dL_law_579 : decode cL_law 579 = .ok (.iload 5, 2) := by decide +kernel
theorem dL_law_581 : decode cL_law 581 = .ok (.ifCond .ne 22, 3) := by decide +kernel
theorem dL_law_584 : decode cL_law 584 = .ok (.aload_n 3, 1) := by decide +kernel
theorem dL_law_585 : decode cL_law 585 = .ok (.iconst 0, 1) := by decide +kernel
theorem dL_law_586 : decode cL_law 586 = .ok (.laload, 1) := by decide +kernel
theorem dL_law_587 : decode cL_law 587 = .ok (.iload 6, 2) := by decide +kernel
theorem dL_law_589 : decode cL_law 589 = .ok (.ifCond .eq 7, 3) := by decide +kernel
theorem dL_law_592 : decode cL_law 592 = .ok (.lconst 1, 1) := by decide +kernel
theorem dL_law_593 : decode cL_law 593 = .ok (.goto 4, 3) := by decide +kernel
theorem dL_law_596 : decode cL_law 596 = .ok (.lconst 0, 1) := by decide +kernel
theorem dL_law_597 : decode cL_law 597 = .ok (.lcmp, 1) := by decide +kernel
theorem dL_law_598 : decode cL_law 598 = .ok (.ifCond .eq 5, 3) := by decide +kernel
theorem dL_law_601 : decode cL_law 601 = .ok (.iconst 0, 1) := by decide +kernel
theorem dL_law_602 : decode cL_law 602 = .ok (.ireturn, 1) := by decide +kernel
theorem dL_law_603 : decode cL_law 603 = .ok (.goto 234, 3) := by decide +kernel
theorem dL_law_606 : decode cL_law 606 = .ok (.aload_n 1, 1) := by decide +kernel
theorem dL_law_607 : decode cL_law 607 = .ok (.aload_n 0, 1) := by decide +kernel
theorem dL_law_608 : decode cL_law 608 = .ok (.iload 4, 2) := by decide +kernel
theorem dL_law_610 : decode cL_law 610 = .ok (.iconst 1, 1) := by decide +kernel
theorem dL_law_611 : decode cL_law 611 = .ok (.iadd, 1) := by decide +kernel
theorem dL_law_612 : decode cL_law 612 = .ok (.iaload, 1) := by decide +kernel
theorem dL_law_613 : decode cL_law 613 = .ok (.aload_n 3, 1) := by decide +kernel
theorem dL_law_614 : decode cL_law 614 = .ok (.invokestatic 91, 3) := by decide +kernel
theorem dL_law_617 : decode cL_law 617 = .ok (.istore 5, 2) := by decide +kernel
theorem dL_law_619 : decode cL_law 619 = .ok (.aload_n 2, 1) := by decide +kernel
theorem dL_law_620 : decode cL_law 620 = .ok (.aload_n 0, 1) := by decide +kernel
theorem dL_law_621 : decode cL_law 621 = .ok (.iload 4, 2) := by decide +kernel
theorem dL_law_623 : decode cL_law 623 = .ok (.iconst 1, 1) := by decide +kernel
theorem dL_law_624 : decode cL_law 624 = .ok (.iadd, 1) := by decide +kernel
theorem dL_law_625 : decode cL_law 625 = .ok (.iaload, 1) := by decide +kernel
theorem dL_law_626 : decode cL_law 626 = .ok (.invokevirtual 93, 3) := by decide +kernel
theorem dL_law_629 : decode cL_law 629 = .ok (.istore 6, 2) := by decide +kernel
theorem dL_law_631 : decode cL_law 631 = .ok (.aload_n 2, 1) := by decide +kernel
theorem dL_law_632 : decode cL_law 632 = .ok (.invokevirtual 66, 3) := by decide +kernel
theorem dL_law_635 : decode cL_law 635 = .ok (.iload 5, 2) := by decide +kernel
theorem dL_law_637 : decode cL_law 637 = .ok (.if_icmp .eq 5, 3) := by decide +kernel
theorem dL_law_640 : decode cL_law 640 = .ok (.iconst 0, 1) := by decide +kernel
theorem dL_law_641 : decode cL_law 641 = .ok (.ireturn, 1) := by decide +kernel
theorem dL_law_642 : decode cL_law 642 = .ok (.iload 5, 2) := by decide +kernel
theorem dL_law_644 : decode cL_law 644 = .ok (.ifCond .ne 15, 3) := by decide +kernel
theorem dL_law_647 : decode cL_law 647 = .ok (.aload_n 3, 1) := by decide +kernel
theorem dL_law_648 : decode cL_law 648 = .ok (.iconst 0, 1) := by decide +kernel
theorem dL_law_649 : decode cL_law 649 = .ok (.laload, 1) := by decide +kernel
theorem dL_law_650 : decode cL_law 650 = .ok (.iload 6, 2) := by decide +kernel
theorem dL_law_652 : decode cL_law 652 = .ok (.i2l, 1) := by decide +kernel
theorem dL_law_653 : decode cL_law 653 = .ok (.lcmp, 1) := by decide +kernel
theorem dL_law_654 : decode cL_law 654 = .ok (.ifCond .eq 5, 3) := by decide +kernel
theorem dL_law_657 : decode cL_law 657 = .ok (.iconst 0, 1) := by decide +kernel
theorem dL_law_658 : decode cL_law 658 = .ok (.ireturn, 1) := by decide +kernel
theorem dL_law_659 : decode cL_law 659 = .ok (.goto 178, 3) := by decide +kernel
theorem dL_law_662 : decode cL_law 662 = .ok (.aload_n 1, 1) := by decide +kernel
theorem dL_law_663 : decode cL_law 663 = .ok (.invokevirtual 94, 3) := by decide +kernel
theorem dL_law_666 : decode cL_law 666 = .ok (.aload_n 2, 1) := by decide +kernel
theorem dL_law_667 : decode cL_law 667 = .ok (.invokevirtual 97, 3) := by decide +kernel
theorem dL_law_670 : decode cL_law 670 = .ok (.if_icmp .eq 167, 3) := by decide +kernel
theorem dL_law_673 : decode cL_law 673 = .ok (.iconst 0, 1) := by decide +kernel
theorem dL_law_674 : decode cL_law 674 = .ok (.ireturn, 1) := by decide +kernel
theorem dL_law_675 : decode cL_law 675 = .ok (.aload_n 1, 1) := by decide +kernel
theorem dL_law_676 : decode cL_law 676 = .ok (.aload_n 0, 1) := by decide +kernel
theorem dL_law_677 : decode cL_law 677 = .ok (.iload 4, 2) := by decide +kernel
theorem dL_law_679 : decode cL_law 679 = .ok (.iconst 1, 1) := by decide +kernel
theorem dL_law_680 : decode cL_law 680 = .ok (.iadd, 1) := by decide +kernel
theorem dL_law_681 : decode cL_law 681 = .ok (.iaload, 1) := by decide +kernel
theorem dL_law_682 : decode cL_law 682 = .ok (.aload_n 3, 1) := by decide +kernel
theorem dL_law_683 : decode cL_law 683 = .ok (.invokestatic 98, 3) := by decide +kernel
theorem dL_law_686 : decode cL_law 686 = .ok (.istore 5, 2) := by decide +kernel
theorem dL_law_688 : decode cL_law 688 = .ok (.aload_n 2, 1) := by decide +kernel
theorem dL_law_689 : decode cL_law 689 = .ok (.aload_n 0, 1) := by decide +kernel
theorem dL_law_690 : decode cL_law 690 = .ok (.iload 4, 2) := by decide +kernel
theorem dL_law_692 : decode cL_law 692 = .ok (.iconst 1, 1) := by decide +kernel
theorem dL_law_693 : decode cL_law 693 = .ok (.iadd, 1) := by decide +kernel
theorem dL_law_694 : decode cL_law 694 = .ok (.iaload, 1) := by decide +kernel
theorem dL_law_695 : decode cL_law 695 = .ok (.invokevirtual 100, 3) := by decide +kernel
theorem dL_law_698 : decode cL_law 698 = .ok (.istore 6, 2) := by decide +kernel
theorem dL_law_700 : decode cL_law 700 = .ok (.aload_n 2, 1) := by decide +kernel
theorem dL_law_701 : decode cL_law 701 = .ok (.invokevirtual 66, 3) := by decide +kernel
theorem dL_law_704 : decode cL_law 704 = .ok (.iload 5, 2) := by decide +kernel
theorem dL_law_706 : decode cL_law 706 = .ok (.if_icmp .eq 5, 3) := by decide +kernel
theorem dL_law_709 : decode cL_law 709 = .ok (.iconst 0, 1) := by decide +kernel
theorem dL_law_710 : decode cL_law 710 = .ok (.ireturn, 1) := by decide +kernel
theorem dL_law_711 : decode cL_law 711 = .ok (.iload 5, 2) := by decide +kernel
theorem dL_law_713 : decode cL_law 713 = .ok (.ifCond .ne 15, 3) := by decide +kernel
theorem dL_law_716 : decode cL_law 716 = .ok (.aload_n 3, 1) := by decide +kernel
theorem dL_law_717 : decode cL_law 717 = .ok (.iconst 0, 1) := by decide +kernel
theorem dL_law_718 : decode cL_law 718 = .ok (.laload, 1) := by decide +kernel
theorem dL_law_719 : decode cL_law 719 = .ok (.iload 6, 2) := by decide +kernel
theorem dL_law_721 : decode cL_law 721 = .ok (.i2l, 1) := by decide +kernel
theorem dL_law_722 : decode cL_law 722 = .ok (.lcmp, 1) := by decide +kernel
theorem dL_law_723 : decode cL_law 723 = .ok (.ifCond .eq 5, 3) := by decide +kernel
theorem dL_law_726 : decode cL_law 726 = .ok (.iconst 0, 1) := by decide +kernel
theorem dL_law_727 : decode cL_law 727 = .ok (.ireturn, 1) := by decide +kernel
theorem dL_law_728 : decode cL_law 728 = .ok (.goto 109, 3) := by decide +kernel
theorem dL_law_731 : decode cL_law 731 = .ok (.aload_n 1, 1) := by decide +kernel
theorem dL_law_732 : decode cL_law 732 = .ok (.invokevirtual 101, 3) := by decide +kernel
theorem dL_law_735 : decode cL_law 735 = .ok (.aload_n 2, 1) := by decide +kernel
theorem dL_law_736 : decode cL_law 736 = .ok (.invokevirtual 104, 3) := by decide +kernel
theorem dL_law_739 : decode cL_law 739 = .ok (.if_icmp .eq 98, 3) := by decide +kernel
theorem dL_law_742 : decode cL_law 742 = .ok (.iconst 0, 1) := by decide +kernel
theorem dL_law_743 : decode cL_law 743 = .ok (.ireturn, 1) := by decide +kernel
theorem dL_law_744 : decode cL_law 744 = .ok (.aload_n 1, 1) := by decide +kernel
theorem dL_law_745 : decode cL_law 745 = .ok (.aload_n 0, 1) := by decide +kernel
theorem dL_law_746 : decode cL_law 746 = .ok (.iload 4, 2) := by decide +kernel
theorem dL_law_748 : decode cL_law 748 = .ok (.iconst 1, 1) := by decide +kernel
theorem dL_law_749 : decode cL_law 749 = .ok (.iadd, 1) := by decide +kernel
theorem dL_law_750 : decode cL_law 750 = .ok (.iaload, 1) := by decide +kernel
theorem dL_law_751 : decode cL_law 751 = .ok (.aload_n 0, 1) := by decide +kernel
theorem dL_law_752 : decode cL_law 752 = .ok (.iload 4, 2) := by decide +kernel
theorem dL_law_754 : decode cL_law 754 = .ok (.iconst 2, 1) := by decide +kernel
theorem dL_law_755 : decode cL_law 755 = .ok (.iadd, 1) := by decide +kernel
theorem dL_law_756 : decode cL_law 756 = .ok (.iaload, 1) := by decide +kernel
theorem dL_law_757 : decode cL_law 757 = .ok (.aload_n 3, 1) := by decide +kernel
theorem dL_law_758 : decode cL_law 758 = .ok (.invokestatic 105, 3) := by decide +kernel
theorem dL_law_761 : decode cL_law 761 = .ok (.istore 5, 2) := by decide +kernel
theorem dL_law_763 : decode cL_law 763 = .ok (.aload_n 2, 1) := by decide +kernel
theorem dL_law_764 : decode cL_law 764 = .ok (.aload_n 0, 1) := by decide +kernel
theorem dL_law_765 : decode cL_law 765 = .ok (.iload 4, 2) := by decide +kernel
theorem dL_law_767 : decode cL_law 767 = .ok (.iconst 1, 1) := by decide +kernel
theorem dL_law_768 : decode cL_law 768 = .ok (.iadd, 1) := by decide +kernel
theorem dL_law_769 : decode cL_law 769 = .ok (.iaload, 1) := by decide +kernel
theorem dL_law_770 : decode cL_law 770 = .ok (.aload_n 0, 1) := by decide +kernel
theorem dL_law_771 : decode cL_law 771 = .ok (.iload 4, 2) := by decide +kernel
theorem dL_law_773 : decode cL_law 773 = .ok (.iconst 2, 1) := by decide +kernel
theorem dL_law_774 : decode cL_law 774 = .ok (.iadd, 1) := by decide +kernel
theorem dL_law_775 : decode cL_law 775 = .ok (.iaload, 1) := by decide +kernel
theorem dL_law_776 : decode cL_law 776 = .ok (.invokevirtual 107, 3) := by decide +kernel
theorem dL_law_779 : decode cL_law 779 = .ok (.istore 6, 2) := by decide +kernel
theorem dL_law_781 : decode cL_law 781 = .ok (.aload_n 2, 1) := by decide +kernel
theorem dL_law_782 : decode cL_law 782 = .ok (.invokevirtual 66, 3) := by decide +kernel
theorem dL_law_785 : decode cL_law 785 = .ok (.iload 5, 2) := by decide +kernel
theorem dL_law_787 : decode cL_law 787 = .ok (.if_icmp .eq 5, 3) := by decide +kernel
theorem dL_law_790 : decode cL_law 790 = .ok (.iconst 0, 1) := by decide +kernel
theorem dL_law_791 : decode cL_law 791 = .ok (.ireturn, 1) := by decide +kernel
theorem dL_law_792 : decode cL_law 792 = .ok (.iload 5, 2) := by decide +kernel
theorem dL_law_794 : decode cL_law 794 = .ok (.ifCond .ne 15, 3) := by decide +kernel
theorem dL_law_797 : decode cL_law 797 = .ok (.aload_n 3, 1) := by decide +kernel
theorem dL_law_798 : decode cL_law 798 = .ok (.iconst 0, 1) := by decide +kernel
theorem dL_law_799 : decode cL_law 799 = .ok (.laload, 1) := by decide +kernel
theorem dL_law_800 : decode cL_law 800 = .ok (.iload 6, 2) := by decide +kernel
theorem dL_law_802 : decode cL_law 802 = .ok (.i2l, 1) := by decide +kernel
theorem dL_law_803 : decode cL_law 803 = .ok (.lcmp, 1) := by decide +kernel
theorem dL_law_804 : decode cL_law 804 = .ok (.ifCond .eq 5, 3) := by decide +kernel
theorem dL_law_807 : decode cL_law 807 = .ok (.iconst 0, 1) := by decide +kernel
theorem dL_law_808 : decode cL_law 808 = .ok (.ireturn, 1) := by decide +kernel
theorem dL_law_809 : decode cL_law 809 = .ok (.goto 28, 3) := by decide +kernel
theorem dL_law_812 : decode cL_law 812 = .ok (.aload_n 1, 1) := by decide +kernel
theorem dL_law_813 : decode cL_law 813 = .ok (.aload_n 0, 1) := by decide +kernel
theorem dL_law_814 : decode cL_law 814 = .ok (.iload 4, 2) := by decide +kernel
theorem dL_law_816 : decode cL_law 816 = .ok (.iconst 1, 1) := by decide +kernel
theorem dL_law_817 : decode cL_law 817 = .ok (.iadd, 1) := by decide +kernel
theorem dL_law_818 : decode cL_law 818 = .ok (.iaload, 1) := by decide +kernel
theorem dL_law_819 : decode cL_law 819 = .ok (.invokevirtual 108, 3) := by decide +kernel
theorem dL_law_822 : decode cL_law 822 = .ok (.aload_n 2, 1) := by decide +kernel
theorem dL_law_823 : decode cL_law 823 = .ok (.aload_n 0, 1) := by decide +kernel
theorem dL_law_824 : decode cL_law 824 = .ok (.iload 4, 2) := by decide +kernel
theorem dL_law_826 : decode cL_law 826 = .ok (.iconst 1, 1) := by decide +kernel
theorem dL_law_827 : decode cL_law 827 = .ok (.iadd, 1) := by decide +kernel
theorem dL_law_828 : decode cL_law 828 = .ok (.iaload, 1) := by decide +kernel
theorem dL_law_829 : decode cL_law 829 = .ok (.invokevirtual 111, 3) := by decide +kernel
theorem dL_law_832 : decode cL_law 832 = .ok (.if_icmp .eq 5, 3) := by decide +kernel
theorem dL_law_835 : decode cL_law 835 = .ok (.iconst 0, 1) := by decide +kernel
theorem dL_law_836 : decode cL_law 836 = .ok (.ireturn, 1) := by decide +kernel
theorem dL_law_837 : decode cL_law 837 = .ok (.iinc 4 4, 3) := by decide +kernel
theorem dL_law_840 : decode cL_law 840 = .ok (.goto (-797), 3) := by decide +kernel
theorem dL_law_843 : decode cL_law 843 = .ok (.iconst 1, 1) := by decide +kernel
theorem dL_law_844 : decode cL_law 844 = .ok (.ireturn, 1) := by decide +kernel
end
section
/-! the memory of this proof: cells have names (abstract addresses) that a map ρ sends to places of the heap; the contents are four functions -/
/-- all words that stay good -/
def AW : List Cond := lw_tbl.filter goodWord
theorem aw_of {w : Cond} (i : Nat) (h : lw_tbl[i]? = some w) (g : goodWord w = true) : w ∈ AW := List.mem_filter.mpr ⟨List.mem_of_getElem? h, g⟩
theorem aw_tbl {w : Cond} (h : w ∈ AW) : w ∈ lw_tbl := (List.mem_filter.mp h).1
theorem aw_good {w : Cond} (h : w ∈ AW) : goodWord w = true := (List.mem_filter.mp h).2
theorem aw_goodIn {big : List Cond} {c : Cond} (hb : ∀ w ∈ AW, w ∈ big) (hc : c ∈ AW) : GoodIn big (c :: AW) := fun w h => by
  rcases List.mem_cons.mp h with e | h
  · rw [e]; exact ⟨hb c hc, good_of_word (aw_good hc)⟩
  · exact ⟨hb w h, good_of_word (aw_good h)⟩
abbrev mcl : List vw_C := [(RX0, TX0, 8), (RX1, TX1, 7), (RX2, TX2, 4), (RX3, TX3, 6), (RX4, TX4, 3), (RX5, TX5, 2), (RX6, TX6, 22)]
def mty (ci : Nat) : Nat → FieldType := match ci with
  | 0 => tyX0
  | 1 => tyX1
  | 2 => tyX2
  | 3 => tyX3
  | 4 => tyX4
  | 5 => tyX5
  | _ => tyX6
def mar (ci : Nat) : Nat := match ci with
  | 0 => 8
  | 1 => 7
  | 2 => 4
  | 3 => 6
  | 4 => 3
  | 5 => 2
  | _ => 22
def mrf (ci k : Nat) : Bool := match mty ci k with
  | .int => false
  | .boolean => false
  | _ => true
/-- the type of an array's places, by the array's kind -/
def mat (t : Nat) : FieldType := match t with
  | 0 => .int
  | 1 => .boolean
  | 2 => .long
  | 3 => .object RX1
  | _ => .object RX3
/-- an object of a class; an array of a kind and a length -/
abbrev mS : Type := Nat ⊕ (Nat × Nat)
abbrev mM : Type := (Nat → Option mS) × (Nat → Nat → Int32) × (Nat → Nat → Option Nat) × (Nat → Nat → Int64)
abbrev mG : Type := va_G × (Nat → ClassId)
def sh (μ : mM) (a : Nat) : Option mS := μ.1 a
def mi (μ : mM) (a k : Nat) : Int32 := μ.2.1 a k
def mq (μ : mM) (a k : Nat) : Option Nat := μ.2.2.1 a k
def mj (μ : mM) (a k : Nat) : Int64 := μ.2.2.2 a k
def setI (μ : mM) (a k : Nat) (v : Int32) : mM := (μ.1, fun b j => if b = a ∧ j = k then v else μ.2.1 b j, μ.2.2)
def setQ (μ : mM) (a k : Nat) (v : Option Nat) : mM := (μ.1, μ.2.1, fun b j => if b = a ∧ j = k then v else μ.2.2.1 b j, μ.2.2.2)
def setJ (μ : mM) (a k : Nat) (v : Int64) : mM := (μ.1, μ.2.1, μ.2.2.1, fun b j => if b = a ∧ j = k then v else μ.2.2.2 b j)
def newC (μ : mM) (a : Nat) (x : mS) : mM := (fun b => if b = a then some x else μ.1 b, fun b j => if b = a then 0 else μ.2.1 b j, fun b j => if b = a then none else μ.2.2.1 b j, fun b j => if b = a then 0 else μ.2.2.2 b j)
theorem sh_I (μ : mM) (a k : Nat) (v : Int32) (b : Nat) : sh (setI μ a k v) b = sh μ b := rfl
theorem sh_Q (μ : mM) (a k : Nat) (v : Option Nat) (b : Nat) : sh (setQ μ a k v) b = sh μ b := rfl
theorem sh_J (μ : mM) (a k : Nat) (v : Int64) (b : Nat) : sh (setJ μ a k v) b = sh μ b := rfl
theorem sh_N (μ : mM) (a : Nat) (x : mS) (b : Nat) : sh (newC μ a x) b = if b = a then some x else sh μ b := rfl
theorem mi_I (μ : mM) (a k : Nat) (v : Int32) (b j : Nat) : mi (setI μ a k v) b j = if b = a ∧ j = k then v else mi μ b j := rfl
theorem mi_Q (μ : mM) (a k : Nat) (v : Option Nat) (b j : Nat) : mi (setQ μ a k v) b j = mi μ b j := rfl
theorem mi_J (μ : mM) (a k : Nat) (v : Int64) (b j : Nat) : mi (setJ μ a k v) b j = mi μ b j := rfl
theorem mi_N (μ : mM) (a : Nat) (x : mS) (b j : Nat) : mi (newC μ a x) b j = if b = a then 0 else mi μ b j := rfl
theorem mq_I (μ : mM) (a k : Nat) (v : Int32) (b j : Nat) : mq (setI μ a k v) b j = mq μ b j := rfl
theorem mq_Q (μ : mM) (a k : Nat) (v : Option Nat) (b j : Nat) : mq (setQ μ a k v) b j = if b = a ∧ j = k then v else mq μ b j := rfl
theorem mq_J (μ : mM) (a k : Nat) (v : Int64) (b j : Nat) : mq (setJ μ a k v) b j = mq μ b j := rfl
theorem mq_N (μ : mM) (a : Nat) (x : mS) (b j : Nat) : mq (newC μ a x) b j = if b = a then none else mq μ b j := rfl
theorem mj_I (μ : mM) (a k : Nat) (v : Int32) (b j : Nat) : mj (setI μ a k v) b j = mj μ b j := rfl
theorem mj_Q (μ : mM) (a k : Nat) (v : Option Nat) (b j : Nat) : mj (setQ μ a k v) b j = mj μ b j := rfl
theorem mj_J (μ : mM) (a k : Nat) (v : Int64) (b j : Nat) : mj (setJ μ a k v) b j = if b = a ∧ j = k then v else mj μ b j := rfl
theorem mj_N (μ : mM) (a : Nat) (x : mS) (b j : Nat) : mj (newC μ a x) b j = if b = a then 0 else mj μ b j := rfl
/-- an object's fields, as the kit has them -/
def mfl (ci : Nat) (I : Nat → Int32) (Q : Nat → Option Nat) : List Value := (List.range (mar ci)).map (fun k => if mrf ci k = true then va_rf (Q k) else .int (I k))
def mrd (G : mG) (ρ : Nat → Nat) (μ : mM) (a : Nat) (x : mS) : va_E := match x with
  | .inl ci => .inr (ci, mfl ci (mi μ a) (fun k => (mq μ a k).map ρ))
  | .inr (t, n) => .inl (G.2 t, n, if t < 2 then .inl (mi μ a) else if t = 2 then .inr (.inl (mj μ a)) else .inr (.inr (.inr (.inr (fun k => (mq μ a k).map ρ)))))
/-- what a reference's place points to: an object of a class, an array of a kind -/
def mtk (ci k : Nat) : Option (Nat ⊕ Nat) := match ci, k with
  | 0, 0 => some (.inl 2)
  | 0, 2 => some (.inl 4)
  | 1, 1 => some (.inr 3)
  | 1, 2 => some (.inl 3)
  | 1, 6 => some (.inl 1)
  | 2, 0 => some (.inr 3)
  | 2, 1 => some (.inr 4)
  | 2, 2 => some (.inl 3)
  | 2, 3 => some (.inl 3)
  | 3, 1 => some (.inr 3)
  | 4, 0 => some (.inl 1)
  | 4, 1 => some (.inl 1)
  | 5, 0 => some (.inl 0)
  | 5, 1 => some (.inl 2)
  | 6, 5 => some (.inr 1)
  | 6, 12 => some (.inr 1)
  | 6, 13 => some (.inr 1)
  | 6, _ => some (.inr 0)
  | _, _ => none
def mtg (x : mS) (k : Nat) (y : mS) : Prop := match x with
  | .inl ci => (match mtk ci k with
    | some (.inl c) => y = .inl c
    | some (.inr t) => ∃ n, y = .inr (t, n)
    | none => True)
  | .inr (t, _) => (t = 3 → y = .inl 1) ∧ (t = 4 → y = .inl 3)
/-- the heap holds the memory μ, its cells at the places ρ -/
def mP (G : mG) (ρ : Nat → Nat) (μ : mM) (H : Heap) : Prop :=
  (∀ a x, sh μ a = some x → va_at G.1 mcl (ρ a, mrd G ρ μ a x) H) ∧ (∀ a b x y, sh μ a = some x → sh μ b = some y → ρ a = ρ b → a = b) ∧ (∀ a x k b, sh μ a = some x → mq μ a k = some b → ∃ y, sh μ b = some y ∧ mtg x k y)
def mtys (G : mG) : List (ClassId × FieldType) := [(G.2 0, mat 0), (G.2 1, mat 1), (G.2 2, mat 2), (G.2 3, mat 3), (G.2 4, mat 4)]
def mK (G : mG) (U : State) : Prop := va_K G.1 mcl (mtys G) U ∧ va_AO RX1 U ∧ va_AO RX3 U
theorem mK.moved {G : mG} {u U : State} (hvm : u.vm.Alike U.vm) (h : mK G u) : mK G U := ⟨va_K.moved hvm h.1, h.2.1.moved hvm, h.2.2.moved hvm⟩
/-- the cells that a method may write -/
def mA (ρ : Nat → Nat) (μ : mM) (z : Nat) : Nat → Prop := fun q => (∃ a x, sh μ a = some x ∧ ρ a = q) ∨ z ≤ q
/-- where a method stands -/
def mX (G : mG) (ρ : Nat → Nat) (A : Nat → Prop) (H0 : Heap) (μ : mM) (z : Nat) (H : Heap) (locs : List Loc) : Prop :=
  mP G ρ μ H ∧ va_S A H0 H locs ∧ (∀ a x, sh μ a = some x → A (ρ a)) ∧ (∀ q, H0.size ≤ q → A q) ∧ H.size = z
/-- what a method rests on -/
def mC (G : mG) (p : Program) (c : Code) (cc : ByteArray) (nL : Nat) (s : State) (m : MethodId) (args : Array Value) (own : String) : Prop :=
  p.tables.exec = Jvm.exec ∧ c.code = cc ∧ c.maxLocals = nL ∧ s.vm.findClass own = some m.cls ∧ (∀ w ∈ AW, w.before args s = true) ∧ mK G s
/-- the locals -/
def lq (ls : Array Slot) (L : List (Option Value)) : Prop := ls.size = L.length ∧ lv_wf ls ∧ ∀ (i : Nat) (v : Value), L[i]? = some (some v) → ls[i]? = some (.val v) ∧ v.category = 1
theorem mcw0 : ∀ w ∈ u_ws RX0 TX0 8, w ∈ AW := by decide +kernel
theorem mcw1 : ∀ w ∈ u_ws RX1 TX1 7, w ∈ AW := by decide +kernel
theorem mcw2 : ∀ w ∈ u_ws RX2 TX2 4, w ∈ AW := by decide +kernel
theorem mcw3 : ∀ w ∈ u_ws RX3 TX3 6, w ∈ AW := by decide +kernel
theorem mcw4 : ∀ w ∈ u_ws RX4 TX4 3, w ∈ AW := by decide +kernel
theorem mcw5 : ∀ w ∈ u_ws RX5 TX5 2, w ∈ AW := by decide +kernel
theorem mcw6 : ∀ w ∈ u_ws RX6 TX6 22, w ∈ AW := by decide +kernel
/-- a class of the list, with all that the kit asks of it -/
theorem mcl_all {ci : Nat} {r : vw_C} (h : mcl[ci]? = some r) : ci < 7 ∧ r.2.2 = mar ci ∧ (∀ w ∈ u_ws r.1 r.2.1 r.2.2, w ∈ AW) ∧ (∀ k, k < r.2.2 → parseFieldDescriptor (r.2.1 k).2.2.1 = some (mty ci k)) ∧ (∀ a, a < r.2.2 → ∀ b, b < r.2.2 → a ≠ b → (r.2.1 a).2.1 ≠ (r.2.1 b).2.1) := by
  match ci, h with
  | 0, h => cases h; exact ⟨by decide, rfl, mcw0, tyX0_ok, nmX0⟩
  | 1, h => cases h; exact ⟨by decide, rfl, mcw1, tyX1_ok, nmX1⟩
  | 2, h => cases h; exact ⟨by decide, rfl, mcw2, tyX2_ok, nmX2⟩
  | 3, h => cases h; exact ⟨by decide, rfl, mcw3, tyX3_ok, nmX3⟩
  | 4, h => cases h; exact ⟨by decide, rfl, mcw4, tyX4_ok, nmX4⟩
  | 5, h => cases h; exact ⟨by decide, rfl, mcw5, tyX5_ok, nmX5⟩
  | 6, h => cases h; exact ⟨by decide, rfl, mcw6, tyX6_ok, nmX6⟩
  | k + 7, h => simp [mcl] at h
end
section
theorem fl_set {N k : Nat} {f g : Nat → Value} {v : Value} (h : g k = v) (h' : ∀ j, j ≠ k → g j = f j) : ((List.range N).map f).set k v = (List.range N).map g := by
  apply List.ext_getElem?
  intro i
  by_cases hi : i = k
  · subst hi
    by_cases hN : i < N
    · simp [List.getElem?_set, hN, h]
    · simp [List.getElem?_set, hN]
  · by_cases hN : i < N
    · simp [List.getElem?_set, Ne.symm hi, hN, h' i hi]
    · simp [List.getElem?_set, Ne.symm hi, hN]
theorem fl_get {N k : Nat} {f : Nat → Value} (h : k < N) : ((List.range N).map f)[k]? = some (f k) := by simp [h]
theorem mfl_get {ci k : Nat} {I : Nat → Int32} {Q : Nat → Option Nat} (h : k < mar ci) : (mfl ci I Q)[k]? = some (if mrf ci k = true then va_rf (Q k) else .int (I k)) := fl_get h
theorem mfl_len (ci : Nat) (I : Nat → Int32) (Q : Nat → Option Nat) : (mfl ci I Q).length = mar ci := by simp [mfl]
/-- one cell changes -/
theorem mP_upd {G : mG} {ρ : Nat → Nat} {μ μ' : mM} {H H' : Heap} {a : Nat} {x : mS} (hP : mP G ρ μ H) (ha : sh μ a = some x) (hsh : ∀ b, sh μ' b = sh μ b) (hsame : ∀ b y, b ≠ a → mrd G ρ μ' b y = mrd G ρ μ b y)
    (hcl : ∀ b y k d, sh μ b = some y → mq μ' b k = some d → ∃ y', sh μ d = some y' ∧ mtg y k y') (hnew : va_at G.1 mcl (ρ a, mrd G ρ μ' a x) H') (hoff : ∀ q : Nat, q ≠ ρ a → H'[q]? = H[q]?) : mP G ρ μ' H' := by
  obtain ⟨h1, h2, h3⟩ := hP
  refine ⟨fun b y hb => ?_, fun b d y y' hb hd => ?_, fun b y k d hb hk => ?_⟩
  · rw [hsh] at hb
    by_cases e : b = a
    · subst e
      cases ha.symm.trans hb
      exact hnew
    · rw [hsame b y e]
      exact (h1 b y hb).kept (hoff _ (fun q => e (h2 b a y x hb ha q)))
  · rw [hsh] at hb hd
    exact h2 b d y y' hb hd
  · rw [hsh] at hb
    obtain ⟨y', hy, ht⟩ := hcl b y k d hb hk
    exact ⟨y', by rw [hsh]; exact hy, ht⟩
theorem mrd_I {G : mG} {ρ : Nat → Nat} {μ : mM} {a k b : Nat} {v : Int32} {y : mS} (h : b ≠ a) : mrd G ρ (setI μ a k v) b y = mrd G ρ μ b y := by
  have e1 : mi (setI μ a k v) b = mi μ b := by funext j; rw [mi_I, if_neg (fun q => h q.1)]
  have e2 : mq (setI μ a k v) b = mq μ b := rfl
  have e3 : mj (setI μ a k v) b = mj μ b := rfl
  unfold mrd; rw [e1, e2, e3]
theorem mrd_Q {G : mG} {ρ : Nat → Nat} {μ : mM} {a k b : Nat} {v : Option Nat} {y : mS} (h : b ≠ a) : mrd G ρ (setQ μ a k v) b y = mrd G ρ μ b y := by
  have e1 : mi (setQ μ a k v) b = mi μ b := rfl
  have e2 : mq (setQ μ a k v) b = mq μ b := by funext j; rw [mq_Q, if_neg (fun q => h q.1)]
  have e3 : mj (setQ μ a k v) b = mj μ b := rfl
  unfold mrd; rw [e1, e2, e3]
theorem mrd_J {G : mG} {ρ : Nat → Nat} {μ : mM} {a k b : Nat} {v : Int64} {y : mS} (h : b ≠ a) : mrd G ρ (setJ μ a k v) b y = mrd G ρ μ b y := by
  have e1 : mi (setJ μ a k v) b = mi μ b := rfl
  have e2 : mq (setJ μ a k v) b = mq μ b := rfl
  have e3 : mj (setJ μ a k v) b = mj μ b := by funext j; rw [mj_J, if_neg (fun q => h q.1)]
  unfold mrd; rw [e1, e2, e3]
theorem mcl_Q {μ : mM} {a k : Nat} {x : mS} {v : Option Nat} (h : ∀ b y k d, sh μ b = some y → mq μ b k = some d → ∃ y', sh μ d = some y' ∧ mtg y k y') (ha : sh μ a = some x) (hv : ∀ d, v = some d → ∃ y', sh μ d = some y' ∧ mtg x k y') : ∀ b y k' d, sh μ b = some y → mq (setQ μ a k v) b k' = some d → ∃ y', sh μ d = some y' ∧ mtg y k' y' := by
  intro b y k' d hb hk
  rw [mq_Q] at hk
  split at hk
  · rename_i e
    obtain ⟨rfl, rfl⟩ := e
    cases ha.symm.trans hb
    exact hv d hk
  · exact h b y k' d hb hk
theorem mX.put {G : mG} {ρ : Nat → Nat} {A : Nat → Prop} {H0 : Heap} {μ μ' : mM} {z : Nat} {H H' : Heap} {locs : List Loc} {a k : Nat} {x : mS} (X : mX G ρ A H0 μ z H locs) (ha : sh μ a = some x) (hsh : ∀ b, sh μ' b = sh μ b) (hP' : mP G ρ μ' H') (z1 : H'.size = H.size) (hoff : ∀ q : Nat, q ≠ ρ a → H'[q]? = H[q]?) : mX G ρ A H0 μ' z H' (locs ++ [⟨ρ a, k⟩]) :=
  ⟨hP', X.2.1.put z1 hoff (X.2.2.1 a x ha), fun b y hb => X.2.2.1 b y (by rw [← hsh]; exact hb), X.2.2.2.1, by rw [z1]; exact X.2.2.2.2⟩
/-- a field by its place in the constant pool of a class -/
def mF (own : String) (idx ci k : Nat) : Prop := ∃ r : vw_C, mcl[ci]? = some r ∧ k < r.2.2 ∧ Cond.fieldLink own idx (r.2.1 k).1 (r.2.1 k).2.1 (r.2.1 k).2.2.1 ∈ AW
/-- .. and it may be written -/
def mFw (own : String) (idx ci k : Nat) : Prop := ∃ r : vw_C, mcl[ci]? = some r ∧ k < r.2.2 ∧ Cond.fieldLink own idx (r.2.1 k).1 (r.2.1 k).2.1 (r.2.1 k).2.2.1 ∈ AW ∧ (r.2.1 k).2.2.2 = false
/-- .. a final one, written in a constructor -/
def mFf (own : String) (idx ci k : Nat) : Prop := ∃ r : vw_C, mcl[ci]? = some r ∧ k < r.2.2 ∧ Cond.fieldLink own idx (r.2.1 k).1 (r.2.1 k).2.1 (r.2.1 k).2.2.1 ∈ AW ∧ (r.2.1 k).2.2.2 = true ∧ (r.2.1 k).1 = own
/-- where a reference leads -/
theorem mX.tc {G : mG} {ρ : Nat → Nat} {A : Nat → Prop} {H0 : Heap} {μ : mM} {z : Nat} {H : Heap} {locs : List Loc} (X : mX G ρ A H0 μ z H locs) {a ci k b : Nat} (c : Nat) (ha : sh μ a = some (.inl ci)) (hq : mq μ a k = some b) (ht : mtk ci k = some (.inl c)) : sh μ b = some (.inl c) := by
  obtain ⟨y, hy, h⟩ := X.1.2.2 a _ k b ha hq
  unfold mtg at h
  simp only [ht] at h
  rw [hy, h]
theorem mX.ta {G : mG} {ρ : Nat → Nat} {A : Nat → Prop} {H0 : Heap} {μ : mM} {z : Nat} {H : Heap} {locs : List Loc} (X : mX G ρ A H0 μ z H locs) {a ci k b : Nat} (t : Nat) (ha : sh μ a = some (.inl ci)) (hq : mq μ a k = some b) (ht : mtk ci k = some (.inr t)) : ∃ n, sh μ b = some (.inr (t, n)) := by
  obtain ⟨y, hy, h⟩ := X.1.2.2 a _ k b ha hq
  unfold mtg at h
  simp only [ht] at h
  obtain ⟨n, rfl⟩ := h
  exact ⟨n, hy⟩
theorem mX.to {G : mG} {ρ : Nat → Nat} {A : Nat → Prop} {H0 : Heap} {μ : mM} {z : Nat} {H : Heap} {locs : List Loc} (X : mX G ρ A H0 μ z H locs) {a n k b : Nat} (ha : sh μ a = some (.inr (3, n))) (hq : mq μ a k = some b) : sh μ b = some (.inl 1) := by
  obtain ⟨y, hy, h⟩ := X.1.2.2 a _ k b ha hq
  rw [hy, h.1 rfl]
theorem mX.tr {G : mG} {ρ : Nat → Nat} {A : Nat → Prop} {H0 : Heap} {μ : mM} {z : Nat} {H : Heap} {locs : List Loc} (X : mX G ρ A H0 μ z H locs) {a n k b : Nat} (ha : sh μ a = some (.inr (4, n))) (hq : mq μ a k = some b) : sh μ b = some (.inl 3) := by
  obtain ⟨y, hy, h⟩ := X.1.2.2 a _ k b ha hq
  rw [hy, h.2 rfl]
section MR
variable {p : Program} {l : Launch} {e : Env} {R : Room} {s : State} {m : MethodId} {args : Array Value} {below : List Frame} {meth : Method} {c : Code} {H : Heap} {locs : List Loc} {cells slots : Nat} {Q : State → Prop}
variable {cc : ByteArray} {pc nL : Nat} {ls : Array Slot} {rest : List Value} {G : mG} {ρ : Nat → Nat} {A : Nat → Prop} {H0 : Heap} {μ : mM} {z : Nat} {own : String}
theorem m_get (C : mC G p c cc nL s m args own) (X : mX G ρ A H0 μ z H locs) {a ci k idx : Nat} (F : mF own idx ci k) (ha : sh μ a = some (.inl ci)) (hd : decode cc pc = .ok (.getfield idx, 3))
    (kk : W p l e R s m args below meth c H locs cells slots Q (F0 m (pc + 3) ls ((if mrf ci k = true then va_rf ((mq μ a k).map ρ) else .int (mi μ a k)) :: rest))) : W p l e R s m args below meth c H locs cells slots Q (F0 m pc ls (.ref (ρ a) :: rest)) := by
  obtain ⟨hx, hb, -, hown, hts, hK, hO1, hO3⟩ := C
  obtain ⟨r, hr, hk, hl⟩ := F
  obtain ⟨-, hN, hin, -, -⟩ := mcl_all hr
  have hP : va_P G.1 mcl [(ρ a, mrd G ρ μ a (.inl ci))] H := fun i q h => by
    match i, h with
    | 0, h => cases h; exact X.1.1 a _ ha
    | n + 1, h => simp at h
  refine va_get (C := r.1) (T := r.2.1) (N := r.2.2) (ci := ci) hx hb hts hin hown hK hP 0 rfl hr k hk (hts _ hl) (fun _ h => h) (mfl_get (by rw [← hN]; exact hk)) hd kk
theorem m_geti (C : mC G p c cc nL s m args own) (X : mX G ρ A H0 μ z H locs) {a ci k idx : Nat} {v : Int32} (F : mF own idx ci k) (ha : sh μ a = some (.inl ci)) (hr : mrf ci k = false) (hv : mi μ a k = v) (hd : decode cc pc = .ok (.getfield idx, 3))
    (kk : W p l e R s m args below meth c H locs cells slots Q (F0 m (pc + 3) ls (.int v :: rest))) : W p l e R s m args below meth c H locs cells slots Q (F0 m pc ls (.ref (ρ a) :: rest)) :=
  m_get C X F ha hd (by rw [hr, hv]; exact kk)
theorem m_getq (C : mC G p c cc nL s m args own) (X : mX G ρ A H0 μ z H locs) {a ci k idx : Nat} {v : Option Nat} (F : mF own idx ci k) (ha : sh μ a = some (.inl ci)) (hr : mrf ci k = true) (hv : mq μ a k = v) (hd : decode cc pc = .ok (.getfield idx, 3))
    (kk : W p l e R s m args below meth c H locs cells slots Q (F0 m (pc + 3) ls (va_rf (v.map ρ) :: rest))) : W p l e R s m args below meth c H locs cells slots Q (F0 m pc ls (.ref (ρ a) :: rest)) :=
  m_get C X F ha hd (by rw [hr, hv]; exact kk)
theorem m_getr (C : mC G p c cc nL s m args own) (X : mX G ρ A H0 μ z H locs) {a ci k idx b : Nat} (F : mF own idx ci k) (ha : sh μ a = some (.inl ci)) (hr : mrf ci k = true) (hv : mq μ a k = some b) (hd : decode cc pc = .ok (.getfield idx, 3))
    (kk : W p l e R s m args below meth c H locs cells slots Q (F0 m (pc + 3) ls (.ref (ρ b) :: rest))) : W p l e R s m args below meth c H locs cells slots Q (F0 m pc ls (.ref (ρ a) :: rest)) :=
  m_get C X F ha hd (by rw [hr, hv]; exact kk)
/-- putfield, of any kind -/
theorem m_put (C : mC G p c cc nL s m args own) (X : mX G ρ A H0 μ z H locs) {a ci k idx : Nat} {v : Value} {μ' : mM} (F : mFw own idx ci k) (ha : sh μ a = some (.inl ci)) (hn : narrow (mty ci k) v = v) (hf : fits (mty ci k) v = true) (hsh : ∀ b, sh μ' b = sh μ b) (hsame : ∀ b y, b ≠ a → mrd G ρ μ' b y = mrd G ρ μ b y)
    (hcl : ∀ b y k d, sh μ b = some y → mq μ' b k = some d → ∃ y', sh μ d = some y' ∧ mtg y k y') (hset : k < mar ci → (mfl ci (mi μ a) (fun k => (mq μ a k).map ρ)).set k v = mfl ci (mi μ' a) (fun k => (mq μ' a k).map ρ)) (hd : decode cc pc = .ok (.putfield idx, 3))
    (kk : ∀ (H' : Heap) (locs' : List Loc), mX G ρ A H0 μ' z H' locs' → W p l e R s m args below meth c H' locs' cells slots Q (F0 m (pc + 3) ls rest)) : W p l e R s m args below meth c H locs cells slots Q (F0 m pc ls (v :: .ref (ρ a) :: rest)) := by
  obtain ⟨hx, hb, -, hown, hts, hK, hO1, hO3⟩ := C
  obtain ⟨r, hr, hk, hl, hfin⟩ := F
  obtain ⟨-, hN, hin, hty, hnm⟩ := mcl_all hr
  have hap := va_apart (own := own) hts hin (mty ci) hty hnm hK hr
  obtain ⟨r', hr', cell, q1, q2, q3, q4⟩ := X.1.1 a _ ha
  have er : r' = r := Option.some.inj (hr'.symm.trans hr)
  subst er
  obtain ⟨hS, hfc, kC, hkC, hkind⟩ := hK.1 ci _ hr
  obtain ⟨cf, kf, fi, f, hi, hsl⟩ := hS k hk
  have hlay := hts _ (hin _ (u_in_lay hk))
  unfold u_lay at hlay
  rw [if_neg (by rw [hfin]; decide)] at hlay
  have hst := (u_facts hfc hkC (u_lays hts hin hk) hi).1
  have h6 := u_store hfc hkC hkind hlay hi (hty k hk) hn hf
  have hk' : k < mar ci := by rw [← hN]; exact hk
  refine W.putK hx hb (f := f) ⟨hown, hts _ hl, ⟨_, _, _, hi⟩, hst⟩ (by rw [q2]; exact h6) q1 q3 (by rw [hsl]; exact k2_hasslot (q4 k hk)) rfl rfl hd fun H' e1 e2 e3 => ?_
  rw [hsl] at e1 ⊢
  have hnew : va_at G.1 mcl (ρ a, mrd G ρ μ' a (.inl ci)) H' := by
    show ∃ r : vw_C, mcl[ci]? = some r ∧ t_OB (ρ a) (G.1.1 ci) r.2.2 (G.1.2 ci) H' (vp_V (mfl ci (mi μ' a) (fun k => (mq μ' a k).map ρ)))
    rw [← hset hk']
    exact ⟨_, hr, t_OB.to (V := updV (vp_V _) k v) ⟨_, e1, q2, q3, t_set q4 hap hk v⟩ (fun j _ => vp_updV_set (by rw [mfl_len]; exact hk') v j)⟩
  exact kk H' _ (X.put ha hsh (mP_upd X.1 ha hsh hsame hcl hnew e3) e2 e3)
theorem m_puti (C : mC G p c cc nL s m args own) (X : mX G ρ A H0 μ z H locs) {a ci k idx : Nat} {v : Int32} (F : mFw own idx ci k) (ha : sh μ a = some (.inl ci)) (ht : mty ci k = .int) (hd : decode cc pc = .ok (.putfield idx, 3))
    (kk : ∀ (H' : Heap) (locs' : List Loc), mX G ρ A H0 (setI μ a k v) z H' locs' → W p l e R s m args below meth c H' locs' cells slots Q (F0 m (pc + 3) ls rest)) : W p l e R s m args below meth c H locs cells slots Q (F0 m pc ls (.int v :: .ref (ρ a) :: rest)) := by
  have hrf : mrf ci k = false := by unfold mrf; rw [ht]
  refine m_put (μ' := setI μ a k v) C X F ha (by rw [ht]; rfl) (by rw [ht]; rfl) (fun _ => rfl) (fun b y h => mrd_I h) X.1.2.2 (fun hk => fl_set ?_ ?_) hd kk
  · simp [hrf, mi_I]
  · intro j hj
    simp [mi_I, hj, mq_I]
theorem m_putz (C : mC G p c cc nL s m args own) (X : mX G ρ A H0 μ z H locs) {a ci k idx : Nat} {v : Int32} (F : mFw own idx ci k) (ha : sh μ a = some (.inl ci)) (ht : mty ci k = .boolean) (hv : v = 0 ∨ v = 1) (hd : decode cc pc = .ok (.putfield idx, 3))
    (kk : ∀ (H' : Heap) (locs' : List Loc), mX G ρ A H0 (setI μ a k v) z H' locs' → W p l e R s m args below meth c H' locs' cells slots Q (F0 m (pc + 3) ls rest)) : W p l e R s m args below meth c H locs cells slots Q (F0 m pc ls (.int v :: .ref (ρ a) :: rest)) := by
  have hrf : mrf ci k = false := by unfold mrf; rw [ht]
  refine m_put (μ' := setI μ a k v) C X F ha (by rw [ht]; rcases hv with rfl | rfl <;> decide +kernel) (by rw [ht]; rcases hv with rfl | rfl <;> decide +kernel) (fun _ => rfl) (fun b y h => mrd_I h) X.1.2.2 (fun hk => fl_set ?_ ?_) hd kk
  · simp [hrf, mi_I]
  · intro j hj
    simp [mi_I, hj, mq_I]
theorem mrf_n {ci k : Nat} (hr : mrf ci k = true) (hj : mty ci k ≠ .int ∧ mty ci k ≠ .boolean ∧ mty ci k ≠ .byte ∧ mty ci k ≠ .char ∧ mty ci k ≠ .short ∧ mty ci k ≠ .long ∧ mty ci k ≠ .float ∧ mty ci k ≠ .double) (x : Option Nat) : narrow (mty ci k) (va_rf x) = va_rf x ∧ fits (mty ci k) (va_rf x) = true := by
  revert hj
  cases mty ci k <;> cases x <;> simp [narrow, fits, va_rf]
theorem m_putq (C : mC G p c cc nL s m args own) (X : mX G ρ A H0 μ z H locs) {a ci k idx : Nat} {v : Option Nat} (F : mFw own idx ci k) (ha : sh μ a = some (.inl ci)) (hr : mrf ci k = true) (hj : mty ci k ≠ .int ∧ mty ci k ≠ .boolean ∧ mty ci k ≠ .byte ∧ mty ci k ≠ .char ∧ mty ci k ≠ .short ∧ mty ci k ≠ .long ∧ mty ci k ≠ .float ∧ mty ci k ≠ .double) (hv : ∀ d, v = some d → ∃ y', sh μ d = some y' ∧ mtg (.inl ci) k y') (hd : decode cc pc = .ok (.putfield idx, 3))
    (kk : ∀ (H' : Heap) (locs' : List Loc), mX G ρ A H0 (setQ μ a k v) z H' locs' → W p l e R s m args below meth c H' locs' cells slots Q (F0 m (pc + 3) ls rest)) : W p l e R s m args below meth c H locs cells slots Q (F0 m pc ls (va_rf (v.map ρ) :: .ref (ρ a) :: rest)) := by
  have h2 := mrf_n hr hj (v.map ρ)
  refine m_put (μ' := setQ μ a k v) C X F ha h2.1 h2.2 (fun _ => rfl) (fun b y h => mrd_Q h) (mcl_Q X.1.2.2 ha hv) (fun hk => fl_set ?_ ?_) hd kk
  · simp [hr, mq_Q]
  · intro j hj
    simp [mi_Q, hj, mq_Q]
end MR
end
section
theorem lq_has {ls : Array Slot} {L : List (Option Value)} (h : lq ls L) : lv_has ls L.length ((List.range L.length).filterMap (fun i => match L[i]? with | some (some v) => some (i, v) | _ => none)) := by
  refine ⟨h.1, h.2.1, fun q hq => ?_⟩
  obtain ⟨i, -, hi⟩ := List.mem_filterMap.mp hq
  cases hL : L[i]? with
  | none => rw [hL] at hi; cases hi
  | some x =>
    rw [hL] at hi
    cases x with
    | none => cases hi
    | some v => cases hi; exact (h.2.2 i v hL).1
theorem lq_store {ls : Array Slot} {L : List (Option Value)} {i : Nat} {v : Value} (h : lq ls L) (hi : i < L.length) (hc : v.category = 1) : ∃ ls', storeLocals ls i v = some ls' ∧ lq ls' (L.set i (some v)) := by
  obtain ⟨ls', e1, h1, h2, h3⟩ := lv_store1 (v := v) (lq_has h) hi hc
  refine ⟨ls', e1, by rw [List.length_set]; exact h1, h2, fun j w hj => ?_⟩
  rw [List.getElem?_set] at hj
  by_cases e : i = j
  · subst e
    rw [if_pos rfl, if_pos hi] at hj
    cases hj
    exact ⟨h3 (i, v) List.mem_cons_self, hc⟩
  · rw [if_neg e] at hj
    obtain ⟨-, hc1⟩ := h.2.2 j w hj
    refine ⟨h3 (j, w) (List.mem_cons_of_mem _ (List.mem_filter.mpr ⟨List.mem_filterMap.mpr ⟨j, List.mem_range.mpr (List.getElem?_eq_some_iff.mp hj).1, by simp [hj]⟩, ?_⟩)), hc1⟩
    simp [hc1, Ne.symm e]
theorem lq_entry {As : List Value} {n : Nat} (h : (lg_sl As).length ≤ n) (hc : ∀ v ∈ As, v.category = 1) (hn : As.length ≤ n) : lq ((lg_sl As ++ List.replicate (n - (lg_sl As).length) Slot.unset).toArray) (As.map some ++ List.replicate (n - As.length) none) := by
  obtain ⟨h1, h2, h3⟩ := lv_entry As h
  refine ⟨by rw [h1]; simp; omega, h2, fun i v hi => ?_⟩
  have key : ∀ (As : List Value) (k i : Nat) (v : Value), (∀ v ∈ As, v.category = 1) → As[i]? = some v → (k + i, v) ∈ lv_args k As := by
    intro As
    induction As with
    | nil => intro k i v _ hi; simp at hi
    | cons w As ih =>
      intro k i v hc hi
      have hw : w.category = 1 := hc w List.mem_cons_self
      cases i with
      | zero => cases hi; unfold lv_args; exact List.mem_cons_self
      | succ i =>
        have := ih (k + w.category) i v (fun v h => hc v (List.mem_cons_of_mem _ h)) (by simpa using hi)
        unfold lv_args
        rw [hw] at this
        rw [show k + (i + 1) = k + 1 + i by omega]
        exact List.mem_cons_of_mem _ (by first | exact this | (rw [hw]; exact this))
  have hA : As[i]? = some v := by
    rw [List.getElem?_append] at hi
    split at hi
    · rw [List.getElem?_map] at hi
      cases hq : As[i]? with
      | none => rw [hq] at hi; cases hi
      | some w => rw [hq] at hi; cases hi; rfl
    · rw [List.getElem?_replicate] at hi
      split at hi <;> cases hi
  have h4 := h3 _ (key As 0 i v hc hA)
  rw [Nat.zero_add] at h4
  exact ⟨h4, hc v (List.mem_of_getElem? hA)⟩
theorem va_rf_cat (x : Option Nat) : (va_rf x).category = 1 := by cases x <;> rfl
section ML
variable {p : Program} {l : Launch} {e : Env} {R : Room} {s : State} {m : MethodId} {args : Array Value} {below : List Frame} {meth : Method} {c : Code} {H : Heap} {locs : List Loc} {cells slots : Nat} {Q : State → Prop}
variable {cc : ByteArray} {pc nL : Nat} {ls : Array Slot} {rest : List Value} {L : List (Option Value)}
theorem m_iload_n (hx : p.tables.exec = Jvm.exec) (hb : c.code = cc) (hL : lq ls L) {k : Fin 4} {x : Int32} (hd : decode cc pc = .ok (.iload_n k, 1)) (h : L[(k : Nat)]? = some (some (.int x)))
    (kk : W p l e R s m args below meth c H locs cells slots Q (F0 m (pc + 1) ls (.int x :: rest))) : W p l e R s m args below meth c H locs cells slots Q (F0 m pc ls rest) := lv_iload_n hx hb hd rfl (hL.2.2 _ _ h).1 kk
theorem m_iload (hx : p.tables.exec = Jvm.exec) (hb : c.code = cc) (hL : lq ls L) {i : Nat} {x : Int32} (hd : decode cc pc = .ok (.iload i, 2)) (h : L[i]? = some (some (.int x)))
    (kk : W p l e R s m args below meth c H locs cells slots Q (F0 m (pc + 2) ls (.int x :: rest))) : W p l e R s m args below meth c H locs cells slots Q (F0 m pc ls rest) := lv_iload hx hb hd (hL.2.2 _ _ h).1 kk
theorem m_aload_n (hx : p.tables.exec = Jvm.exec) (hb : c.code = cc) (hL : lq ls L) {k : Fin 4} {x : Nat} (hd : decode cc pc = .ok (.aload_n k, 1)) (h : L[(k : Nat)]? = some (some (.ref x)))
    (kk : W p l e R s m args below meth c H locs cells slots Q (F0 m (pc + 1) ls (.ref x :: rest))) : W p l e R s m args below meth c H locs cells slots Q (F0 m pc ls rest) := lv_aload_n hx hb hd rfl (hL.2.2 _ _ h).1 kk
theorem m_aload (hx : p.tables.exec = Jvm.exec) (hb : c.code = cc) (hL : lq ls L) {i : Nat} {x : Nat} (hd : decode cc pc = .ok (.aload i, 2)) (h : L[i]? = some (some (.ref x)))
    (kk : W p l e R s m args below meth c H locs cells slots Q (F0 m (pc + 2) ls (.ref x :: rest))) : W p l e R s m args below meth c H locs cells slots Q (F0 m pc ls rest) := lv_aload hx hb hd (hL.2.2 _ _ h).1 kk
theorem m_aload_nq (hx : p.tables.exec = Jvm.exec) (hb : c.code = cc) (hL : lq ls L) {k : Fin 4} {x : Option Nat} (hd : decode cc pc = .ok (.aload_n k, 1)) (h : L[(k : Nat)]? = some (some (va_rf x)))
    (kk : W p l e R s m args below meth c H locs cells slots Q (F0 m (pc + 1) ls (va_rf x :: rest))) : W p l e R s m args below meth c H locs cells slots Q (F0 m pc ls rest) := by
  cases x with
  | none => exact lv_aload_nN hx hb hd rfl (hL.2.2 _ _ h).1 kk
  | some x => exact lv_aload_n hx hb hd rfl (hL.2.2 _ _ h).1 kk
theorem m_aloadq (hx : p.tables.exec = Jvm.exec) (hb : c.code = cc) (hL : lq ls L) {i : Nat} {x : Option Nat} (hd : decode cc pc = .ok (.aload i, 2)) (h : L[i]? = some (some (va_rf x)))
    (kk : W p l e R s m args below meth c H locs cells slots Q (F0 m (pc + 2) ls (va_rf x :: rest))) : W p l e R s m args below meth c H locs cells slots Q (F0 m pc ls rest) := by
  cases x with
  | none => exact lv_aloadN hx hb hd (hL.2.2 _ _ h).1 kk
  | some x => exact lv_aload hx hb hd (hL.2.2 _ _ h).1 kk
theorem m_istore_n (hx : p.tables.exec = Jvm.exec) (hb : c.code = cc) (hL : lq ls L) {k : Fin 4} {x : Int32} (hd : decode cc pc = .ok (.istore_n k, 1)) (hi : (k : Nat) < L.length)
    (kk : ∀ ls' : Array Slot, lq ls' (L.set k (some (.int x))) → W p l e R s m args below meth c H locs cells slots Q (F0 m (pc + 1) ls' rest)) : W p l e R s m args below meth c H locs cells slots Q (F0 m pc ls (.int x :: rest)) := by
  obtain ⟨ls', e', h'⟩ := lq_store (v := .int x) hL hi rfl
  intro T hT X
  obtain ⟨t, a, b⟩ := kk ls' h' T hT X
  refine ⟨t, ?_, b⟩
  jvm_step X.here [X.here.top, ↓top_set X.here.top, hx, hb, hd, e']
  exact a
theorem m_istore (hx : p.tables.exec = Jvm.exec) (hb : c.code = cc) (hL : lq ls L) {i : Nat} {x : Int32} (hd : decode cc pc = .ok (.istore i, 2)) (hi : i < L.length)
    (kk : ∀ ls' : Array Slot, lq ls' (L.set i (some (.int x))) → W p l e R s m args below meth c H locs cells slots Q (F0 m (pc + 2) ls' rest)) : W p l e R s m args below meth c H locs cells slots Q (F0 m pc ls (.int x :: rest)) := by
  obtain ⟨ls', e', h'⟩ := lq_store (v := .int x) hL hi rfl
  intro T hT X
  obtain ⟨t, a, b⟩ := kk ls' h' T hT X
  refine ⟨t, ?_, b⟩
  jvm_step X.here [X.here.top, ↓top_set X.here.top, hx, hb, hd, e']
  exact a
theorem m_astore_n (hx : p.tables.exec = Jvm.exec) (hb : c.code = cc) (hL : lq ls L) {k : Fin 4} {x : Option Nat} (hd : decode cc pc = .ok (.astore_n k, 1)) (hi : (k : Nat) < L.length)
    (kk : ∀ ls' : Array Slot, lq ls' (L.set k (some (va_rf x))) → W p l e R s m args below meth c H locs cells slots Q (F0 m (pc + 1) ls' rest)) : W p l e R s m args below meth c H locs cells slots Q (F0 m pc ls (va_rf x :: rest)) := by
  obtain ⟨ls', e', h'⟩ := lq_store (v := va_rf x) hL hi (va_rf_cat x)
  intro T hT X
  obtain ⟨t, a, b⟩ := kk ls' h' T hT X
  refine ⟨t, ?_, b⟩
  cases x <;> (jvm_step X.here [X.here.top, ↓top_set X.here.top, hx, hb, hd, e', va_rf, Value.isRef]; exact ⟨ls', e', a⟩)
theorem m_astore (hx : p.tables.exec = Jvm.exec) (hb : c.code = cc) (hL : lq ls L) {i : Nat} {x : Option Nat} (hd : decode cc pc = .ok (.astore i, 2)) (hi : i < L.length)
    (kk : ∀ ls' : Array Slot, lq ls' (L.set i (some (va_rf x))) → W p l e R s m args below meth c H locs cells slots Q (F0 m (pc + 2) ls' rest)) : W p l e R s m args below meth c H locs cells slots Q (F0 m pc ls (va_rf x :: rest)) := by
  obtain ⟨ls', e', h'⟩ := lq_store (v := va_rf x) hL hi (va_rf_cat x)
  intro T hT X
  obtain ⟨t, a, b⟩ := kk ls' h' T hT X
  refine ⟨t, ?_, b⟩
  cases x <;> (jvm_step X.here [X.here.top, ↓top_set X.here.top, hx, hb, hd, e', va_rf, Value.isRef]; exact ⟨ls', e', a⟩)
theorem m_iinc (hx : p.tables.exec = Jvm.exec) (hb : c.code = cc) (hL : lq ls L) {i : Nat} {n : Int} {x v : Int32} (hd : decode cc pc = .ok (.iinc i n, 3)) (h : L[i]? = some (some (.int x))) (hv : x + Int32.ofInt n = v)
    (kk : ∀ ls' : Array Slot, lq ls' (L.set i (some (.int v))) → W p l e R s m args below meth c H locs cells slots Q (F0 m (pc + 3) ls' rest)) : W p l e R s m args below meth c H locs cells slots Q (F0 m pc ls rest) := by
  have hi : i < L.length := (List.getElem?_eq_some_iff.mp h).1
  have hl := (hL.2.2 _ _ h).1
  obtain ⟨ls', e', h'⟩ := lq_store (v := .int v) hL hi rfl
  subst hv
  intro T hT X
  obtain ⟨t, a, b⟩ := kk ls' h' T hT X
  refine ⟨t, ?_, b⟩
  jvm_step X.here [X.here.top, ↓top_set X.here.top, hx, hb, hd, hl, e']
  exact a
/-- null or not -/
theorem m_ifnull (hx : p.tables.exec = Jvm.exec) (hb : c.code = cc) {x : Option Nat} {off : Int} {tgt : Nat} (hd : decode cc pc = .ok (.ifnull off, 3)) (ht : (pc : Int) + off = (tgt : Int))
    (kt : x = none → W p l e R s m args below meth c H locs cells slots Q (F0 m tgt ls rest)) (kf : ∀ a, x = some a → W p l e R s m args below meth c H locs cells slots Q (F0 m (pc + 3) ls rest)) : W p l e R s m args below meth c H locs cells slots Q (F0 m pc ls (va_rf x :: rest)) := by
  cases x with
  | none => exact lv_ifnullN hx hb hd ht (kt rfl)
  | some a => exact lv_ifnull hx hb hd (kf a rfl)
theorem m_ifnonnull (hx : p.tables.exec = Jvm.exec) (hb : c.code = cc) {x : Option Nat} {off : Int} {tgt : Nat} (hd : decode cc pc = .ok (.ifnonnull off, 3)) (ht : (pc : Int) + off = (tgt : Int))
    (kt : ∀ a, x = some a → W p l e R s m args below meth c H locs cells slots Q (F0 m tgt ls rest)) (kf : x = none → W p l e R s m args below meth c H locs cells slots Q (F0 m (pc + 3) ls rest)) : W p l e R s m args below meth c H locs cells slots Q (F0 m pc ls (va_rf x :: rest)) := by
  cases x with
  | none => exact lv_ifnonnullN hx hb hd (kf rfl)
  | some a => exact lv_ifnonnull hx hb hd ht (kt a rfl)
end ML
end
section
/-! arrays, new cells -/
theorem mtys_at (G : mG) {t : Nat} (h : t < 5) : (mtys G)[t]? = some (G.2 t, mat t) := by
  match t, h with
  | 0, _ => rfl
  | 1, _ => rfl
  | 2, _ => rfl
  | 3, _ => rfl
  | 4, _ => rfl
  | n + 5, h => omega
/-- what stays where a cell is made -/
theorem mX.new {G : mG} {ρ : Nat → Nat} {A : Nat → Prop} {H0 : Heap} {μ : mM} {z : Nat} {H H' : Heap} {locs : List Loc} {a : Nat} {x : mS} (X : mX G ρ A H0 μ z H locs) (ha : sh μ a = none) (hz : ρ a = z) (hnew : va_at G.1 mcl (ρ a, mrd G ρ (newC μ a x) a x) H') (z1 : H'.size = H.size + 1) (hoff : ∀ q : Nat, q < H.size → H'[q]? = H[q]?) : mX G ρ A H0 (newC μ a x) (z + 1) H' locs := by
  obtain ⟨⟨h1, h2, h3⟩, hS, hA, hf, hsz⟩ := X
  have hlt : ∀ b y, sh μ b = some y → ρ b < H.size := fun b y hb => (h1 b y hb).lt
  have hne : ∀ b y, sh μ b = some y → b ≠ a := fun b y hb e => by rw [e, ha] at hb; cases hb
  refine ⟨⟨fun b y hb => ?_, fun b d y y' hb hd hbd => ?_, fun b y k d hb hk => ?_⟩, ⟨Nat.le_trans hS.1 (by omega), fun q q1 q2 => by rw [hoff q (Nat.lt_of_lt_of_le q1 hS.1)]; exact hS.2.1 q q1 q2, hS.2.2⟩, fun b y hb => ?_, hf, by omega⟩
  · rw [sh_N] at hb
    by_cases e : b = a
    · subst e
      rw [if_pos rfl] at hb
      cases hb
      exact hnew
    · rw [if_neg e] at hb
      have e1 : mrd G ρ (newC μ a x) b y = mrd G ρ μ b y := by
        have e1 : mi (newC μ a x) b = mi μ b := by funext j; rw [mi_N, if_neg e]
        have e2 : mq (newC μ a x) b = mq μ b := by funext j; rw [mq_N, if_neg e]
        have e3 : mj (newC μ a x) b = mj μ b := by funext j; rw [mj_N, if_neg e]
        unfold mrd; rw [e1, e2, e3]
      rw [e1]
      exact (h1 b y hb).kept (hoff _ (hlt b y hb))
  · rw [sh_N] at hb hd
    by_cases e : b = a <;> by_cases e' : d = a
    · rw [e, e']
    · rw [if_neg e'] at hd
      have := hlt d y' hd
      rw [e, hz] at hbd
      omega
    · rw [if_neg e] at hb
      have := hlt b y hb
      rw [e', hz] at hbd
      omega
    · rw [if_neg e] at hb
      rw [if_neg e'] at hd
      exact h2 b d y y' hb hd hbd
  · rw [sh_N] at hb
    rw [mq_N] at hk
    by_cases e : b = a
    · rw [if_pos e] at hk; cases hk
    · rw [if_neg e] at hb hk
      obtain ⟨y', hy, ht⟩ := h3 b y k d hb hk
      exact ⟨y', by rw [sh_N, if_neg (hne d y' hy)]; exact hy, ht⟩
  · rw [sh_N] at hb
    by_cases e : b = a
    · rw [e, hz]
      exact hf z (by rw [← hsz]; exact hS.1)
    · rw [if_neg e] at hb
      exact hA b y hb
section MA
variable {p : Program} {l : Launch} {e : Env} {R : Room} {s : State} {m : MethodId} {args : Array Value} {below : List Frame} {meth : Method} {c : Code} {H : Heap} {locs : List Loc} {cells slots : Nat} {Q : State → Prop}
variable {cc : ByteArray} {pc nL : Nat} {ls : Array Slot} {rest : List Value} {G : mG} {ρ : Nat → Nat} {A : Nat → Prop} {H0 : Heap} {μ : mM} {z : Nat} {own : String} {a n : Nat}
theorem m_alen (C : mC G p c cc nL s m args own) (X : mX G ρ A H0 μ z H locs) {t : Nat} (ha : sh μ a = some (.inr (t, n))) (ht : t < 5) (hd : decode cc pc = .ok (.arraylength, 1))
    (kk : W p l e R s m args below meth c H locs cells slots Q (F0 m (pc + 1) ls (.int (nI n) :: rest))) : W p l e R s m args below meth c H locs cells slots Q (F0 m pc ls (.ref (ρ a) :: rest)) := by
  obtain ⟨hx, hb, -, hown, hts, hK, hO1, hO3⟩ := C
  have hP : va_P G.1 mcl [(ρ a, mrd G ρ μ a (.inr (t, n)))] H := fun i q h => by
    match i, h with
    | 0, h => cases h; exact X.1.1 a _ ha
    | k + 1, h => simp at h
  exact va_alen hx hb hK hP 0 t rfl (mtys_at G ht) rfl hd kk
theorem m_iald (C : mC G p c cc nL s m args own) (X : mX G ρ A H0 μ z H locs) (ha : sh μ a = some (.inr (0, n))) {i : Nat} {j v : Int32} (hj : j = nI i) (hi : i < n) (hn : n < 2 ^ 31) (hv : mi μ a i = v) (hd : decode cc pc = .ok (.iaload, 1))
    (kk : W p l e R s m args below meth c H locs cells slots Q (F0 m (pc + 1) ls (.int v :: rest))) : W p l e R s m args below meth c H locs cells slots Q (F0 m pc ls (.int j :: .ref (ρ a) :: rest)) := by
  obtain ⟨hx, hb, -, hown, hts, hK, hO1, hO3⟩ := C
  subst hj; subst hv
  have hP : va_P G.1 mcl [(ρ a, mrd G ρ μ a (.inr (0, n)))] H := fun i q h => by
    match i, h with
    | 0, h => cases h; exact X.1.1 a _ ha
    | k + 1, h => simp at h
  refine va_iald (n := n) (f := mi μ a) hx hb hK hP 0 0 rfl (mtys_at G (by decide)) (vp_in_nI hi hn) hd ?_
  rw [nI_clamp (by omega)]
  exact kk
theorem m_zald (C : mC G p c cc nL s m args own) (X : mX G ρ A H0 μ z H locs) (ha : sh μ a = some (.inr (1, n))) {i : Nat} {j v : Int32} (hj : j = nI i) (hi : i < n) (hn : n < 2 ^ 31) (hv : mi μ a i = v) (hd : decode cc pc = .ok (.baload, 1))
    (kk : W p l e R s m args below meth c H locs cells slots Q (F0 m (pc + 1) ls (.int v :: rest))) : W p l e R s m args below meth c H locs cells slots Q (F0 m pc ls (.int j :: .ref (ρ a) :: rest)) := by
  obtain ⟨hx, hb, -, hown, hts, hK, hO1, hO3⟩ := C
  subst hj; subst hv
  have hP : va_P G.1 mcl [(ρ a, mrd G ρ μ a (.inr (1, n)))] H := fun i q h => by
    match i, h with
    | 0, h => cases h; exact X.1.1 a _ ha
    | k + 1, h => simp at h
  refine va_zald (n := n) (f := mi μ a) hx hb hK hP 0 1 rfl (mtys_at G (by decide)) (vp_in_nI hi hn) hd ?_
  rw [nI_clamp (by omega)]
  exact kk
theorem m_lald (C : mC G p c cc nL s m args own) (X : mX G ρ A H0 μ z H locs) (ha : sh μ a = some (.inr (2, n))) {i : Nat} {j : Int32} {v : Int64} (hj : j = nI i) (hi : i < n) (hn : n < 2 ^ 31) (hv : mj μ a i = v) (hd : decode cc pc = .ok (.laload, 1))
    (kk : W p l e R s m args below meth c H locs cells slots Q (F0 m (pc + 1) ls (.long v :: rest))) : W p l e R s m args below meth c H locs cells slots Q (F0 m pc ls (.int j :: .ref (ρ a) :: rest)) := by
  obtain ⟨hx, hb, -, hown, hts, hK, hO1, hO3⟩ := C
  subst hj; subst hv
  have hP : va_P G.1 mcl [(ρ a, mrd G ρ μ a (.inr (2, n)))] H := fun i q h => by
    match i, h with
    | 0, h => cases h; exact X.1.1 a _ ha
    | k + 1, h => simp at h
  refine va_lald (n := n) (f := mj μ a) hx hb hK hP 0 2 rfl (mtys_at G (by decide)) (vp_in_nI hi hn) hd ?_
  rw [nI_clamp (by omega)]
  exact kk
theorem m_aald (C : mC G p c cc nL s m args own) (X : mX G ρ A H0 μ z H locs) {t : Nat} (ha : sh μ a = some (.inr (t, n))) (ht : t = 3 ∨ t = 4) {i : Nat} {j : Int32} {v : Option Nat} (hj : j = nI i) (hi : i < n) (hn : n < 2 ^ 31) (hv : mq μ a i = v) (hd : decode cc pc = .ok (.aaload, 1))
    (kk : W p l e R s m args below meth c H locs cells slots Q (F0 m (pc + 1) ls (va_rf (v.map ρ) :: rest))) : W p l e R s m args below meth c H locs cells slots Q (F0 m pc ls (.int j :: .ref (ρ a) :: rest)) := by
  obtain ⟨hx, hb, -, hown, hts, hK, hO1, hO3⟩ := C
  subst hj; subst hv
  have hP : va_P G.1 mcl [(ρ a, mrd G ρ μ a (.inr (t, n)))] H := fun i q h => by
    match i, h with
    | 0, h => cases h; exact X.1.1 a _ ha
    | k + 1, h => simp at h
  rcases ht with rfl | rfl
  · refine va_aldq (n := n) (f := fun k => (mq μ a k).map ρ) (C := RX1) hx hb hK hP 0 3 rfl (mtys_at G (by decide)) (vp_in_nI hi hn) hd ?_
    rw [nI_clamp (by omega)]
    exact kk
  · refine va_aldq (n := n) (f := fun k => (mq μ a k).map ρ) (C := RX3) hx hb hK hP 0 4 rfl (mtys_at G (by decide)) (vp_in_nI hi hn) hd ?_
    rw [nI_clamp (by omega)]
    exact kk
/-- the cell of an int array, one place changed -/
theorem m_iast (C : mC G p c cc nL s m args own) (X : mX G ρ A H0 μ z H locs) (ha : sh μ a = some (.inr (0, n))) {i : Nat} {j v : Int32} (hj : j = nI i) (hi : i < n) (hn : n < 2 ^ 31) (hd : decode cc pc = .ok (.iastore, 1))
    (kk : ∀ (H' : Heap) (locs' : List Loc), mX G ρ A H0 (setI μ a i v) z H' locs' → W p l e R s m args below meth c H' locs' cells slots Q (F0 m (pc + 1) ls rest)) : W p l e R s m args below meth c H locs cells slots Q (F0 m pc ls (.int v :: .int j :: .ref (ρ a) :: rest)) := by
  obtain ⟨hx, hb, -, hown, hts, hK, hO1, hO3⟩ := C
  subst hj
  have h0 : H[ρ a]? = some (vp_cell (G.2 0) (n, .inl (mi μ a))) := X.1.1 a _ ha
  refine W.iast hx hb h0 ((hK.2 0 _ (mtys_at G (by decide))).1 n (fun j => .int (mi μ a j))) (fun q => by cases q) (by show ¬ (nI i < 0 ∨ (arrV _ _ _).slots.size ≤ _); rw [arrV_size]; exact vp_in_nI hi hn) rfl rfl hd fun H1 e1 e2 e3 => ?_
  rw [nI_clamp (by omega)] at e1 ⊢
  have hnew : va_at G.1 mcl (ρ a, mrd G ρ (setI μ a i v) a (.inr (0, n))) H1 := by
    show H1[ρ a]? = some (vp_cell (G.2 0) (n, .inl (mi (setI μ a i v) a)))
    rw [e1, vp_cell_i, vp_cell_i, arrV_store]
    congr 2
    funext q
    by_cases hq : q = i
    · subst hq; simp [updV, mi_I]
    · simp [updV, hq, mi_I]
  exact kk H1 _ (X.put ha (fun _ => rfl) (mP_upd X.1 ha (fun _ => rfl) (fun b y h => mrd_I h) X.1.2.2 hnew e3) e2 e3)
theorem m_zast (C : mC G p c cc nL s m args own) (X : mX G ρ A H0 μ z H locs) (ha : sh μ a = some (.inr (1, n))) {i : Nat} {j v : Int32} (hj : j = nI i) (hi : i < n) (hn : n < 2 ^ 31) (hv : v = 0 ∨ v = 1) (hd : decode cc pc = .ok (.bastore, 1))
    (kk : ∀ (H' : Heap) (locs' : List Loc), mX G ρ A H0 (setI μ a i v) z H' locs' → W p l e R s m args below meth c H' locs' cells slots Q (F0 m (pc + 1) ls rest)) : W p l e R s m args below meth c H locs cells slots Q (F0 m pc ls (.int v :: .int j :: .ref (ρ a) :: rest)) := by
  obtain ⟨hx, hb, -, hown, hts, hK, hO1, hO3⟩ := C
  subst hj
  have h0 : H[ρ a]? = some (vp_cell (G.2 1) (n, .inl (mi μ a))) := X.1.1 a _ ha
  refine W.zast hx hb h0 ((hK.2 1 _ (mtys_at G (by decide))).1 n (fun j => .int (mi μ a j))) (fun q => by cases q) (by show ¬ (nI i < 0 ∨ (arrV _ _ _).slots.size ≤ _); rw [arrV_size]; exact vp_in_nI hi hn) rfl rfl hd fun H1 e1 e2 e3 => ?_
  rw [nI_clamp (by omega)] at e1 ⊢
  have hna : narrow .boolean (.int v) = .int v := by rcases hv with rfl | rfl <;> decide +kernel
  have hnew : va_at G.1 mcl (ρ a, mrd G ρ (setI μ a i v) a (.inr (1, n))) H1 := by
    show H1[ρ a]? = some (vp_cell (G.2 1) (n, .inl (mi (setI μ a i v) a)))
    rw [e1, hna, vp_cell_i, vp_cell_i, arrV_store]
    congr 2
    funext q
    by_cases hq : q = i
    · subst hq; simp [updV, mi_I]
    · simp [updV, hq, mi_I]
  exact kk H1 _ (X.put ha (fun _ => rfl) (mP_upd X.1 ha (fun _ => rfl) (fun b y h => mrd_I h) X.1.2.2 hnew e3) e2 e3)
theorem m_last (C : mC G p c cc nL s m args own) (X : mX G ρ A H0 μ z H locs) (ha : sh μ a = some (.inr (2, n))) {i : Nat} {j : Int32} {v : Int64} (hj : j = nI i) (hi : i < n) (hn : n < 2 ^ 31) (hd : decode cc pc = .ok (.lastore, 1))
    (kk : ∀ (H' : Heap) (locs' : List Loc), mX G ρ A H0 (setJ μ a i v) z H' locs' → W p l e R s m args below meth c H' locs' cells slots Q (F0 m (pc + 1) ls rest)) : W p l e R s m args below meth c H locs cells slots Q (F0 m pc ls (.long v :: .int j :: .ref (ρ a) :: rest)) := by
  obtain ⟨hx, hb, -, hown, hts, hK, hO1, hO3⟩ := C
  subst hj
  have h0 : H[ρ a]? = some (vp_cell (G.2 2) (n, .inr (.inl (mj μ a)))) := X.1.1 a _ ha
  refine W.last hx hb h0 ((hK.2 2 _ (mtys_at G (by decide))).1 n (fun j => .long (mj μ a j))) (fun q => by cases q) (by show ¬ (nI i < 0 ∨ (arrV _ _ _).slots.size ≤ _); rw [arrV_size]; exact vp_in_nI hi hn) rfl rfl hd fun H1 e1 e2 e3 => ?_
  rw [nI_clamp (by omega)] at e1 ⊢
  have hnew : va_at G.1 mcl (ρ a, mrd G ρ (setJ μ a i v) a (.inr (2, n))) H1 := by
    show H1[ρ a]? = some (vp_cell (G.2 2) (n, .inr (.inl (mj (setJ μ a i v) a))))
    rw [e1, vp_cell_l, vp_cell_l, arrV_store]
    congr 2
    funext q
    by_cases hq : q = i
    · subst hq; simp [updV, mj_J]
    · simp [updV, hq, mj_J]
  exact kk H1 _ (X.put ha (fun _ => rfl) (mP_upd X.1 ha (fun _ => rfl) (fun b y h => mrd_J h) X.1.2.2 hnew e3) e2 e3)
/-- an array of references: t = 3 holds objects of class 1, t = 4 of class 3 -/
theorem m_aast (C : mC G p c cc nL s m args own) (X : mX G ρ A H0 μ z H locs) {t ci : Nat} (ha : sh μ a = some (.inr (t, n))) (ht : (t = 3 ∧ ci = 1) ∨ (t = 4 ∧ ci = 3)) {i : Nat} {j : Int32} {v : Option Nat} (hj : j = nI i) (hi : i < n) (hn : n < 2 ^ 31) (hv : ∀ b, v = some b → sh μ b = some (.inl ci)) (hd : decode cc pc = .ok (.aastore, 1))
    (kk : ∀ (H' : Heap) (locs' : List Loc), mX G ρ A H0 (setQ μ a i v) z H' locs' → W p l e R s m args below meth c H' locs' cells slots Q (F0 m (pc + 1) ls rest)) : W p l e R s m args below meth c H locs cells slots Q (F0 m pc ls (va_rf (v.map ρ) :: .int j :: .ref (ρ a) :: rest)) := by
  obtain ⟨hx, hb, -, hown, hts, hK, hO1, hO3⟩ := C
  subst hj
  have hlt : (nI i).toNatClampNeg < n := by rw [nI_clamp (by omega)]; exact hi
  have hin : vp_in (nI i) n := vp_in_nI hi hn
  have h0' : ¬ (nI i) < 0 := fun q => hin (Or.inl q)
  have h3 : 3 ≤ t ∧ t < 5 := by rcases ht with ⟨rfl, -⟩ | ⟨rfl, -⟩ <;> decide
  have h0 : H[ρ a]? = some (vp_cell (G.2 t) (n, .inr (.inr (.inr (.inr (fun k => (mq μ a k).map ρ)))))) := by
    have := X.1.1 a _ ha
    rcases ht with ⟨rfl, -⟩ | ⟨rfl, -⟩ <;> exact this
  have fin : ∀ (H1 : Heap), H1[ρ a]? = some ((vp_cell (G.2 t) (n, .inr (.inr (.inr (.inr (fun k => (mq μ a k).map ρ)))))).setSlot (nI i).toNatClampNeg (va_rf (v.map ρ))) → H1.size = H.size → (∀ q, q ≠ ρ a → H1[q]? = H[q]?) → W p l e R s m args below meth c H1 (locs ++ [⟨ρ a, (nI i).toNatClampNeg⟩]) cells slots Q (F0 m (pc + 1) ls rest) := by
    intro H1 e1 e2 e3
    rw [nI_clamp (by omega)] at e1 ⊢
    have hnew : va_at G.1 mcl (ρ a, mrd G ρ (setQ μ a i v) a (.inr (t, n))) H1 := by
      have : H1[ρ a]? = some (vp_cell (G.2 t) (n, .inr (.inr (.inr (.inr (fun k => (mq (setQ μ a i v) a k).map ρ)))))) := by
        rw [e1, vp_cell_q, vp_cell_q, arrV_store]
        congr 2
        funext q
        by_cases hq : q = i
        · subst hq; simp [updV, mq_Q]
        · simp [updV, hq, mq_Q]
      rcases ht with ⟨rfl, -⟩ | ⟨rfl, -⟩ <;> exact this
    exact kk H1 _ (X.put ha (fun _ => rfl) (mP_upd X.1 ha (fun _ => rfl) (fun b y h => mrd_Q h) (mcl_Q X.1.2.2 ha (fun d hd => ⟨_, hv d hd, by rcases ht with ⟨rfl, rfl⟩ | ⟨rfl, rfl⟩ <;> exact ⟨fun h => by first | rfl | omega, fun h => by first | rfl | omega⟩⟩)) hnew e3) e2 e3)
  have hT := hK.2 t _ (mtys_at G h3.2)
  cases v with
  | none =>
    rcases ht with ⟨rfl, -⟩ | ⟨rfl, -⟩
    · exact va_WaastN (C := RX1) hx hb h0 (hT.1 n (fun j => va_rf ((mq μ a j).map ρ))) (fun h => by cases h) (by show ¬ (nI i < 0 ∨ (arrV _ _ _).slots.size ≤ _); rw [arrV_size]; exact hin) rfl rfl hd (fun H1 e1 e2 e3 => fin H1 e1 e2 e3)
    · exact va_WaastN (C := RX3) hx hb h0 (hT.1 n (fun j => va_rf ((mq μ a j).map ρ))) (fun h => by cases h) (by show ¬ (nI i < 0 ∨ (arrV _ _ _).slots.size ≤ _); rw [arrV_size]; exact hin) rfl rfl hd (fun H1 e1 e2 e3 => fin H1 e1 e2 e3)
  | some b =>
    obtain ⟨r', hr', cellV, g1, g2, g3, -⟩ := X.1.1 b _ (hv b rfl)
    rcases ht with ⟨rfl, rfl⟩ | ⟨rfl, rfl⟩
    · have hcls := (hK.1 1 (RX1, TX1, 7) rfl).2
      obtain ⟨kA, comp, k1, k2, k3, -⟩ := hT.2
      have hcomp : comp = G.1.1 1 := Option.some.inj (k3.symm.trans hcls.1)
      subst hcomp
      obtain ⟨kC, hkC, -⟩ := hcls.2
      exact W.aast hx hb h0 (fun q h => by cases h) (fun h => by cases h) k1 k2 rfl hkC ⟨h0', by show _ < (arrV _ _ _).slots.size; rw [arrV_size]; exact hlt⟩ g1 (fun q h => by rw [g3] at h; cases h) (by rw [g2]; exact hkC) (by rw [g2]; exact va_assign hcls) rfl rfl hd (fun H1 e1 e2 e3 => fin H1 e1 e2 e3)
    · have hcls := (hK.1 3 (RX3, TX3, 6) rfl).2
      obtain ⟨kA, comp, k1, k2, k3, -⟩ := hT.2
      have hcomp : comp = G.1.1 3 := Option.some.inj (k3.symm.trans hcls.1)
      subst hcomp
      obtain ⟨kC, hkC, -⟩ := hcls.2
      exact W.aast hx hb h0 (fun q h => by cases h) (fun h => by cases h) k1 k2 rfl hkC ⟨h0', by show _ < (arrV _ _ _).slots.size; rw [arrV_size]; exact hlt⟩ g1 (fun q h => by rw [g3] at h; cases h) (by rw [g2]; exact hkC) (by rw [g2]; exact va_assign hcls) rfl rfl hd (fun H1 e1 e2 e3 => fin H1 e1 e2 e3)
end MA
end
section
/-! new cells; contracts over the memory; calls; ends -/
theorem mfl_new (ci : Nat) (h : ci < 7) : ∀ j, j < mar ci → defaultValue (mty ci j) = vp_V (mfl ci (fun _ => 0) (fun _ => none)) j := by
  intro j hj
  have h1 : vp_V (mfl ci (fun _ => 0) (fun _ => none)) j = if mrf ci j = true then va_rf none else .int 0 := by
    unfold vp_V
    rw [List.getD_eq_getElem?_getD, mfl_get hj]
    rfl
  rw [h1]
  clear h1
  match ci, h with
  | 0, _ => revert hj; revert j; decide +kernel
  | 1, _ => revert hj; revert j; decide +kernel
  | 2, _ => revert hj; revert j; decide +kernel
  | 3, _ => revert hj; revert j; decide +kernel
  | 4, _ => revert hj; revert j; decide +kernel
  | 5, _ => revert hj; revert j; decide +kernel
  | 6, _ => revert hj; revert j; decide +kernel
  | n + 7, h => omega
/-- the words of a class that is made -/
def mNw (own : String) (idx ci : Nat) : Prop := ∃ r : vw_C, mcl[ci]? = some r ∧ Cond.classLink own idx r.1 ∈ AW ∧ Cond.instantiable r.1 r.2.2 ∈ AW ∧ Cond.initialized r.1 ∈ AW
section MN
variable {p : Program} {l : Launch} {e : Env} {R : Room} {s : State} {m : MethodId} {args : Array Value} {below : List Frame} {meth : Method} {c : Code} {H : Heap} {locs : List Loc} {cells slots : Nat} {Q : State → Prop}
variable {cc : ByteArray} {pc nL : Nat} {ls : Array Slot} {rest : List Value} {G : mG} {ρ : Nat → Nat} {A : Nat → Prop} {H0 : Heap} {μ : mM} {z : Nat} {own : String} {a n : Nat}
theorem m_new (C : mC G p c cc nL s m args own) (X : mX G ρ A H0 μ z H locs) {ci idx : Nat} (F : mNw own idx ci) (ha : sh μ a = none) (hz : ρ a = z) (hcells : cells + 1 ≤ R.cells) (hslots : slots + mar ci ≤ R.slots) (hd : decode cc pc = .ok (.new idx, 3))
    (kk : ∀ H' : Heap, mX G ρ A H0 (newC μ a (.inl ci)) (z + 1) H' locs → W p l e R s m args below meth c H' locs (cells + 1) (slots + mar ci) Q (F0 m (pc + 3) ls (.ref (ρ a) :: rest))) : W p l e R s m args below meth c H locs cells slots Q (F0 m pc ls rest) := by
  obtain ⟨hx, hb, -, hown, hts, hK, hO1, hO3⟩ := C
  obtain ⟨r, hr, w1, w2, w3⟩ := F
  obtain ⟨hci, hN, hin, hty, hnm⟩ := mcl_all hr
  have hKn := hK.1 ci _ hr
  have hzH : H.size = z := X.2.2.2.2
  refine W.newcK hx hb hown (hts _ w1) (hts _ w2) (hts _ w3) rfl hd hcells (by rw [hN]; exact hslots) hKn.2.1 rfl fun H1 kC hkC e1 z1 o1 => ?_
  have hnew : va_at G.1 mcl (ρ a, mrd G ρ (newC μ a (.inl ci)) a (.inl ci)) H1 := by
    show ∃ r : vw_C, mcl[ci]? = some r ∧ t_OB (ρ a) (G.1.1 ci) r.2.2 (G.1.2 ci) H1 (vp_V (mfl ci (mi (newC μ a (.inl ci)) a) (fun k => (mq (newC μ a (.inl ci)) a k).map ρ)))
    have e2 : mi (newC μ a (.inl ci)) a = fun _ => 0 := by funext j; rw [mi_N, if_pos rfl]
    have e3 : (fun k => (mq (newC μ a (.inl ci)) a k).map ρ) = fun _ => none := by funext j; rw [mq_N, if_pos rfl]; rfl
    rw [e2, e3, hz, ← hzH]
    exact ⟨r, hr, (u_born (mty ci) hts hin hKn hkC e1 hty).to (by rw [hN]; exact mfl_new ci hci)⟩
  have k1 := kk H1 (X.new ha hz hnew z1 (fun q hq => o1 q hq))
  rw [hz, ← hzH] at k1
  rw [hN]
  exact k1
theorem m_newarr (C : mC G p c cc nL s m args own) (X : mX G ρ A H0 μ z H locs) {t : Nat} {atype : ArrayType} (ht : t < 3) (hat : newarray.typeOf atype = mat t) (hw : Cond.arrayClass (mat t) ∈ AW) {j : Int32} (hj : j = nI n) (hn : n < 2 ^ 20) (ha : sh μ a = none) (hz : ρ a = z) (hcells : cells + 1 ≤ R.cells) (hslots : slots + n ≤ R.slots) (hd : decode cc pc = .ok (.newarray atype, 2))
    (kk : ∀ H' : Heap, mX G ρ A H0 (newC μ a (.inr (t, n))) (z + 1) H' locs → W p l e R s m args below meth c H' locs (cells + 1) (slots + n) Q (F0 m (pc + 2) ls (.ref (ρ a) :: rest))) : W p l e R s m args below meth c H locs cells slots Q (F0 m pc ls (.int j :: rest)) := by
  obtain ⟨hx, hb, -, hown, hts, hK, hO1, hO3⟩ := C
  subst hj
  have hzH : H.size = z := X.2.2.2.2
  have hcb : componentBytes (mat t) ≤ 8 := by
    match t, ht with
    | 0, _ => decide +kernel
    | 1, _ => decide +kernel
    | 2, _ => decide +kernel
    | k + 3, h => omega
  refine va_newaK (N := n) hx hb (by rw [hat]; exact hts _ hw) rfl hd rfl (nI_pos (by omega)) (nI_clamp (by omega)) (by rw [hat]; exact Nat.le_trans (Nat.mul_le_mul_left n hcb) (by omega)) hcells hslots rfl fun H1 cA e1 z1 o1 hAr hNm => ?_
  have hcA : cA = G.2 t := by
    have h2 := (hK.2 t _ (mtys_at G (by omega))).2
    rw [hat] at hNm
    match t, ht with
    | 0, _ => exact Option.some.inj (hNm.symm.trans h2)
    | 1, _ => exact Option.some.inj (hNm.symm.trans h2)
    | 2, _ => exact Option.some.inj (hNm.symm.trans h2)
    | k + 3, h => omega
  have hnew : va_at G.1 mcl (ρ a, mrd G ρ (newC μ a (.inr (t, n))) a (.inr (t, n))) H1 := by
    have e2 : mi (newC μ a (.inr (t, n))) a = fun _ => 0 := by funext j; rw [mi_N, if_pos rfl]
    have e3 : mj (newC μ a (.inr (t, n))) a = fun _ => 0 := by funext j; rw [mj_N, if_pos rfl]
    show H1[ρ a]? = some (vp_cell (G.2 t) (n, if t < 2 then .inl (mi (newC μ a (.inr (t, n))) a) else if t = 2 then .inr (.inl (mj (newC μ a (.inr (t, n))) a)) else .inr (.inr (.inr (.inr (fun k => (mq (newC μ a (.inr (t, n))) a k).map ρ))))))
    rw [e2, e3, hz, ← hzH, e1, hcA, hat]
    match t, ht with
    | 0, _ => rfl
    | 1, _ => rfl
    | 2, _ => rfl
    | k + 3, h => omega
  have k1 := kk H1 (X.new ha hz hnew z1 (fun q hq => o1 q hq))
  rw [hz, ← hzH] at k1
  exact k1
theorem m_anew (C : mC G p c cc nL s m args own) (X : mX G ρ A H0 μ z H locs) {t idx : Nat} {C1 : String} (ht : t = 3 ∧ C1 = RX1 ∨ t = 4 ∧ C1 = RX3) (hw1 : Cond.classLink own idx C1 ∈ AW) {j : Int32} (hj : j = nI n) (hn : n < 2 ^ 20) (ha : sh μ a = none) (hz : ρ a = z) (hcells : cells + 1 ≤ R.cells) (hslots : slots + n ≤ R.slots) (hd : decode cc pc = .ok (.anewarray idx, 3))
    (kk : ∀ H' : Heap, mX G ρ A H0 (newC μ a (.inr (t, n))) (z + 1) H' locs → W p l e R s m args below meth c H' locs (cells + 1) (slots + n) Q (F0 m (pc + 3) ls (.ref (ρ a) :: rest))) : W p l e R s m args below meth c H locs cells slots Q (F0 m pc ls (.int j :: rest)) := by
  obtain ⟨hx, hb, -, hown, hts, hK, hO1, hO3⟩ := C
  subst hj
  have hzH : H.size = z := X.2.2.2.2
  have hcl : (nI n).toNatClampNeg = n := nI_clamp (by omega)
  have hAO : va_AO C1 s := by rcases ht with ⟨-, rfl⟩ | ⟨-, rfl⟩ <;> assumption
  refine W.anew hx hb hown (hts _ hw1) (va_AO.use hAO) rfl hd rfl (nI_pos (by omega)) (by rw [hcl]; omega) hcells (by rw [hcl]; exact hslots) fun cA kA comp f1 f2 f3 f4 => ?_
  rw [hcl]
  generalize hH1 : H.push ({ cls := cA, slots := Array.replicate n .null, vm := .none } : Cell) = H1
  have z1 : H1.size = H.size + 1 := by rw [← hH1, Array.size_push]
  have e1 : H1[H.size]? = some (arrV cA n (fun _ => .null)) := by rw [← hH1, Array.getElem?_push_size, ← arrV_new]
  have o1 : ∀ q : Nat, q < H.size → H1[q]? = H[q]? := fun q hq => by rw [← hH1, Array.getElem?_push, if_neg (Nat.ne_of_lt hq)]
  have hcA : cA = G.2 t := by
    rcases ht with ⟨rfl, rfl⟩ | ⟨rfl, rfl⟩
    · obtain ⟨_, _, _, _, _, h4⟩ := (hK.2 3 _ (mtys_at G (by decide))).2
      exact Option.some.inj (f1.symm.trans h4)
    · obtain ⟨_, _, _, _, _, h4⟩ := (hK.2 4 _ (mtys_at G (by decide))).2
      exact Option.some.inj (f1.symm.trans h4)
  have hnew : va_at G.1 mcl (ρ a, mrd G ρ (newC μ a (.inr (t, n))) a (.inr (t, n))) H1 := by
    have e3 : (fun k => (mq (newC μ a (.inr (t, n))) a k).map ρ) = fun _ => none := by funext j; rw [mq_N, if_pos rfl]; rfl
    show H1[ρ a]? = some (vp_cell (G.2 t) (n, if t < 2 then .inl (mi (newC μ a (.inr (t, n))) a) else if t = 2 then .inr (.inl (mj (newC μ a (.inr (t, n))) a)) else .inr (.inr (.inr (.inr (fun k => (mq (newC μ a (.inr (t, n))) a k).map ρ))))))
    rw [e3, hz, ← hzH, e1, hcA]
    rcases ht with ⟨rfl, rfl⟩ | ⟨rfl, rfl⟩ <;> rfl
  have k1 := kk H1 (X.new ha hz hnew z1 (fun q hq => o1 q hq))
  rw [hz, ← hzH] at k1
  exact k1
/-- a final field, in a constructor -/
theorem m_putF (C : mC G p c cc nL s m args own) (X : mX G ρ A H0 μ z H locs) (hin2 : meth.name = "<init>") {ci k idx : Nat} {v : Value} {μ' : mM} (F : mFf own idx ci k) (ha : sh μ a = some (.inl ci)) (hn : narrow (mty ci k) v = v) (hf : fits (mty ci k) v = true) (hsh : ∀ b, sh μ' b = sh μ b) (hsame : ∀ b y, b ≠ a → mrd G ρ μ' b y = mrd G ρ μ b y)
    (hcl : ∀ b y k d, sh μ b = some y → mq μ' b k = some d → ∃ y', sh μ d = some y' ∧ mtg y k y') (hset : k < mar ci → (mfl ci (mi μ a) (fun k => (mq μ a k).map ρ)).set k v = mfl ci (mi μ' a) (fun k => (mq μ' a k).map ρ)) (hd : decode cc pc = .ok (.putfield idx, 3))
    (kk : ∀ (H' : Heap) (locs' : List Loc), mX G ρ A H0 μ' z H' locs' → W p l e R s m args below meth c H' locs' cells slots Q (F0 m (pc + 3) ls rest)) : W p l e R s m args below meth c H locs cells slots Q (F0 m pc ls (v :: .ref (ρ a) :: rest)) := by
  obtain ⟨hx, hb, -, hown, hts, hK, hO1, hO3⟩ := C
  obtain ⟨r, hr, hk, hl, hfin, hdecl⟩ := F
  obtain ⟨-, hN, hin, hty, hnm⟩ := mcl_all hr
  have hap := va_apart (own := own) hts hin (mty ci) hty hnm hK hr
  obtain ⟨r', hr', cell, q1, q2, q3, q4⟩ := X.1.1 a _ ha
  have er : r' = r := Option.some.inj (hr'.symm.trans hr)
  subst er
  obtain ⟨hS, hfc, kC, hkC, hkind⟩ := hK.1 ci _ hr
  obtain ⟨cf, kf, fi, f, hi, hsl⟩ := hS k hk
  have hlay := hts _ (hin _ (u_in_lay hk))
  unfold u_lay at hlay
  rw [if_pos hfin] at hlay
  have hst := (u_facts hfc hkC (u_lays hts hin hk) hi).1
  have hcf : m.cls = cf := by
    obtain ⟨_, _, c', _, _, _, -, -, hf', -, -, -, hown2, -⟩ := Cond.laysFinal_spec hlay
    have e1 : c' = cf := by have := hi.symm.trans hf'; simp at this; exact this.1.symm
    rw [hdecl] at hown2
    rw [← e1]; exact Option.some.inj (hown.symm.trans hown2)
  have h6 := u_fits hfc hkC hkind (Or.inr hlay) hi (hty k hk) hn hf
  have hk' : k < mar ci := by rw [← hN]; exact hk
  refine W.putFinK hx hb hown (hts _ hl) hi hst hcf hin2 (by rw [q2]; exact h6) q1 q3 (by rw [hsl]; exact k2_hasslot (q4 k hk)) rfl rfl hd fun H' e1 e2 e3 => ?_
  rw [hsl] at e1 ⊢
  have hnew : va_at G.1 mcl (ρ a, mrd G ρ μ' a (.inl ci)) H' := by
    show ∃ r : vw_C, mcl[ci]? = some r ∧ t_OB (ρ a) (G.1.1 ci) r.2.2 (G.1.2 ci) H' (vp_V (mfl ci (mi μ' a) (fun k => (mq μ' a k).map ρ)))
    rw [← hset hk']
    exact ⟨_, hr, t_OB.to (V := updV (vp_V _) k v) ⟨_, e1, q2, q3, t_set q4 hap hk v⟩ (fun j _ => vp_updV_set (by rw [mfl_len]; exact hk') v j)⟩
  exact kk H' _ (X.put ha hsh (mP_upd X.1 ha hsh hsame hcl hnew e3) e2 e3)
theorem m_putFi (C : mC G p c cc nL s m args own) (X : mX G ρ A H0 μ z H locs) (hin2 : meth.name = "<init>") {ci k idx : Nat} {v : Int32} (F : mFf own idx ci k) (ha : sh μ a = some (.inl ci)) (ht : mty ci k = .int) (hd : decode cc pc = .ok (.putfield idx, 3))
    (kk : ∀ (H' : Heap) (locs' : List Loc), mX G ρ A H0 (setI μ a k v) z H' locs' → W p l e R s m args below meth c H' locs' cells slots Q (F0 m (pc + 3) ls rest)) : W p l e R s m args below meth c H locs cells slots Q (F0 m pc ls (.int v :: .ref (ρ a) :: rest)) := by
  have hrf : mrf ci k = false := by unfold mrf; rw [ht]
  refine m_putF (μ' := setI μ a k v) C X hin2 F ha (by rw [ht]; rfl) (by rw [ht]; rfl) (fun _ => rfl) (fun b y h => mrd_I h) X.1.2.2 (fun hk => fl_set ?_ ?_) hd kk
  · simp [hrf, mi_I]
  · intro j hj
    simp [mi_I, hj, mq_I]
theorem m_putFq (C : mC G p c cc nL s m args own) (X : mX G ρ A H0 μ z H locs) (hin2 : meth.name = "<init>") {ci k idx : Nat} {v : Option Nat} (F : mFf own idx ci k) (ha : sh μ a = some (.inl ci)) (hr : mrf ci k = true) (hj : mty ci k ≠ .int ∧ mty ci k ≠ .boolean ∧ mty ci k ≠ .byte ∧ mty ci k ≠ .char ∧ mty ci k ≠ .short ∧ mty ci k ≠ .long ∧ mty ci k ≠ .float ∧ mty ci k ≠ .double) (hv : ∀ d, v = some d → ∃ y', sh μ d = some y' ∧ mtg (.inl ci) k y') (hd : decode cc pc = .ok (.putfield idx, 3))
    (kk : ∀ (H' : Heap) (locs' : List Loc), mX G ρ A H0 (setQ μ a k v) z H' locs' → W p l e R s m args below meth c H' locs' cells slots Q (F0 m (pc + 3) ls rest)) : W p l e R s m args below meth c H locs cells slots Q (F0 m pc ls (va_rf (v.map ρ) :: .ref (ρ a) :: rest)) := by
  have h2 := mrf_n hr hj (v.map ρ)
  refine m_putF (μ' := setQ μ a k v) C X hin2 F ha h2.1 h2.2 (fun _ => rfl) (fun b y h => mrd_Q h) (mcl_Q X.1.2.2 ha hv) (fun hk => fl_set ?_ ?_) hd kk
  · simp [hr, mq_Q]
  · intro j hj
    simp [mi_Q, hj, mq_Q]
end MN
/-- what a method's end says: the answer v, the memory μ', the heap's size z' -/
def mQc (G : mG) (ρ : Nat → Nat) (μ : mM) (z : Nat) (Post : Option Value → mM → Nat → Prop) : Array Value → State → Outcome → State → Prop := fun _ st o t =>
  (∃ v μ', o = .returned v ∧ Post v μ' t.heap.size ∧ mP G ρ μ' t.heap ∧ ∀ a x, sh μ' a = some x → mA ρ μ z (ρ a)) ∧ va_F (mA ρ μ z) st t
def mPc (G : mG) (ρ : Nat → Nat) (μ : mM) (z : Nat) (As : List Value) : Array Value → State → Prop := va_Pc As (fun U => U.heap.size = z ∧ mP G ρ μ U.heap ∧ mK G U)
/-- a method's contract over the memory -/
def MC (G : mG) (l : Launch) (y : MethodName) (cy : ByteArray) (ny : Nat) (ret : Option FieldType) (fr lo mc ms z : Nat) (ρ : Nat → Nat) (As : List Value) (μ : mM) (Post : Option Value → mM → Nat → Prop) : Prop :=
  Met l y (Cond.code y cy ny ret :: AW) { frames := fr, cells := mc, slots := ms, locals := lo } (mPc G ρ μ z As) (mQc G ρ μ z Post) mc ms (mA ρ μ z)
theorem MC.of {G : mG} {l : Launch} {y : MethodName} {cy : ByteArray} {ny : Nat} {ret : Option FieldType} {fr lo mc ms z : Nat} {ρ : Nat → Nat} {As : List Value} {μ : mM} {Post : Option Value → mM → Nat → Prop}
    (hy : plainName y.cls = true) (hc : ∀ v ∈ As, v.category = 1) (hn : (lg_sl As).length ≤ ny) (hn2 : As.length ≤ ny)
    (body : ∀ (p : Program) (e : Env) (s : State) (m : MethodId) (args : Array Value) (below : List Frame) (meth : Method) (c : Code) (ls : Array Slot), mC G p c cy ny s m args y.cls → meth.sig.returnType = ret → meth.locks = false → meth.name = y.name →
      mX G ρ (mA ρ μ z) s.heap μ z s.heap [] → lq ls (As.map some ++ List.replicate (ny - As.length) none) →
      W p l e { frames := fr, cells := mc, slots := ms, locals := lo } s m args below meth c s.heap [] 0 0 (MQ below (mQc G ρ μ z Post) args s mc ms (mA ρ μ z)) (F0 m 0 ls [])) : MC G l y cy ny ret fr lo mc ms z ρ As μ Post := by
  refine Met.ofW (cc := cy) (maxL := ny) (ret := ret) hy rfl ?_
  intro p e s m args below meth c s₁ B hml hv
  obtain ⟨rfl, hsz, hP, hK⟩ := hv
  have hts := atoms_spec (ws := Cond.code y cy ny ret :: AW) B.pre
  rw [lg_entry_eq]
  exact body p e s m _ below meth c _ ⟨B.exec, B.bytes, hml, findClass_of_methodNamed B.named, fun w hw => hts w (List.mem_cons_of_mem _ hw), hK⟩ B.returns B.notSynchronized (name_of_methodNamed B.named B.method).1
    ⟨hP, va_S.rf, fun a x h => Or.inl ⟨a, x, h, rfl⟩, fun q h => Or.inr (by rw [← hsz]; exact h), hsz⟩ (lq_entry hn hc hn2)
theorem mPc_blind {G : mG} {ρ : Nat → Nat} {μ : mM} {z : Nat} {As : List Value} : FrameBlind (mPc G ρ μ z As) := fun a U g mk q => by
  obtain ⟨q0, q1, qP, qK⟩ := q
  exact ⟨q0, q1, qP, mK.moved (u := U) (U := U.calling g mk a) (Vm.Alike.refl U.vm) qK⟩
/-- the words of a call -/
def mV (own : String) (idx : Nat) (y : MethodName) (cy : ByteArray) (ny : Nat) (ret : Option FieldType) (n ci : Nat) : Prop :=
  (∃ r : vw_C, mcl[ci]? = some r ∧ r.1 = y.cls) ∧ Cond.methodLink own idx y ∈ AW ∧ Cond.instanceMethod y ∈ AW ∧ Cond.selects y.cls y y ∈ AW ∧ Cond.initialized y.cls ∈ AW ∧ Cond.code y cy ny ret ∈ AW ∧ (y.cls ≠ "java/lang/invoke/MethodHandle" ∧ y.cls ≠ "java/lang/invoke/VarHandle" ∧ (parseMethodDescriptor y.desc).map (fun d => d.parameters.length) = some n)
def mVs (own : String) (idx : Nat) (y : MethodName) (cy : ByteArray) (ny : Nat) (ret : Option FieldType) (n : Nat) : Prop :=
  Cond.methodLink own idx y ∈ AW ∧ Cond.static y ∈ AW ∧ Cond.initialized y.cls ∈ AW ∧ Cond.code y cy ny ret ∈ AW ∧ (y.cls ≠ "java/lang/invoke/MethodHandle" ∧ y.cls ≠ "java/lang/invoke/VarHandle" ∧ (parseMethodDescriptor y.desc).map (fun d => d.parameters.length) = some n)
def mVi (own : String) (idx : Nat) (y : MethodName) (cy : ByteArray) (ny : Nat) (n : Nat) : Prop :=
  Cond.methodLink own idx y ∈ AW ∧ Cond.instanceMethod y ∈ AW ∧ Cond.initialized y.cls ∈ AW ∧ Cond.code y cy ny none ∈ AW ∧ y.name = "<init>" ∧ (y.cls ≠ "java/lang/invoke/MethodHandle" ∧ y.cls ≠ "java/lang/invoke/VarHandle" ∧ (parseMethodDescriptor y.desc).map (fun d => d.parameters.length) = some n)
section MCL
variable {p : Program} {l : Launch} {e : Env} {R : Room} {s : State} {m : MethodId} {args : Array Value} {below : List Frame} {meth : Method} {c : Code} {H : Heap} {locs : List Loc} {cells slots : Nat} {Q : State → Prop}
variable {cc : ByteArray} {pc nL : Nat} {ls : Array Slot} {rest st0 : List Value} {G : mG} {ρ : Nat → Nat} {A : Nat → Prop} {H0 : Heap} {μ : mM} {z : Nat} {own : String}
variable {y : MethodName} {cy : ByteArray} {ny n fr lo mc ms idx ci b : Nat} {ret : Option FieldType} {As : List Value} {Post : Option Value → mM → Nat → Prop}
theorem m_after {a : Array Value} (X : mX G ρ A H0 μ z H locs) (hr : va_Run p l e R s m args below meth c H locs cells slots mc ms (F0 m pc ls st0) rest (mQc G ρ μ z Post a) (mA ρ μ z))
    (kk : ∀ (v : Option Value) (μ' : mM) (z' : Nat) (H' : Heap) (locs' : List Loc), Post v μ' z' → mX G ρ A H0 μ' z' H' locs' → W p l e R s m args below meth c H' locs' (cells + mc) (slots + ms) Q (F0 m (pc + 3) ls (v.toList ++ rest))) : W p l e R s m args below meth c H locs cells slots Q (F0 m pc ls st0) := by
  have hA : ∀ q, mA ρ μ z q → A q := by
    intro q hq
    rcases hq with ⟨a, x, h1, h2⟩ | h
    · rw [← h2]; exact X.2.2.1 a x h1
    · exact X.2.2.2.1 q (Nat.le_trans X.2.1.1 (by rw [X.2.2.2.2]; exact h))
  intro T hT XX
  obtain ⟨v, st₀, t, T', L, h0, X', hL, e1, e2, ⟨⟨v', μ', hv, hp, hP', hd'⟩, hz, hk⟩, st⟩ := hr T hT XX
  cases hv
  rw [h0] at hz hk
  obtain ⟨t2, a1, b1⟩ := kk v μ' T'.heap.size T'.heap (locs ++ L) (by rw [e1]; exact hp) ⟨by rw [e1]; exact hP', ⟨Nat.le_trans X.2.1.1 (by rw [e1]; exact hz), fun q h1 h2 => by rw [e1, hk q (Nat.lt_of_lt_of_le h1 X.2.1.1) (fun w => h2 (hA q w))]; exact X.2.1.2.1 q h1 h2, fun q hq => by
      rcases List.mem_append.mp hq with h | h
      · exact X.2.1.2.2 q h
      · exact hA _ (hL q h)⟩, fun a x h => hA _ (hd' a x h), X.2.2.2.1, rfl⟩ T' rfl X'
  exact ⟨t2, st t2 a1, b1⟩
theorem m_callV (C : mC G p c cc nL s m args own) (X : mX G ρ A H0 μ z H locs) (hM : MC G l y cy ny ret fr lo mc ms z ρ (.ref (ρ b) :: As) μ Post) (F : mV own idx y cy ny ret n ci) (hb : sh μ b = some (.inl ci)) (hn : As.length = n) (hR : fr + 1 ≤ R.frames ∧ 8 + (ny + 11) + lo ≤ R.locals) (hC : cells + mc ≤ R.cells ∧ slots + ms ≤ R.slots) (hls : ls.size = nL)
    (hst : st0 = As.reverse ++ .ref (ρ b) :: rest) (hrest : (rest.map fun v => v.category).sum ≤ 8) (hd : decode cc pc = .ok (.invokevirtual idx, 3))
    (kk : ∀ (v : Option Value) (μ' : mM) (z' : Nat) (H' : Heap) (locs' : List Loc), Post v μ' z' → mX G ρ A H0 μ' z' H' locs' → W p l e R s m args below meth c H' locs' (cells + mc) (slots + ms) Q (F0 m (pc + 3) ls (v.toList ++ rest))) : W p l e R s m args below meth c H locs cells slots Q (F0 m pc ls st0) := by
  obtain ⟨⟨r, hr, hry⟩, w1, w2, w3, w4, w5, hdd⟩ := F
  have hts := C.2.2.2.2.1
  obtain ⟨r', hr', cellV, g1, g2, g3, -⟩ := X.1.1 b _ hb
  have hcls := (C.2.2.2.2.2.1.1 ci r hr).2.1
  exact m_after X (va_runV (C := y.cls) (b := ρ b) (As := As) (bytes := cy) (maxL := ny) (ret := ret) (n := n) (rm := { frames := fr, cells := mc, slots := ms, locals := lo }) ⟨C.1, C.2.1, C.2.2.1, C.2.2.2.1, hts⟩ hM ⟨callB_of n hts (aw_goodIn (fun _ h => h) w5) rfl rfl rfl (hts _ w4) (hts _ w1) hdd hR, hts _ w2, hts _ w3⟩
    ⟨mPc_blind, ⟨cellV, g1, by rw [g3]; rfl, by rw [g2, ← hry]; exact hcls⟩, fun U hU hW => ⟨rfl, by rw [hU]; exact X.2.2.2.2, by rw [hU]; exact X.1, mK.moved hW.alike C.2.2.2.2.2⟩⟩ rfl hn hls hst (lv_room hrest) hd hC) kk
theorem m_callS (C : mC G p c cc nL s m args own) (X : mX G ρ A H0 μ z H locs) (hM : MC G l y cy ny ret fr lo mc ms z ρ As μ Post) (F : mVs own idx y cy ny ret n) (hn : As.length = n) (hR : fr + 1 ≤ R.frames ∧ 8 + (ny + 11) + lo ≤ R.locals) (hC : cells + mc ≤ R.cells ∧ slots + ms ≤ R.slots) (hls : ls.size = nL)
    (hst : st0 = As.reverse ++ rest) (hrest : (rest.map fun v => v.category).sum ≤ 8) (hd : decode cc pc = .ok (.invokestatic idx, 3))
    (kk : ∀ (v : Option Value) (μ' : mM) (z' : Nat) (H' : Heap) (locs' : List Loc), Post v μ' z' → mX G ρ A H0 μ' z' H' locs' → W p l e R s m args below meth c H' locs' (cells + mc) (slots + ms) Q (F0 m (pc + 3) ls (v.toList ++ rest))) : W p l e R s m args below meth c H locs cells slots Q (F0 m pc ls st0) := by
  obtain ⟨w1, w2, w4, w5, hdd⟩ := F
  have hts := C.2.2.2.2.1
  exact m_after X (va_runS (As := As) (bytes := cy) (maxL := ny) (ret := ret) (n := n) (rm := { frames := fr, cells := mc, slots := ms, locals := lo }) ⟨C.1, C.2.1, C.2.2.1, C.2.2.2.1, hts⟩ hM ⟨callB_of n hts (aw_goodIn (fun _ h => h) w5) rfl rfl rfl (hts _ w4) (hts _ w1) hdd hR, hts _ w2⟩
    ⟨mPc_blind, fun U hU hW => ⟨rfl, by rw [hU]; exact X.2.2.2.2, by rw [hU]; exact X.1, mK.moved hW.alike C.2.2.2.2.2⟩⟩ rfl hn hls hst (lv_room hrest) hd hC) kk
theorem m_callI (C : mC G p c cc nL s m args own) (X : mX G ρ A H0 μ z H locs) (hM : MC G l y cy ny none fr lo mc ms z ρ (.ref (ρ b) :: As) μ Post) (F : mVi own idx y cy ny n) (hn : As.length = n) (hR : fr + 1 ≤ R.frames ∧ 8 + (ny + 11) + lo ≤ R.locals) (hC : cells + mc ≤ R.cells ∧ slots + ms ≤ R.slots) (hls : ls.size = nL)
    (hst : st0 = As.reverse ++ .ref (ρ b) :: rest) (hrest : (rest.map fun v => v.category).sum ≤ 8) (hd : decode cc pc = .ok (.invokespecial idx, 3))
    (kk : ∀ (v : Option Value) (μ' : mM) (z' : Nat) (H' : Heap) (locs' : List Loc), Post v μ' z' → mX G ρ A H0 μ' z' H' locs' → W p l e R s m args below meth c H' locs' (cells + mc) (slots + ms) Q (F0 m (pc + 3) ls (v.toList ++ rest))) : W p l e R s m args below meth c H locs cells slots Q (F0 m pc ls st0) := by
  obtain ⟨w1, w2, w4, w5, hnm, hdd⟩ := F
  have hts := C.2.2.2.2.1
  exact m_after X (va_runI (b := ρ b) (As := As) (bytes := cy) (maxL := ny) (n := n) (rm := { frames := fr, cells := mc, slots := ms, locals := lo }) ⟨C.1, C.2.1, C.2.2.1, C.2.2.2.1, hts⟩ hM ⟨callB_of n hts (aw_goodIn (fun _ h => h) w5) rfl rfl rfl (hts _ w4) (hts _ w1) hdd hR, hnm, hts _ w2⟩
    ⟨mPc_blind, fun U hU hW => ⟨rfl, by rw [hU]; exact X.2.2.2.2, by rw [hU]; exact X.1, mK.moved hW.alike C.2.2.2.2.2⟩⟩ rfl hn hls hst (lv_room hrest) hd hC) kk
variable {μ0 : mM} {z0 : Nat}
theorem m_vret (C : mC G p c cc nL s m args own) (X : mX G ρ (mA ρ μ0 z0) s.heap μ z H locs) (hr : meth.sig.returnType = none) (hlk : meth.locks = false) (hp : Post none μ z) (hd : decode cc pc = .ok (.return_, 1)) : W p l e R s m args below meth c H locs cells slots (MQ below (mQc G ρ μ0 z0 Post) args s cells slots (mA ρ μ0 z0)) (F0 m pc ls []) :=
  W.vret C.1 C.2.1 hr (fun t ht _ => ⟨⟨none, μ, rfl, by rw [ht, X.2.2.2.2]; exact hp, by rw [ht]; exact X.1, X.2.2.1⟩, X.2.1.F ht⟩) (fun q hq => X.2.1.2.2 q hq) hd hlk
theorem m_iret (C : mC G p c cc nL s m args own) (X : mX G ρ (mA ρ μ0 z0) s.heap μ z H locs) {v : Int32} (hr : meth.sig.returnType = some .int) (hlk : meth.locks = false) (hp : Post (some (.int v)) μ z) (hd : decode cc pc = .ok (.ireturn, 1)) : W p l e R s m args below meth c H locs cells slots (MQ below (mQc G ρ μ0 z0 Post) args s cells slots (mA ρ μ0 z0)) (F0 m pc ls [.int v]) :=
  W.iret C.1 C.2.1 hr (fun t ht _ => ⟨⟨_, μ, rfl, by rw [ht, X.2.2.2.2]; exact hp, by rw [ht]; exact X.1, X.2.2.1⟩, X.2.1.F ht⟩) (fun q hq => X.2.1.2.2 q hq) hd hlk
theorem m_zret (C : mC G p c cc nL s m args own) (X : mX G ρ (mA ρ μ0 z0) s.heap μ z H locs) {v : Int32} (hr : meth.sig.returnType = some .boolean) (hlk : meth.locks = false) (hv : v = 0 ∨ v = 1) (hp : Post (some (.int v)) μ z) (hd : decode cc pc = .ok (.ireturn, 1)) : W p l e R s m args below meth c H locs cells slots (MQ below (mQc G ρ μ0 z0 Post) args s cells slots (mA ρ μ0 z0)) (F0 m pc ls [.int v]) :=
  W.zret C.1 C.2.1 hr (by rcases hv with rfl | rfl <;> decide +kernel) (fun t ht _ => ⟨⟨_, μ, rfl, by rw [ht, X.2.2.2.2]; exact hp, by rw [ht]; exact X.1, X.2.2.1⟩, X.2.1.F ht⟩) (fun q hq => X.2.1.2.2 q hq) hd hlk
theorem m_aret (C : mC G p c cc nL s m args own) (X : mX G ρ (mA ρ μ0 z0) s.heap μ z H locs) {v : Option Nat} {n1 : String} (hr : meth.sig.returnType = some (.object n1)) (hlk : meth.locks = false) (hp : Post (some (va_rf v)) μ z) (hd : decode cc pc = .ok (.areturn, 1)) : W p l e R s m args below meth c H locs cells slots (MQ below (mQc G ρ μ0 z0 Post) args s cells slots (mA ρ μ0 z0)) (F0 m pc ls [va_rf v]) :=
  W.aret C.1 C.2.1 hr (Or.inl ⟨_, rfl⟩) (va_rf_or v) (fun t ht _ => ⟨⟨_, μ, rfl, by rw [ht, X.2.2.2.2]; exact hp, by rw [ht]; exact X.1, X.2.2.1⟩, X.2.1.F ht⟩) (fun q hq => X.2.1.2.2 q hq) hd hlk
theorem m_oinit (C : mC G p c cc nL s m args own) {a : Addr} (w1 : Cond.methodLink own idx objectInit ∈ AW) (hls : ls.size = nL) (hrest : (rest.map fun v => v.category).sum ≤ 8) (hR : 1 ≤ R.frames ∧ 20 ≤ R.locals) (hd : decode cc pc = .ok (.invokespecial idx, 3))
    (kk : W p l e R s m args below meth c H locs cells slots Q (F0 m (pc + 3) ls rest)) : W p l e R s m args below meth c H locs cells slots Q (F0 m pc ls (.ref a :: rest)) := by
  have hts := C.2.2.2.2.1
  have h2 : Cond.instanceMethod objectInit ∈ AW := by decide +kernel
  have h3 : Cond.code objectInit ⟨#[0xb1]⟩ 1 none ∈ AW := by decide +kernel
  exact W.objInit C.1 C.2.1 C.2.2.2.1 (hts _ w1) (hts _ h2) (hts _ h3) rfl (hls.trans C.2.2.1.symm) rfl hd hR.1 (by show 2 * 0 + _ + 12 ≤ _; omega) kk
end MCL
end
section
/-! the words of fields, classes and calls, by their places in the tables (printed by wip/tools/links.py) -/
theorem KL_8 : Cond.classLink RL 8 RX5 ∈ AW := aw_of 42 (by decide +kernel) (by decide +kernel)
theorem NL_8 : mNw RL 8 5 := ⟨_, rfl, KL_8, aw_of 43 (by decide +kernel) (by decide +kernel), aw_of 28 (by decide +kernel) (by decide +kernel)⟩
theorem VL_57 : mVi RL 57 yX5_init cX5_init 3 2 := ⟨aw_of 44 (by decide +kernel) (by decide +kernel), aw_of 45 (by decide +kernel) (by decide +kernel), aw_of 28 (by decide +kernel) (by decide +kernel), aw_of 46 (by decide +kernel) (by decide +kernel), rfl, by decide +kernel⟩
theorem OX5_1 : Cond.methodLink RX5 1 objectInit ∈ AW := aw_of 47 (by decide +kernel) (by decide +kernel)
theorem KX5_7 : Cond.classLink RX5 7 RX0 ∈ AW := aw_of 50 (by decide +kernel) (by decide +kernel)
theorem NX5_7 : mNw RX5 7 0 := ⟨_, rfl, KX5_7, aw_of 51 (by decide +kernel) (by decide +kernel), aw_of 29 (by decide +kernel) (by decide +kernel)⟩
theorem VX5_11 : mVs RX5 11 yX5_within cX5_within 3 (some .int) 3 := ⟨aw_of 52 (by decide +kernel) (by decide +kernel), aw_of 53 (by decide +kernel) (by decide +kernel), aw_of 28 (by decide +kernel) (by decide +kernel), aw_of 54 (by decide +kernel) (by decide +kernel), by decide +kernel⟩
theorem VX5_143 : mVs RX5 143 yJ9_min_7cf53 cJ9_min_7cf53 2 (some .int) 2 := ⟨aw_of 55 (by decide +kernel) (by decide +kernel), aw_of 56 (by decide +kernel) (by decide +kernel), aw_of 30 (by decide +kernel) (by decide +kernel), aw_of 57 (by decide +kernel) (by decide +kernel), by decide +kernel⟩
theorem VX5_149 : mVs RX5 149 yJ9_max_7cf53 cJ9_max_7cf53 2 (some .int) 2 := ⟨aw_of 58 (by decide +kernel) (by decide +kernel), aw_of 59 (by decide +kernel) (by decide +kernel), aw_of 30 (by decide +kernel) (by decide +kernel), aw_of 60 (by decide +kernel) (by decide +kernel), by decide +kernel⟩
theorem VX5_15 : mVi RX5 15 yX0_init cX0_init 3 2 := ⟨aw_of 61 (by decide +kernel) (by decide +kernel), aw_of 62 (by decide +kernel) (by decide +kernel), aw_of 29 (by decide +kernel) (by decide +kernel), aw_of 63 (by decide +kernel) (by decide +kernel), rfl, by decide +kernel⟩
theorem OX0_3 : Cond.methodLink RX0 3 objectInit ∈ AW := aw_of 64 (by decide +kernel) (by decide +kernel)
theorem KX0_9 : Cond.classLink RX0 9 RX2 ∈ AW := aw_of 65 (by decide +kernel) (by decide +kernel)
theorem NX0_9 : mNw RX0 9 2 := ⟨_, rfl, KX0_9, aw_of 66 (by decide +kernel) (by decide +kernel), aw_of 31 (by decide +kernel) (by decide +kernel)⟩
theorem VX0_11 : mVi RX0 11 yX2_init cX2_init 3 1 := ⟨aw_of 67 (by decide +kernel) (by decide +kernel), aw_of 68 (by decide +kernel) (by decide +kernel), aw_of 31 (by decide +kernel) (by decide +kernel), aw_of 69 (by decide +kernel) (by decide +kernel), rfl, by decide +kernel⟩
theorem OX2_3 : Cond.methodLink RX2 3 objectInit ∈ AW := aw_of 70 (by decide +kernel) (by decide +kernel)
theorem KX2_9 : Cond.classLink RX2 9 RX1 ∈ AW := aw_of 71 (by decide +kernel) (by decide +kernel)
theorem NX2_9 : mNw RX2 9 1 := ⟨_, rfl, KX2_9, aw_of 392 (by decide +kernel) (by decide +kernel), aw_of 40 (by decide +kernel) (by decide +kernel)⟩
theorem KX2_17 : Cond.classLink RX2 17 RX3 ∈ AW := aw_of 73 (by decide +kernel) (by decide +kernel)
theorem NX2_17 : mNw RX2 17 3 := ⟨_, rfl, KX2_17, aw_of 75 (by decide +kernel) (by decide +kernel), aw_of 32 (by decide +kernel) (by decide +kernel)⟩
theorem VX2_23 : mVi RX2 23 yX3_init cX3_init 2 1 := ⟨aw_of 76 (by decide +kernel) (by decide +kernel), aw_of 77 (by decide +kernel) (by decide +kernel), aw_of 32 (by decide +kernel) (by decide +kernel), aw_of 78 (by decide +kernel) (by decide +kernel), rfl, by decide +kernel⟩
theorem OX3_3 : Cond.methodLink RX3 3 objectInit ∈ AW := aw_of 79 (by decide +kernel) (by decide +kernel)
theorem KX3_15 : Cond.classLink RX3 15 RX1 ∈ AW := aw_of 80 (by decide +kernel) (by decide +kernel)
theorem NX3_15 : mNw RX3 15 1 := ⟨_, rfl, KX3_15, aw_of 392 (by decide +kernel) (by decide +kernel), aw_of 40 (by decide +kernel) (by decide +kernel)⟩
theorem FX3_9 : mF RX3 9 3 0 := ⟨_, rfl, by decide, aw_of 81 (by decide +kernel) (by decide +kernel)⟩
theorem FfX3_9 : mFf RX3 9 3 0 := ⟨_, rfl, by decide, aw_of 81 (by decide +kernel) (by decide +kernel), rfl, rfl⟩
theorem FX5_165 : mF RX5 165 3 0 := ⟨_, rfl, by decide, aw_of 82 (by decide +kernel) (by decide +kernel)⟩
theorem FX3_17 : mF RX3 17 3 1 := ⟨_, rfl, by decide, aw_of 83 (by decide +kernel) (by decide +kernel)⟩
theorem FfX3_17 : mFf RX3 17 3 1 := ⟨_, rfl, by decide, aw_of 83 (by decide +kernel) (by decide +kernel), rfl, rfl⟩
theorem FX0_134 : mF RX0 134 3 1 := ⟨_, rfl, by decide, aw_of 84 (by decide +kernel) (by decide +kernel)⟩
theorem FX3_21 : mF RX3 21 3 2 := ⟨_, rfl, by decide, aw_of 85 (by decide +kernel) (by decide +kernel)⟩
theorem FwX3_21 : mFw RX3 21 3 2 := ⟨_, rfl, by decide, aw_of 85 (by decide +kernel) (by decide +kernel), rfl⟩
theorem FX2_26 : mF RX2 26 3 2 := ⟨_, rfl, by decide, aw_of 86 (by decide +kernel) (by decide +kernel)⟩
theorem FwX2_26 : mFw RX2 26 3 2 := ⟨_, rfl, by decide, aw_of 86 (by decide +kernel) (by decide +kernel), rfl⟩
theorem FX0_90 : mF RX0 90 3 2 := ⟨_, rfl, by decide, aw_of 87 (by decide +kernel) (by decide +kernel)⟩
theorem FwX0_90 : mFw RX0 90 3 2 := ⟨_, rfl, by decide, aw_of 87 (by decide +kernel) (by decide +kernel), rfl⟩
theorem FX5_115 : mF RX5 115 3 2 := ⟨_, rfl, by decide, aw_of 88 (by decide +kernel) (by decide +kernel)⟩
theorem FwX5_115 : mFw RX5 115 3 2 := ⟨_, rfl, by decide, aw_of 88 (by decide +kernel) (by decide +kernel), rfl⟩
theorem FX3_24 : mF RX3 24 3 3 := ⟨_, rfl, by decide, aw_of 89 (by decide +kernel) (by decide +kernel)⟩
theorem FwX3_24 : mFw RX3 24 3 3 := ⟨_, rfl, by decide, aw_of 89 (by decide +kernel) (by decide +kernel), rfl⟩
theorem FX0_95 : mF RX0 95 3 3 := ⟨_, rfl, by decide, aw_of 90 (by decide +kernel) (by decide +kernel)⟩
theorem FwX0_95 : mFw RX0 95 3 3 := ⟨_, rfl, by decide, aw_of 90 (by decide +kernel) (by decide +kernel), rfl⟩
theorem FX5_118 : mF RX5 118 3 3 := ⟨_, rfl, by decide, aw_of 91 (by decide +kernel) (by decide +kernel)⟩
theorem FwX5_118 : mFw RX5 118 3 3 := ⟨_, rfl, by decide, aw_of 91 (by decide +kernel) (by decide +kernel), rfl⟩
theorem FX3_41 : mF RX3 41 3 4 := ⟨_, rfl, by decide, aw_of 92 (by decide +kernel) (by decide +kernel)⟩
theorem FwX3_41 : mFw RX3 41 3 4 := ⟨_, rfl, by decide, aw_of 92 (by decide +kernel) (by decide +kernel), rfl⟩
theorem FX3_44 : mF RX3 44 3 5 := ⟨_, rfl, by decide, aw_of 93 (by decide +kernel) (by decide +kernel)⟩
theorem FwX3_44 : mFw RX3 44 3 5 := ⟨_, rfl, by decide, aw_of 93 (by decide +kernel) (by decide +kernel), rfl⟩
theorem FX0_127 : mF RX0 127 3 5 := ⟨_, rfl, by decide, aw_of 94 (by decide +kernel) (by decide +kernel)⟩
theorem FwX0_127 : mFw RX0 127 3 5 := ⟨_, rfl, by decide, aw_of 94 (by decide +kernel) (by decide +kernel), rfl⟩
theorem FX2_11 : mF RX2 11 2 0 := ⟨_, rfl, by decide, aw_of 108 (by decide +kernel) (by decide +kernel)⟩
theorem FfX2_11 : mFf RX2 11 2 0 := ⟨_, rfl, by decide, aw_of 108 (by decide +kernel) (by decide +kernel), rfl, rfl⟩
theorem FX0_37 : mF RX0 37 2 0 := ⟨_, rfl, by decide, aw_of 109 (by decide +kernel) (by decide +kernel)⟩
theorem FX5_61 : mF RX5 61 2 0 := ⟨_, rfl, by decide, aw_of 110 (by decide +kernel) (by decide +kernel)⟩
theorem FX2_19 : mF RX2 19 2 1 := ⟨_, rfl, by decide, aw_of 111 (by decide +kernel) (by decide +kernel)⟩
theorem FfX2_19 : mFf RX2 19 2 1 := ⟨_, rfl, by decide, aw_of 111 (by decide +kernel) (by decide +kernel), rfl, rfl⟩
theorem FX0_86 : mF RX0 86 2 1 := ⟨_, rfl, by decide, aw_of 112 (by decide +kernel) (by decide +kernel)⟩
theorem FX5_106 : mF RX5 106 2 1 := ⟨_, rfl, by decide, aw_of 113 (by decide +kernel) (by decide +kernel)⟩
theorem FX2_30 : mF RX2 30 2 2 := ⟨_, rfl, by decide, aw_of 114 (by decide +kernel) (by decide +kernel)⟩
theorem FwX2_30 : mFw RX2 30 2 2 := ⟨_, rfl, by decide, aw_of 114 (by decide +kernel) (by decide +kernel), rfl⟩
theorem FX2_42 : mF RX2 42 2 3 := ⟨_, rfl, by decide, aw_of 115 (by decide +kernel) (by decide +kernel)⟩
theorem FwX2_42 : mFw RX2 42 2 3 := ⟨_, rfl, by decide, aw_of 115 (by decide +kernel) (by decide +kernel), rfl⟩
theorem KX0_24 : Cond.classLink RX0 24 RX4 ∈ AW := aw_of 125 (by decide +kernel) (by decide +kernel)
theorem NX0_24 : mNw RX0 24 4 := ⟨_, rfl, KX0_24, aw_of 126 (by decide +kernel) (by decide +kernel), aw_of 33 (by decide +kernel) (by decide +kernel)⟩
theorem OX4_1 : Cond.methodLink RX4 1 objectInit ∈ AW := aw_of 130 (by decide +kernel) (by decide +kernel)
theorem FX4_13 : mF RX4 13 4 0 := ⟨_, rfl, by decide, aw_of 131 (by decide +kernel) (by decide +kernel)⟩
theorem FwX4_13 : mFw RX4 13 4 0 := ⟨_, rfl, by decide, aw_of 131 (by decide +kernel) (by decide +kernel), rfl⟩
theorem FX4_7 : mF RX4 7 4 1 := ⟨_, rfl, by decide, aw_of 132 (by decide +kernel) (by decide +kernel)⟩
theorem FwX4_7 : mFw RX4 7 4 1 := ⟨_, rfl, by decide, aw_of 132 (by decide +kernel) (by decide +kernel), rfl⟩
theorem FX4_21 : mF RX4 21 4 2 := ⟨_, rfl, by decide, aw_of 133 (by decide +kernel) (by decide +kernel)⟩
theorem FwX4_21 : mFw RX4 21 4 2 := ⟨_, rfl, by decide, aw_of 133 (by decide +kernel) (by decide +kernel), rfl⟩
theorem FX5_138 : mF RX5 138 4 2 := ⟨_, rfl, by decide, aw_of 134 (by decide +kernel) (by decide +kernel)⟩
theorem FwX5_138 : mFw RX5 138 4 2 := ⟨_, rfl, by decide, aw_of 134 (by decide +kernel) (by decide +kernel), rfl⟩
theorem FX0_14 : mF RX0 14 0 0 := ⟨_, rfl, by decide, aw_of 142 (by decide +kernel) (by decide +kernel)⟩
theorem FfX0_14 : mFf RX0 14 0 0 := ⟨_, rfl, by decide, aw_of 142 (by decide +kernel) (by decide +kernel), rfl, rfl⟩
theorem FX5_22 : mF RX5 22 0 0 := ⟨_, rfl, by decide, aw_of 143 (by decide +kernel) (by decide +kernel)⟩
theorem FX0_20 : mF RX0 20 0 1 := ⟨_, rfl, by decide, aw_of 144 (by decide +kernel) (by decide +kernel)⟩
theorem FfX0_20 : mFf RX0 20 0 1 := ⟨_, rfl, by decide, aw_of 144 (by decide +kernel) (by decide +kernel), rfl, rfl⟩
theorem FX0_27 : mF RX0 27 0 2 := ⟨_, rfl, by decide, aw_of 145 (by decide +kernel) (by decide +kernel)⟩
theorem FfX0_27 : mFf RX0 27 0 2 := ⟨_, rfl, by decide, aw_of 145 (by decide +kernel) (by decide +kernel), rfl, rfl⟩
theorem FX5_134 : mF RX5 134 0 2 := ⟨_, rfl, by decide, aw_of 146 (by decide +kernel) (by decide +kernel)⟩
theorem FX0_31 : mF RX0 31 0 3 := ⟨_, rfl, by decide, aw_of 147 (by decide +kernel) (by decide +kernel)⟩
theorem FwX0_31 : mFw RX0 31 0 3 := ⟨_, rfl, by decide, aw_of 147 (by decide +kernel) (by decide +kernel), rfl⟩
theorem FX5_91 : mF RX5 91 0 3 := ⟨_, rfl, by decide, aw_of 148 (by decide +kernel) (by decide +kernel)⟩
theorem FwX5_91 : mFw RX5 91 0 3 := ⟨_, rfl, by decide, aw_of 148 (by decide +kernel) (by decide +kernel), rfl⟩
theorem FX0_34 : mF RX0 34 0 4 := ⟨_, rfl, by decide, aw_of 149 (by decide +kernel) (by decide +kernel)⟩
theorem FwX0_34 : mFw RX0 34 0 4 := ⟨_, rfl, by decide, aw_of 149 (by decide +kernel) (by decide +kernel), rfl⟩
theorem FX5_121 : mF RX5 121 0 4 := ⟨_, rfl, by decide, aw_of 150 (by decide +kernel) (by decide +kernel)⟩
theorem FwX5_121 : mFw RX5 121 0 4 := ⟨_, rfl, by decide, aw_of 150 (by decide +kernel) (by decide +kernel), rfl⟩
theorem FX0_109 : mF RX0 109 0 5 := ⟨_, rfl, by decide, aw_of 151 (by decide +kernel) (by decide +kernel)⟩
theorem FwX0_109 : mFw RX0 109 0 5 := ⟨_, rfl, by decide, aw_of 151 (by decide +kernel) (by decide +kernel), rfl⟩
theorem FX0_141 : mF RX0 141 0 6 := ⟨_, rfl, by decide, aw_of 152 (by decide +kernel) (by decide +kernel)⟩
theorem FwX0_141 : mFw RX0 141 0 6 := ⟨_, rfl, by decide, aw_of 152 (by decide +kernel) (by decide +kernel), rfl⟩
theorem FX5_128 : mF RX5 128 0 6 := ⟨_, rfl, by decide, aw_of 153 (by decide +kernel) (by decide +kernel)⟩
theorem FwX5_128 : mFw RX5 128 0 6 := ⟨_, rfl, by decide, aw_of 153 (by decide +kernel) (by decide +kernel), rfl⟩
theorem FX0_131 : mF RX0 131 0 7 := ⟨_, rfl, by decide, aw_of 154 (by decide +kernel) (by decide +kernel)⟩
theorem FwX0_131 : mFw RX0 131 0 7 := ⟨_, rfl, by decide, aw_of 154 (by decide +kernel) (by decide +kernel), rfl⟩
theorem FX5_131 : mF RX5 131 0 7 := ⟨_, rfl, by decide, aw_of 155 (by decide +kernel) (by decide +kernel)⟩
theorem FwX5_131 : mFw RX5 131 0 7 := ⟨_, rfl, by decide, aw_of 155 (by decide +kernel) (by decide +kernel), rfl⟩
theorem FX5_18 : mF RX5 18 5 0 := ⟨_, rfl, by decide, aw_of 173 (by decide +kernel) (by decide +kernel)⟩
theorem FfX5_18 : mFf RX5 18 5 0 := ⟨_, rfl, by decide, aw_of 173 (by decide +kernel) (by decide +kernel), rfl, rfl⟩
theorem FX5_26 : mF RX5 26 5 1 := ⟨_, rfl, by decide, aw_of 174 (by decide +kernel) (by decide +kernel)⟩
theorem FfX5_26 : mFf RX5 26 5 1 := ⟨_, rfl, by decide, aw_of 174 (by decide +kernel) (by decide +kernel), rfl, rfl⟩
theorem VL_94 : mV RL 94 yX5_begin cX5_begin 1 (some .int) 0 5 := ⟨⟨_, rfl, rfl⟩, aw_of 180 (by decide +kernel) (by decide +kernel), aw_of 181 (by decide +kernel) (by decide +kernel), aw_of 182 (by decide +kernel) (by decide +kernel), aw_of 28 (by decide +kernel) (by decide +kernel), aw_of 183 (by decide +kernel) (by decide +kernel), by decide +kernel⟩
theorem VX5_94 : mV RX5 94 yX0_startCycle cX0_startCycle 5 none 0 0 := ⟨⟨_, rfl, rfl⟩, aw_of 184 (by decide +kernel) (by decide +kernel), aw_of 185 (by decide +kernel) (by decide +kernel), aw_of 186 (by decide +kernel) (by decide +kernel), aw_of 29 (by decide +kernel) (by decide +kernel), aw_of 187 (by decide +kernel) (by decide +kernel), by decide +kernel⟩
theorem VX0_41 : mV RX0 41 yX0_see cX0_see 2 none 1 0 := ⟨⟨_, rfl, rfl⟩, aw_of 188 (by decide +kernel) (by decide +kernel), aw_of 190 (by decide +kernel) (by decide +kernel), aw_of 0 (by decide +kernel) (by decide +kernel), aw_of 29 (by decide +kernel) (by decide +kernel), aw_of 191 (by decide +kernel) (by decide +kernel), by decide +kernel⟩
theorem VX0_73 : mV RX0 73 yX4_append cX4_append 2 none 1 4 := ⟨⟨_, rfl, rfl⟩, aw_of 192 (by decide +kernel) (by decide +kernel), aw_of 193 (by decide +kernel) (by decide +kernel), aw_of 194 (by decide +kernel) (by decide +kernel), aw_of 33 (by decide +kernel) (by decide +kernel), aw_of 195 (by decide +kernel) (by decide +kernel), by decide +kernel⟩
theorem VL_101 : mV RL 101 yX5_collect cX5_collect 1 (some .int) 0 5 := ⟨⟨_, rfl, rfl⟩, aw_of 196 (by decide +kernel) (by decide +kernel), aw_of 197 (by decide +kernel) (by decide +kernel), aw_of 198 (by decide +kernel) (by decide +kernel), aw_of 28 (by decide +kernel) (by decide +kernel), aw_of 199 (by decide +kernel) (by decide +kernel), by decide +kernel⟩
theorem VX5_44 : mV RX5 44 yX0_collectWhole cX0_collectWhole 1 none 0 0 := ⟨⟨_, rfl, rfl⟩, aw_of 200 (by decide +kernel) (by decide +kernel), aw_of 201 (by decide +kernel) (by decide +kernel), aw_of 202 (by decide +kernel) (by decide +kernel), aw_of 29 (by decide +kernel) (by decide +kernel), aw_of 203 (by decide +kernel) (by decide +kernel), by decide +kernel⟩
theorem COX0_45 : Cond.constant RX0 45 1000000 ∈ AW := aw_of 204 (by decide +kernel) (by decide +kernel)
theorem VX0_46 : mV RX0 46 yX0_runUnits cX0_runUnits 3 none 1 0 := ⟨⟨_, rfl, rfl⟩, aw_of 205 (by decide +kernel) (by decide +kernel), aw_of 206 (by decide +kernel) (by decide +kernel), aw_of 207 (by decide +kernel) (by decide +kernel), aw_of 29 (by decide +kernel) (by decide +kernel), aw_of 208 (by decide +kernel) (by decide +kernel), by decide +kernel⟩
theorem VX0_52 : mV RX0 52 yX0_markNext cX0_markNext 6 none 0 0 := ⟨⟨_, rfl, rfl⟩, aw_of 209 (by decide +kernel) (by decide +kernel), aw_of 211 (by decide +kernel) (by decide +kernel), aw_of 1 (by decide +kernel) (by decide +kernel), aw_of 29 (by decide +kernel) (by decide +kernel), aw_of 212 (by decide +kernel) (by decide +kernel), by decide +kernel⟩
theorem VX0_76 : mV RX0 76 yX4_takeFirst cX4_takeFirst 2 (some (.object "ForwardHeap$HeapObject")) 0 4 := ⟨⟨_, rfl, rfl⟩, aw_of 213 (by decide +kernel) (by decide +kernel), aw_of 214 (by decide +kernel) (by decide +kernel), aw_of 215 (by decide +kernel) (by decide +kernel), aw_of 33 (by decide +kernel) (by decide +kernel), aw_of 216 (by decide +kernel) (by decide +kernel), by decide +kernel⟩
theorem VX0_80 : mV RX0 80 yX0_chooseSet cX0_chooseSet 5 none 0 0 := ⟨⟨_, rfl, rfl⟩, aw_of 217 (by decide +kernel) (by decide +kernel), aw_of 219 (by decide +kernel) (by decide +kernel), aw_of 2 (by decide +kernel) (by decide +kernel), aw_of 29 (by decide +kernel) (by decide +kernel), aw_of 220 (by decide +kernel) (by decide +kernel), by decide +kernel⟩
theorem VX0_98 : mV RX0 98 yX3_seenWords cX3_seenWords 5 (some .int) 1 3 := ⟨⟨_, rfl, rfl⟩, aw_of 221 (by decide +kernel) (by decide +kernel), aw_of 222 (by decide +kernel) (by decide +kernel), aw_of 223 (by decide +kernel) (by decide +kernel), aw_of 32 (by decide +kernel) (by decide +kernel), aw_of 224 (by decide +kernel) (by decide +kernel), by decide +kernel⟩
theorem VX3_34 : mV RX3 34 yX1_words cX1_words 1 (some .int) 0 1 := ⟨⟨_, rfl, rfl⟩, aw_of 225 (by decide +kernel) (by decide +kernel), aw_of 226 (by decide +kernel) (by decide +kernel), aw_of 227 (by decide +kernel) (by decide +kernel), aw_of 40 (by decide +kernel) (by decide +kernel), aw_of 228 (by decide +kernel) (by decide +kernel), by decide +kernel⟩
theorem VX0_102 : mV RX0 102 yX3_enterSet cX3_enterSet 1 none 0 3 := ⟨⟨_, rfl, rfl⟩, aw_of 229 (by decide +kernel) (by decide +kernel), aw_of 230 (by decide +kernel) (by decide +kernel), aw_of 231 (by decide +kernel) (by decide +kernel), aw_of 32 (by decide +kernel) (by decide +kernel), aw_of 232 (by decide +kernel) (by decide +kernel), by decide +kernel⟩
theorem VX0_55 : mV RX0 55 yX0_moveNext cX0_moveNext 6 none 0 0 := ⟨⟨_, rfl, rfl⟩, aw_of 233 (by decide +kernel) (by decide +kernel), aw_of 235 (by decide +kernel) (by decide +kernel), aw_of 3 (by decide +kernel) (by decide +kernel), aw_of 29 (by decide +kernel) (by decide +kernel), aw_of 236 (by decide +kernel) (by decide +kernel), by decide +kernel⟩
theorem VX0_105 : mV RX0 105 yX3_nextToMove cX3_nextToMove 3 (some (.object "ForwardHeap$HeapObject")) 1 3 := ⟨⟨_, rfl, rfl⟩, aw_of 237 (by decide +kernel) (by decide +kernel), aw_of 238 (by decide +kernel) (by decide +kernel), aw_of 239 (by decide +kernel) (by decide +kernel), aw_of 32 (by decide +kernel) (by decide +kernel), aw_of 240 (by decide +kernel) (by decide +kernel), by decide +kernel⟩
theorem VX0_70 : mV RX0 70 yX0_moveOrFail cX0_moveOrFail 4 none 1 0 := ⟨⟨_, rfl, rfl⟩, aw_of 241 (by decide +kernel) (by decide +kernel), aw_of 243 (by decide +kernel) (by decide +kernel), aw_of 4 (by decide +kernel) (by decide +kernel), aw_of 29 (by decide +kernel) (by decide +kernel), aw_of 244 (by decide +kernel) (by decide +kernel), by decide +kernel⟩
theorem VX0_119 : mV RX0 119 yX1_words cX1_words 1 (some .int) 0 1 := ⟨⟨_, rfl, rfl⟩, aw_of 245 (by decide +kernel) (by decide +kernel), aw_of 226 (by decide +kernel) (by decide +kernel), aw_of 227 (by decide +kernel) (by decide +kernel), aw_of 40 (by decide +kernel) (by decide +kernel), aw_of 228 (by decide +kernel) (by decide +kernel), by decide +kernel⟩
theorem VX0_123 : mV RX0 123 yX2_targetWithRoom cX2_targetWithRoom 3 (some (.object "ForwardHeap$Region")) 1 2 := ⟨⟨_, rfl, rfl⟩, aw_of 246 (by decide +kernel) (by decide +kernel), aw_of 247 (by decide +kernel) (by decide +kernel), aw_of 248 (by decide +kernel) (by decide +kernel), aw_of 31 (by decide +kernel) (by decide +kernel), aw_of 249 (by decide +kernel) (by decide +kernel), by decide +kernel⟩
theorem VX2_34 : mV RX2 34 yX3_hasRoom cX3_hasRoom 2 (some .boolean) 1 3 := ⟨⟨_, rfl, rfl⟩, aw_of 250 (by decide +kernel) (by decide +kernel), aw_of 251 (by decide +kernel) (by decide +kernel), aw_of 252 (by decide +kernel) (by decide +kernel), aw_of 32 (by decide +kernel) (by decide +kernel), aw_of 253 (by decide +kernel) (by decide +kernel), by decide +kernel⟩
theorem VX2_38 : mV RX2 38 yX2_leastFree cX2_leastFree 5 (some (.object "ForwardHeap$Region")) 0 2 := ⟨⟨_, rfl, rfl⟩, aw_of 254 (by decide +kernel) (by decide +kernel), aw_of 255 (by decide +kernel) (by decide +kernel), aw_of 256 (by decide +kernel) (by decide +kernel), aw_of 31 (by decide +kernel) (by decide +kernel), aw_of 257 (by decide +kernel) (by decide +kernel), by decide +kernel⟩
theorem VX2_45 : mV RX2 45 yX2_closeTarget cX2_closeTarget 1 none 0 2 := ⟨⟨_, rfl, rfl⟩, aw_of 258 (by decide +kernel) (by decide +kernel), aw_of 259 (by decide +kernel) (by decide +kernel), aw_of 260 (by decide +kernel) (by decide +kernel), aw_of 31 (by decide +kernel) (by decide +kernel), aw_of 261 (by decide +kernel) (by decide +kernel), by decide +kernel⟩
theorem VX0_140 : mV RX0 140 yX3_append cX3_append 2 none 1 3 := ⟨⟨_, rfl, rfl⟩, aw_of 262 (by decide +kernel) (by decide +kernel), aw_of 263 (by decide +kernel) (by decide +kernel), aw_of 264 (by decide +kernel) (by decide +kernel), aw_of 32 (by decide +kernel) (by decide +kernel), aw_of 265 (by decide +kernel) (by decide +kernel), by decide +kernel⟩
theorem VX0_58 : mV RX0 58 yX0_updateNext cX0_updateNext 1 none 0 0 := ⟨⟨_, rfl, rfl⟩, aw_of 266 (by decide +kernel) (by decide +kernel), aw_of 268 (by decide +kernel) (by decide +kernel), aw_of 5 (by decide +kernel) (by decide +kernel), aw_of 29 (by decide +kernel) (by decide +kernel), aw_of 269 (by decide +kernel) (by decide +kernel), by decide +kernel⟩
theorem VX0_144 : mV RX0 144 yX0_endCycle cX0_endCycle 5 none 0 0 := ⟨⟨_, rfl, rfl⟩, aw_of 270 (by decide +kernel) (by decide +kernel), aw_of 272 (by decide +kernel) (by decide +kernel), aw_of 6 (by decide +kernel) (by decide +kernel), aw_of 29 (by decide +kernel) (by decide +kernel), aw_of 273 (by decide +kernel) (by decide +kernel), by decide +kernel⟩
theorem VX0_147 : mV RX0 147 yX3_leaveSet cX3_leaveSet 2 none 0 3 := ⟨⟨_, rfl, rfl⟩, aw_of 274 (by decide +kernel) (by decide +kernel), aw_of 275 (by decide +kernel) (by decide +kernel), aw_of 276 (by decide +kernel) (by decide +kernel), aw_of 32 (by decide +kernel) (by decide +kernel), aw_of 277 (by decide +kernel) (by decide +kernel), by decide +kernel⟩
theorem VX0_150 : mV RX0 150 yX2_closeTarget cX2_closeTarget 1 none 0 2 := ⟨⟨_, rfl, rfl⟩, aw_of 278 (by decide +kernel) (by decide +kernel), aw_of 259 (by decide +kernel) (by decide +kernel), aw_of 260 (by decide +kernel) (by decide +kernel), aw_of 31 (by decide +kernel) (by decide +kernel), aw_of 261 (by decide +kernel) (by decide +kernel), by decide +kernel⟩
theorem VX0_49 : mV RX0 49 yX0_startCycle cX0_startCycle 5 none 0 0 := ⟨⟨_, rfl, rfl⟩, aw_of 279 (by decide +kernel) (by decide +kernel), aw_of 185 (by decide +kernel) (by decide +kernel), aw_of 186 (by decide +kernel) (by decide +kernel), aw_of 29 (by decide +kernel) (by decide +kernel), aw_of 187 (by decide +kernel) (by decide +kernel), by decide +kernel⟩
theorem VX5_102 : mV RX5 102 yX2_countFree cX2_countFree 6 (some .int) 0 2 := ⟨⟨_, rfl, rfl⟩, aw_of 280 (by decide +kernel) (by decide +kernel), aw_of 281 (by decide +kernel) (by decide +kernel), aw_of 282 (by decide +kernel) (by decide +kernel), aw_of 31 (by decide +kernel) (by decide +kernel), aw_of 283 (by decide +kernel) (by decide +kernel), by decide +kernel⟩
theorem VL_108 : mV RL 108 yX5_count cX5_count 2 (some .int) 1 5 := ⟨⟨_, rfl, rfl⟩, aw_of 284 (by decide +kernel) (by decide +kernel), aw_of 285 (by decide +kernel) (by decide +kernel), aw_of 286 (by decide +kernel) (by decide +kernel), aw_of 28 (by decide +kernel) (by decide +kernel), aw_of 287 (by decide +kernel) (by decide +kernel), by decide +kernel⟩
theorem VL_51 : mVs RL 51 yL_cell cL_cell 2 (some .int) 2 := ⟨aw_of 288 (by decide +kernel) (by decide +kernel), aw_of 289 (by decide +kernel) (by decide +kernel), aw_of 27 (by decide +kernel) (by decide +kernel), aw_of 290 (by decide +kernel) (by decide +kernel), by decide +kernel⟩
theorem VL_7 : mV RL 7 yX5_alloc cX5_alloc 7 (some .int) 3 5 := ⟨⟨_, rfl, rfl⟩, aw_of 296 (by decide +kernel) (by decide +kernel), aw_of 297 (by decide +kernel) (by decide +kernel), aw_of 298 (by decide +kernel) (by decide +kernel), aw_of 28 (by decide +kernel) (by decide +kernel), aw_of 299 (by decide +kernel) (by decide +kernel), by decide +kernel⟩
theorem VX5_27 : mVs RX5 27 yX5_checkRegister cX5_checkRegister 1 none 1 := ⟨aw_of 300 (by decide +kernel) (by decide +kernel), aw_of 301 (by decide +kernel) (by decide +kernel), aw_of 28 (by decide +kernel) (by decide +kernel), aw_of 302 (by decide +kernel) (by decide +kernel), by decide +kernel⟩
theorem VX5_38 : mV RX5 38 yX2_activeWithRoom cX2_activeWithRoom 2 (some (.object "ForwardHeap$Region")) 1 2 := ⟨⟨_, rfl, rfl⟩, aw_of 387 (by decide +kernel) (by decide +kernel), aw_of 388 (by decide +kernel) (by decide +kernel), aw_of 389 (by decide +kernel) (by decide +kernel), aw_of 31 (by decide +kernel) (by decide +kernel), aw_of 390 (by decide +kernel) (by decide +kernel), by decide +kernel⟩
theorem KX5_47 : Cond.classLink RX5 47 RX1 ∈ AW := aw_of 391 (by decide +kernel) (by decide +kernel)
theorem NX5_47 : mNw RX5 47 1 := ⟨_, rfl, KX5_47, aw_of 392 (by decide +kernel) (by decide +kernel), aw_of 40 (by decide +kernel) (by decide +kernel)⟩
theorem VX5_49 : mVi RX5 49 yX1_init cX1_init 4 3 := ⟨aw_of 393 (by decide +kernel) (by decide +kernel), aw_of 394 (by decide +kernel) (by decide +kernel), aw_of 40 (by decide +kernel) (by decide +kernel), aw_of 395 (by decide +kernel) (by decide +kernel), rfl, by decide +kernel⟩
theorem OX1_3 : Cond.methodLink RX1 3 objectInit ∈ AW := aw_of 396 (by decide +kernel) (by decide +kernel)
theorem KX1_10 : Cond.classLink RX1 10 RX1 ∈ AW := aw_of 397 (by decide +kernel) (by decide +kernel)
theorem NX1_10 : mNw RX1 10 1 := ⟨_, rfl, KX1_10, aw_of 392 (by decide +kernel) (by decide +kernel), aw_of 40 (by decide +kernel) (by decide +kernel)⟩
theorem FX1_15 : mF RX1 15 1 0 := ⟨_, rfl, by decide, aw_of 398 (by decide +kernel) (by decide +kernel)⟩
theorem FfX1_15 : mFf RX1 15 1 0 := ⟨_, rfl, by decide, aw_of 398 (by decide +kernel) (by decide +kernel), rfl, rfl⟩
theorem FX5_87 : mF RX5 87 1 0 := ⟨_, rfl, by decide, aw_of 399 (by decide +kernel) (by decide +kernel)⟩
theorem FX1_19 : mF RX1 19 1 1 := ⟨_, rfl, by decide, aw_of 400 (by decide +kernel) (by decide +kernel)⟩
theorem FfX1_19 : mFf RX1 19 1 1 := ⟨_, rfl, by decide, aw_of 400 (by decide +kernel) (by decide +kernel), rfl, rfl⟩
theorem FX5_77 : mF RX5 77 1 1 := ⟨_, rfl, by decide, aw_of 401 (by decide +kernel) (by decide +kernel)⟩
theorem FX0_83 : mF RX0 83 1 1 := ⟨_, rfl, by decide, aw_of 402 (by decide +kernel) (by decide +kernel)⟩
theorem FX1_9 : mF RX1 9 1 2 := ⟨_, rfl, by decide, aw_of 403 (by decide +kernel) (by decide +kernel)⟩
theorem FwX1_9 : mFw RX1 9 1 2 := ⟨_, rfl, by decide, aw_of 403 (by decide +kernel) (by decide +kernel), rfl⟩
theorem FX3_27 : mF RX3 27 1 2 := ⟨_, rfl, by decide, aw_of 404 (by decide +kernel) (by decide +kernel)⟩
theorem FwX3_27 : mFw RX3 27 1 2 := ⟨_, rfl, by decide, aw_of 404 (by decide +kernel) (by decide +kernel), rfl⟩
theorem FX0_112 : mF RX0 112 1 2 := ⟨_, rfl, by decide, aw_of 405 (by decide +kernel) (by decide +kernel)⟩
theorem FwX0_112 : mFw RX0 112 1 2 := ⟨_, rfl, by decide, aw_of 405 (by decide +kernel) (by decide +kernel), rfl⟩
theorem FX5_161 : mF RX5 161 1 2 := ⟨_, rfl, by decide, aw_of 406 (by decide +kernel) (by decide +kernel)⟩
theorem FwX5_161 : mFw RX5 161 1 2 := ⟨_, rfl, by decide, aw_of 406 (by decide +kernel) (by decide +kernel), rfl⟩
theorem FX3_31 : mF RX3 31 1 3 := ⟨_, rfl, by decide, aw_of 407 (by decide +kernel) (by decide +kernel)⟩
theorem FwX3_31 : mFw RX3 31 1 3 := ⟨_, rfl, by decide, aw_of 407 (by decide +kernel) (by decide +kernel), rfl⟩
theorem FX0_137 : mF RX0 137 1 3 := ⟨_, rfl, by decide, aw_of 408 (by decide +kernel) (by decide +kernel)⟩
theorem FwX0_137 : mFw RX0 137 1 3 := ⟨_, rfl, by decide, aw_of 408 (by decide +kernel) (by decide +kernel), rfl⟩
theorem FX5_168 : mF RX5 168 1 3 := ⟨_, rfl, by decide, aw_of 409 (by decide +kernel) (by decide +kernel)⟩
theorem FwX5_168 : mFw RX5 168 1 3 := ⟨_, rfl, by decide, aw_of 409 (by decide +kernel) (by decide +kernel), rfl⟩
theorem FX1_23 : mF RX1 23 1 4 := ⟨_, rfl, by decide, aw_of 410 (by decide +kernel) (by decide +kernel)⟩
theorem FwX1_23 : mFw RX1 23 1 4 := ⟨_, rfl, by decide, aw_of 410 (by decide +kernel) (by decide +kernel), rfl⟩
theorem FX3_38 : mF RX3 38 1 4 := ⟨_, rfl, by decide, aw_of 411 (by decide +kernel) (by decide +kernel)⟩
theorem FwX3_38 : mFw RX3 38 1 4 := ⟨_, rfl, by decide, aw_of 411 (by decide +kernel) (by decide +kernel), rfl⟩
theorem FX0_61 : mF RX0 61 1 4 := ⟨_, rfl, by decide, aw_of 412 (by decide +kernel) (by decide +kernel)⟩
theorem FwX0_61 : mFw RX0 61 1 4 := ⟨_, rfl, by decide, aw_of 412 (by decide +kernel) (by decide +kernel), rfl⟩
theorem FX1_26 : mF RX1 26 1 5 := ⟨_, rfl, by decide, aw_of 413 (by decide +kernel) (by decide +kernel)⟩
theorem FwX1_26 : mFw RX1 26 1 5 := ⟨_, rfl, by decide, aw_of 413 (by decide +kernel) (by decide +kernel), rfl⟩
theorem FX3_48 : mF RX3 48 1 5 := ⟨_, rfl, by decide, aw_of 414 (by decide +kernel) (by decide +kernel)⟩
theorem FwX3_48 : mFw RX3 48 1 5 := ⟨_, rfl, by decide, aw_of 414 (by decide +kernel) (by decide +kernel), rfl⟩
theorem FX0_116 : mF RX0 116 1 5 := ⟨_, rfl, by decide, aw_of 415 (by decide +kernel) (by decide +kernel)⟩
theorem FwX0_116 : mFw RX0 116 1 5 := ⟨_, rfl, by decide, aw_of 415 (by decide +kernel) (by decide +kernel), rfl⟩
theorem FX4_16 : mF RX4 16 1 6 := ⟨_, rfl, by decide, aw_of 416 (by decide +kernel) (by decide +kernel)⟩
theorem FwX4_16 : mFw RX4 16 1 6 := ⟨_, rfl, by decide, aw_of 416 (by decide +kernel) (by decide +kernel), rfl⟩
theorem VX5_52 : mV RX5 52 yX3_append cX3_append 2 none 1 3 := ⟨⟨_, rfl, rfl⟩, aw_of 432 (by decide +kernel) (by decide +kernel), aw_of 263 (by decide +kernel) (by decide +kernel), aw_of 264 (by decide +kernel) (by decide +kernel), aw_of 32 (by decide +kernel) (by decide +kernel), aw_of 265 (by decide +kernel) (by decide +kernel), by decide +kernel⟩
theorem VX5_58 : mV RX5 58 yX0_welcome cX0_welcome 2 none 1 0 := ⟨⟨_, rfl, rfl⟩, aw_of 433 (by decide +kernel) (by decide +kernel), aw_of 434 (by decide +kernel) (by decide +kernel), aw_of 435 (by decide +kernel) (by decide +kernel), aw_of 29 (by decide +kernel) (by decide +kernel), aw_of 436 (by decide +kernel) (by decide +kernel), by decide +kernel⟩
theorem VX5_65 : mVs RX5 65 yX5_placeOf cX5_placeOf 1 (some .int) 1 := ⟨aw_of 437 (by decide +kernel) (by decide +kernel), aw_of 438 (by decide +kernel) (by decide +kernel), aw_of 28 (by decide +kernel) (by decide +kernel), aw_of 439 (by decide +kernel) (by decide +kernel), by decide +kernel⟩
theorem VL_17 : mV RL 17 yX5_move cX5_move 3 none 2 5 := ⟨⟨_, rfl, rfl⟩, aw_of 443 (by decide +kernel) (by decide +kernel), aw_of 444 (by decide +kernel) (by decide +kernel), aw_of 445 (by decide +kernel) (by decide +kernel), aw_of 28 (by decide +kernel) (by decide +kernel), aw_of 446 (by decide +kernel) (by decide +kernel), by decide +kernel⟩
theorem VL_21 : mV RL 21 yX5_drop cX5_drop 3 (some .boolean) 1 5 := ⟨⟨_, rfl, rfl⟩, aw_of 450 (by decide +kernel) (by decide +kernel), aw_of 451 (by decide +kernel) (by decide +kernel), aw_of 452 (by decide +kernel) (by decide +kernel), aw_of 28 (by decide +kernel) (by decide +kernel), aw_of 453 (by decide +kernel) (by decide +kernel), by decide +kernel⟩
theorem VL_25 : mV RL 25 yX5_read cX5_read 6 (some .int) 3 5 := ⟨⟨_, rfl, rfl⟩, aw_of 458 (by decide +kernel) (by decide +kernel), aw_of 459 (by decide +kernel) (by decide +kernel), aw_of 460 (by decide +kernel) (by decide +kernel), aw_of 28 (by decide +kernel) (by decide +kernel), aw_of 461 (by decide +kernel) (by decide +kernel), by decide +kernel⟩
theorem VX5_69 : mV RX5 69 yX5_objectIn cX5_objectIn 3 (some (.object "ForwardHeap$HeapObject")) 1 5 := ⟨⟨_, rfl, rfl⟩, aw_of 462 (by decide +kernel) (by decide +kernel), aw_of 464 (by decide +kernel) (by decide +kernel), aw_of 8 (by decide +kernel) (by decide +kernel), aw_of 28 (by decide +kernel) (by decide +kernel), aw_of 465 (by decide +kernel) (by decide +kernel), by decide +kernel⟩
theorem VX5_73 : mVs RX5 73 yX5_checkField cX5_checkField 2 none 2 := ⟨aw_of 482 (by decide +kernel) (by decide +kernel), aw_of 483 (by decide +kernel) (by decide +kernel), aw_of 28 (by decide +kernel) (by decide +kernel), aw_of 484 (by decide +kernel) (by decide +kernel), by decide +kernel⟩
theorem VX5_80 : mVs RX5 80 yX5_tagOf cX5_tagOf 1 (some .int) 1 := ⟨aw_of 486 (by decide +kernel) (by decide +kernel), aw_of 487 (by decide +kernel) (by decide +kernel), aw_of 28 (by decide +kernel) (by decide +kernel), aw_of 488 (by decide +kernel) (by decide +kernel), by decide +kernel⟩
theorem VL_30 : mV RL 30 yX5_write cX5_write 6 (some .int) 3 5 := ⟨⟨_, rfl, rfl⟩, aw_of 492 (by decide +kernel) (by decide +kernel), aw_of 493 (by decide +kernel) (by decide +kernel), aw_of 494 (by decide +kernel) (by decide +kernel), aw_of 28 (by decide +kernel) (by decide +kernel), aw_of 495 (by decide +kernel) (by decide +kernel), by decide +kernel⟩
theorem VX5_83 : mV RX5 83 yX0_prepareWrite cX0_prepareWrite 3 none 2 0 := ⟨⟨_, rfl, rfl⟩, aw_of 496 (by decide +kernel) (by decide +kernel), aw_of 497 (by decide +kernel) (by decide +kernel), aw_of 498 (by decide +kernel) (by decide +kernel), aw_of 29 (by decide +kernel) (by decide +kernel), aw_of 499 (by decide +kernel) (by decide +kernel), by decide +kernel⟩
theorem VX0_66 : mV RX0 66 yX0_mayMove cX0_mayMove 2 (some .boolean) 1 0 := ⟨⟨_, rfl, rfl⟩, aw_of 500 (by decide +kernel) (by decide +kernel), aw_of 502 (by decide +kernel) (by decide +kernel), aw_of 9 (by decide +kernel) (by decide +kernel), aw_of 29 (by decide +kernel) (by decide +kernel), aw_of 503 (by decide +kernel) (by decide +kernel), by decide +kernel⟩
theorem VL_33 : mV RL 33 yX5_tag cX5_tag 2 (some .int) 1 5 := ⟨⟨_, rfl, rfl⟩, aw_of 507 (by decide +kernel) (by decide +kernel), aw_of 508 (by decide +kernel) (by decide +kernel), aw_of 509 (by decide +kernel) (by decide +kernel), aw_of 28 (by decide +kernel) (by decide +kernel), aw_of 510 (by decide +kernel) (by decide +kernel), by decide +kernel⟩
theorem VL_37 : mV RL 37 yX5_same cX5_same 3 (some .boolean) 2 5 := ⟨⟨_, rfl, rfl⟩, aw_of 514 (by decide +kernel) (by decide +kernel), aw_of 515 (by decide +kernel) (by decide +kernel), aw_of 516 (by decide +kernel) (by decide +kernel), aw_of 28 (by decide +kernel) (by decide +kernel), aw_of 517 (by decide +kernel) (by decide +kernel), by decide +kernel⟩
theorem VL_41 : mV RL 41 yX5_where cX5_where 2 (some .int) 1 5 := ⟨⟨_, rfl, rfl⟩, aw_of 521 (by decide +kernel) (by decide +kernel), aw_of 522 (by decide +kernel) (by decide +kernel), aw_of 523 (by decide +kernel) (by decide +kernel), aw_of 28 (by decide +kernel) (by decide +kernel), aw_of 524 (by decide +kernel) (by decide +kernel), by decide +kernel⟩
theorem VL_44 : mV RL 44 yX5_work cX5_work 2 (some .int) 1 5 := ⟨⟨_, rfl, rfl⟩, aw_of 528 (by decide +kernel) (by decide +kernel), aw_of 529 (by decide +kernel) (by decide +kernel), aw_of 530 (by decide +kernel) (by decide +kernel), aw_of 28 (by decide +kernel) (by decide +kernel), aw_of 531 (by decide +kernel) (by decide +kernel), by decide +kernel⟩
theorem VX5_99 : mV RX5 99 yX0_runUnits cX0_runUnits 3 none 1 0 := ⟨⟨_, rfl, rfl⟩, aw_of 533 (by decide +kernel) (by decide +kernel), aw_of 206 (by decide +kernel) (by decide +kernel), aw_of 207 (by decide +kernel) (by decide +kernel), aw_of 29 (by decide +kernel) (by decide +kernel), aw_of 208 (by decide +kernel) (by decide +kernel), by decide +kernel⟩
theorem VL_47 : mV RL 47 yX5_region cX5_region 4 (some .int) 2 5 := ⟨⟨_, rfl, rfl⟩, aw_of 537 (by decide +kernel) (by decide +kernel), aw_of 538 (by decide +kernel) (by decide +kernel), aw_of 539 (by decide +kernel) (by decide +kernel), aw_of 28 (by decide +kernel) (by decide +kernel), aw_of 540 (by decide +kernel) (by decide +kernel), by decide +kernel⟩
theorem VX5_124 : mV RX5 124 yX3_seenWords cX3_seenWords 5 (some .int) 1 3 := ⟨⟨_, rfl, rfl⟩, aw_of 542 (by decide +kernel) (by decide +kernel), aw_of 222 (by decide +kernel) (by decide +kernel), aw_of 223 (by decide +kernel) (by decide +kernel), aw_of 32 (by decide +kernel) (by decide +kernel), aw_of 224 (by decide +kernel) (by decide +kernel), by decide +kernel⟩
theorem KL_59 : Cond.classLink RL 59 RX6 ∈ AW := aw_of 543 (by decide +kernel) (by decide +kernel)
theorem NL_59 : mNw RL 59 6 := ⟨_, rfl, KL_59, aw_of 544 (by decide +kernel) (by decide +kernel), aw_of 34 (by decide +kernel) (by decide +kernel)⟩
theorem VL_61 : mVi RL 61 yX6_init cX6_init 3 2 := ⟨aw_of 545 (by decide +kernel) (by decide +kernel), aw_of 546 (by decide +kernel) (by decide +kernel), aw_of 34 (by decide +kernel) (by decide +kernel), aw_of 547 (by decide +kernel) (by decide +kernel), rfl, by decide +kernel⟩
theorem OX6_1 : Cond.methodLink RX6 1 objectInit ∈ AW := aw_of 548 (by decide +kernel) (by decide +kernel)
theorem FX6_54 : mF RX6 54 6 0 := ⟨_, rfl, by decide, aw_of 549 (by decide +kernel) (by decide +kernel)⟩
theorem FwX6_54 : mFw RX6 54 6 0 := ⟨_, rfl, by decide, aw_of 549 (by decide +kernel) (by decide +kernel), rfl⟩
theorem FX6_47 : mF RX6 47 6 1 := ⟨_, rfl, by decide, aw_of 550 (by decide +kernel) (by decide +kernel)⟩
theorem FfX6_47 : mFf RX6 47 6 1 := ⟨_, rfl, by decide, aw_of 550 (by decide +kernel) (by decide +kernel), rfl, rfl⟩
theorem FX6_51 : mF RX6 51 6 2 := ⟨_, rfl, by decide, aw_of 551 (by decide +kernel) (by decide +kernel)⟩
theorem FfX6_51 : mFf RX6 51 6 2 := ⟨_, rfl, by decide, aw_of 551 (by decide +kernel) (by decide +kernel), rfl, rfl⟩
theorem FX6_7 : mF RX6 7 6 3 := ⟨_, rfl, by decide, aw_of 552 (by decide +kernel) (by decide +kernel)⟩
theorem FfX6_7 : mFf RX6 7 6 3 := ⟨_, rfl, by decide, aw_of 552 (by decide +kernel) (by decide +kernel), rfl, rfl⟩
theorem FX6_13 : mF RX6 13 6 4 := ⟨_, rfl, by decide, aw_of 553 (by decide +kernel) (by decide +kernel)⟩
theorem FfX6_13 : mFf RX6 13 6 4 := ⟨_, rfl, by decide, aw_of 553 (by decide +kernel) (by decide +kernel), rfl, rfl⟩
theorem FX6_16 : mF RX6 16 6 5 := ⟨_, rfl, by decide, aw_of 554 (by decide +kernel) (by decide +kernel)⟩
theorem FfX6_16 : mFf RX6 16 6 5 := ⟨_, rfl, by decide, aw_of 554 (by decide +kernel) (by decide +kernel), rfl, rfl⟩
theorem FX6_57 : mF RX6 57 6 6 := ⟨_, rfl, by decide, aw_of 555 (by decide +kernel) (by decide +kernel)⟩
theorem FwX6_57 : mFw RX6 57 6 6 := ⟨_, rfl, by decide, aw_of 555 (by decide +kernel) (by decide +kernel), rfl⟩
theorem FX6_20 : mF RX6 20 6 7 := ⟨_, rfl, by decide, aw_of 556 (by decide +kernel) (by decide +kernel)⟩
theorem FfX6_20 : mFf RX6 20 6 7 := ⟨_, rfl, by decide, aw_of 556 (by decide +kernel) (by decide +kernel), rfl, rfl⟩
theorem FX6_23 : mF RX6 23 6 8 := ⟨_, rfl, by decide, aw_of 557 (by decide +kernel) (by decide +kernel)⟩
theorem FfX6_23 : mFf RX6 23 6 8 := ⟨_, rfl, by decide, aw_of 557 (by decide +kernel) (by decide +kernel), rfl, rfl⟩
theorem FX6_26 : mF RX6 26 6 9 := ⟨_, rfl, by decide, aw_of 558 (by decide +kernel) (by decide +kernel)⟩
theorem FfX6_26 : mFf RX6 26 6 9 := ⟨_, rfl, by decide, aw_of 558 (by decide +kernel) (by decide +kernel), rfl, rfl⟩
theorem FX6_29 : mF RX6 29 6 10 := ⟨_, rfl, by decide, aw_of 559 (by decide +kernel) (by decide +kernel)⟩
theorem FfX6_29 : mFf RX6 29 6 10 := ⟨_, rfl, by decide, aw_of 559 (by decide +kernel) (by decide +kernel), rfl, rfl⟩
theorem FX6_32 : mF RX6 32 6 11 := ⟨_, rfl, by decide, aw_of 560 (by decide +kernel) (by decide +kernel)⟩
theorem FfX6_32 : mFf RX6 32 6 11 := ⟨_, rfl, by decide, aw_of 560 (by decide +kernel) (by decide +kernel), rfl, rfl⟩
theorem FX6_35 : mF RX6 35 6 12 := ⟨_, rfl, by decide, aw_of 561 (by decide +kernel) (by decide +kernel)⟩
theorem FfX6_35 : mFf RX6 35 6 12 := ⟨_, rfl, by decide, aw_of 561 (by decide +kernel) (by decide +kernel), rfl, rfl⟩
theorem FX6_38 : mF RX6 38 6 13 := ⟨_, rfl, by decide, aw_of 562 (by decide +kernel) (by decide +kernel)⟩
theorem FfX6_38 : mFf RX6 38 6 13 := ⟨_, rfl, by decide, aw_of 562 (by decide +kernel) (by decide +kernel), rfl, rfl⟩
theorem FX6_41 : mF RX6 41 6 14 := ⟨_, rfl, by decide, aw_of 563 (by decide +kernel) (by decide +kernel)⟩
theorem FfX6_41 : mFf RX6 41 6 14 := ⟨_, rfl, by decide, aw_of 563 (by decide +kernel) (by decide +kernel), rfl, rfl⟩
theorem FX6_44 : mF RX6 44 6 15 := ⟨_, rfl, by decide, aw_of 564 (by decide +kernel) (by decide +kernel)⟩
theorem FfX6_44 : mFf RX6 44 6 15 := ⟨_, rfl, by decide, aw_of 564 (by decide +kernel) (by decide +kernel), rfl, rfl⟩
theorem FX6_63 : mF RX6 63 6 16 := ⟨_, rfl, by decide, aw_of 565 (by decide +kernel) (by decide +kernel)⟩
theorem FwX6_63 : mFw RX6 63 6 16 := ⟨_, rfl, by decide, aw_of 565 (by decide +kernel) (by decide +kernel), rfl⟩
theorem FX6_60 : mF RX6 60 6 17 := ⟨_, rfl, by decide, aw_of 566 (by decide +kernel) (by decide +kernel)⟩
theorem FwX6_60 : mFw RX6 60 6 17 := ⟨_, rfl, by decide, aw_of 566 (by decide +kernel) (by decide +kernel), rfl⟩
theorem FX6_70 : mF RX6 70 6 18 := ⟨_, rfl, by decide, aw_of 567 (by decide +kernel) (by decide +kernel)⟩
theorem FwX6_70 : mFw RX6 70 6 18 := ⟨_, rfl, by decide, aw_of 567 (by decide +kernel) (by decide +kernel), rfl⟩
theorem FX6_96 : mF RX6 96 6 19 := ⟨_, rfl, by decide, aw_of 568 (by decide +kernel) (by decide +kernel)⟩
theorem FwX6_96 : mFw RX6 96 6 19 := ⟨_, rfl, by decide, aw_of 568 (by decide +kernel) (by decide +kernel), rfl⟩
theorem FX6_83 : mF RX6 83 6 20 := ⟨_, rfl, by decide, aw_of 569 (by decide +kernel) (by decide +kernel)⟩
theorem FwX6_83 : mFw RX6 83 6 20 := ⟨_, rfl, by decide, aw_of 569 (by decide +kernel) (by decide +kernel), rfl⟩
theorem FX6_80 : mF RX6 80 6 21 := ⟨_, rfl, by decide, aw_of 570 (by decide +kernel) (by decide +kernel)⟩
theorem FwX6_80 : mFw RX6 80 6 21 := ⟨_, rfl, by decide, aw_of 570 (by decide +kernel) (by decide +kernel), rfl⟩
theorem AC_int : Cond.arrayClass .int ∈ AW := aw_of 616 (by decide +kernel) (by decide +kernel)
theorem AC_boolean : Cond.arrayClass .boolean ∈ AW := aw_of 617 (by decide +kernel) (by decide +kernel)
theorem VL_66 : mV RL 66 yX6_thrown cX6_thrown 1 (some .int) 0 6 := ⟨⟨_, rfl, rfl⟩, aw_of 618 (by decide +kernel) (by decide +kernel), aw_of 619 (by decide +kernel) (by decide +kernel), aw_of 620 (by decide +kernel) (by decide +kernel), aw_of 34 (by decide +kernel) (by decide +kernel), aw_of 621 (by decide +kernel) (by decide +kernel), by decide +kernel⟩
theorem VL_65 : mV RL 65 yX6_alloc cX6_alloc 7 (some .int) 3 6 := ⟨⟨_, rfl, rfl⟩, aw_of 622 (by decide +kernel) (by decide +kernel), aw_of 623 (by decide +kernel) (by decide +kernel), aw_of 624 (by decide +kernel) (by decide +kernel), aw_of 34 (by decide +kernel) (by decide +kernel), aw_of 625 (by decide +kernel) (by decide +kernel), by decide +kernel⟩
theorem VX6_117 : mVs RX6 117 yX6_isRegister cX6_isRegister 1 (some .boolean) 1 := ⟨aw_of 626 (by decide +kernel) (by decide +kernel), aw_of 627 (by decide +kernel) (by decide +kernel), aw_of 34 (by decide +kernel) (by decide +kernel), aw_of 628 (by decide +kernel) (by decide +kernel), by decide +kernel⟩
theorem VX6_120 : mV RX6 120 yX6_good cX6_good 3 (some .boolean) 2 6 := ⟨⟨_, rfl, rfl⟩, aw_of 629 (by decide +kernel) (by decide +kernel), aw_of 631 (by decide +kernel) (by decide +kernel), aw_of 10 (by decide +kernel) (by decide +kernel), aw_of 34 (by decide +kernel) (by decide +kernel), aw_of 632 (by decide +kernel) (by decide +kernel), by decide +kernel⟩
theorem VX6_124 : mV RX6 124 yX6_hasActive cX6_hasActive 3 (some .boolean) 1 6 := ⟨⟨_, rfl, rfl⟩, aw_of 633 (by decide +kernel) (by decide +kernel), aw_of 635 (by decide +kernel) (by decide +kernel), aw_of 11 (by decide +kernel) (by decide +kernel), aw_of 34 (by decide +kernel) (by decide +kernel), aw_of 636 (by decide +kernel) (by decide +kernel), by decide +kernel⟩
theorem VX6_77 : mV RX6 77 yX6_withState cX6_withState 3 (some .int) 1 6 := ⟨⟨_, rfl, rfl⟩, aw_of 637 (by decide +kernel) (by decide +kernel), aw_of 639 (by decide +kernel) (by decide +kernel), aw_of 12 (by decide +kernel) (by decide +kernel), aw_of 34 (by decide +kernel) (by decide +kernel), aw_of 640 (by decide +kernel) (by decide +kernel), by decide +kernel⟩
theorem VX6_127 : mV RX6 127 yX6_whole cX6_whole 1 none 0 6 := ⟨⟨_, rfl, rfl⟩, aw_of 641 (by decide +kernel) (by decide +kernel), aw_of 643 (by decide +kernel) (by decide +kernel), aw_of 13 (by decide +kernel) (by decide +kernel), aw_of 34 (by decide +kernel) (by decide +kernel), aw_of 644 (by decide +kernel) (by decide +kernel), by decide +kernel⟩
theorem VX6_111 : mV RX6 111 yX6_finish cX6_finish 1 none 0 6 := ⟨⟨_, rfl, rfl⟩, aw_of 645 (by decide +kernel) (by decide +kernel), aw_of 647 (by decide +kernel) (by decide +kernel), aw_of 14 (by decide +kernel) (by decide +kernel), aw_of 34 (by decide +kernel) (by decide +kernel), aw_of 648 (by decide +kernel) (by decide +kernel), by decide +kernel⟩
theorem VX6_108 : mV RX6 108 yX6_unit cX6_unit 1 none 0 6 := ⟨⟨_, rfl, rfl⟩, aw_of 649 (by decide +kernel) (by decide +kernel), aw_of 651 (by decide +kernel) (by decide +kernel), aw_of 15 (by decide +kernel) (by decide +kernel), aw_of 34 (by decide +kernel) (by decide +kernel), aw_of 652 (by decide +kernel) (by decide +kernel), by decide +kernel⟩
theorem VX6_99 : mV RX6 99 yX6_mark cX6_mark 3 none 0 6 := ⟨⟨_, rfl, rfl⟩, aw_of 653 (by decide +kernel) (by decide +kernel), aw_of 655 (by decide +kernel) (by decide +kernel), aw_of 16 (by decide +kernel) (by decide +kernel), aw_of 34 (by decide +kernel) (by decide +kernel), aw_of 656 (by decide +kernel) (by decide +kernel), by decide +kernel⟩
theorem VX6_66 : mV RX6 66 yX6_see cX6_see 2 none 1 6 := ⟨⟨_, rfl, rfl⟩, aw_of 657 (by decide +kernel) (by decide +kernel), aw_of 659 (by decide +kernel) (by decide +kernel), aw_of 17 (by decide +kernel) (by decide +kernel), aw_of 34 (by decide +kernel) (by decide +kernel), aw_of 660 (by decide +kernel) (by decide +kernel), by decide +kernel⟩
theorem VX6_73 : mV RX6 73 yX6_seenIn cX6_seenIn 4 (some .int) 1 6 := ⟨⟨_, rfl, rfl⟩, aw_of 661 (by decide +kernel) (by decide +kernel), aw_of 663 (by decide +kernel) (by decide +kernel), aw_of 18 (by decide +kernel) (by decide +kernel), aw_of 34 (by decide +kernel) (by decide +kernel), aw_of 664 (by decide +kernel) (by decide +kernel), by decide +kernel⟩
theorem VX6_102 : mV RX6 102 yX6_moveOne cX6_moveOne 3 none 0 6 := ⟨⟨_, rfl, rfl⟩, aw_of 665 (by decide +kernel) (by decide +kernel), aw_of 667 (by decide +kernel) (by decide +kernel), aw_of 19 (by decide +kernel) (by decide +kernel), aw_of 34 (by decide +kernel) (by decide +kernel), aw_of 668 (by decide +kernel) (by decide +kernel), by decide +kernel⟩
theorem VX6_86 : mV RX6 86 yX6_isToMove cX6_isToMove 2 (some .boolean) 1 6 := ⟨⟨_, rfl, rfl⟩, aw_of 669 (by decide +kernel) (by decide +kernel), aw_of 671 (by decide +kernel) (by decide +kernel), aw_of 20 (by decide +kernel) (by decide +kernel), aw_of 34 (by decide +kernel) (by decide +kernel), aw_of 672 (by decide +kernel) (by decide +kernel), by decide +kernel⟩
theorem VX6_90 : mV RX6 90 yX6_place cX6_place 2 (some .int) 1 6 := ⟨⟨_, rfl, rfl⟩, aw_of 673 (by decide +kernel) (by decide +kernel), aw_of 675 (by decide +kernel) (by decide +kernel), aw_of 21 (by decide +kernel) (by decide +kernel), aw_of 34 (by decide +kernel) (by decide +kernel), aw_of 676 (by decide +kernel) (by decide +kernel), by decide +kernel⟩
theorem VX6_93 : mV RX6 93 yX6_carry cX6_carry 4 none 1 6 := ⟨⟨_, rfl, rfl⟩, aw_of 677 (by decide +kernel) (by decide +kernel), aw_of 679 (by decide +kernel) (by decide +kernel), aw_of 22 (by decide +kernel) (by decide +kernel), aw_of 34 (by decide +kernel) (by decide +kernel), aw_of 680 (by decide +kernel) (by decide +kernel), by decide +kernel⟩
theorem VX6_105 : mV RX6 105 yX6_update cX6_update 2 none 0 6 := ⟨⟨_, rfl, rfl⟩, aw_of 681 (by decide +kernel) (by decide +kernel), aw_of 683 (by decide +kernel) (by decide +kernel), aw_of 23 (by decide +kernel) (by decide +kernel), aw_of 34 (by decide +kernel) (by decide +kernel), aw_of 684 (by decide +kernel) (by decide +kernel), by decide +kernel⟩
theorem VX6_114 : mV RX6 114 yX6_start cX6_start 2 none 0 6 := ⟨⟨_, rfl, rfl⟩, aw_of 685 (by decide +kernel) (by decide +kernel), aw_of 687 (by decide +kernel) (by decide +kernel), aw_of 24 (by decide +kernel) (by decide +kernel), aw_of 34 (by decide +kernel) (by decide +kernel), aw_of 688 (by decide +kernel) (by decide +kernel), by decide +kernel⟩
theorem VL_73 : mV RL 73 yX6_move cX6_move 3 none 2 6 := ⟨⟨_, rfl, rfl⟩, aw_of 689 (by decide +kernel) (by decide +kernel), aw_of 690 (by decide +kernel) (by decide +kernel), aw_of 691 (by decide +kernel) (by decide +kernel), aw_of 34 (by decide +kernel) (by decide +kernel), aw_of 692 (by decide +kernel) (by decide +kernel), by decide +kernel⟩
theorem VL_77 : mV RL 77 yX6_drop cX6_drop 3 (some .boolean) 1 6 := ⟨⟨_, rfl, rfl⟩, aw_of 693 (by decide +kernel) (by decide +kernel), aw_of 694 (by decide +kernel) (by decide +kernel), aw_of 695 (by decide +kernel) (by decide +kernel), aw_of 34 (by decide +kernel) (by decide +kernel), aw_of 696 (by decide +kernel) (by decide +kernel), by decide +kernel⟩
theorem VL_80 : mV RL 80 yX6_read cX6_read 4 (some .int) 3 6 := ⟨⟨_, rfl, rfl⟩, aw_of 697 (by decide +kernel) (by decide +kernel), aw_of 698 (by decide +kernel) (by decide +kernel), aw_of 699 (by decide +kernel) (by decide +kernel), aw_of 34 (by decide +kernel) (by decide +kernel), aw_of 700 (by decide +kernel) (by decide +kernel), by decide +kernel⟩
theorem VX6_130 : mV RX6 130 yX6_hasField cX6_hasField 5 (some .boolean) 4 6 := ⟨⟨_, rfl, rfl⟩, aw_of 701 (by decide +kernel) (by decide +kernel), aw_of 703 (by decide +kernel) (by decide +kernel), aw_of 25 (by decide +kernel) (by decide +kernel), aw_of 34 (by decide +kernel) (by decide +kernel), aw_of 704 (by decide +kernel) (by decide +kernel), by decide +kernel⟩
theorem VX6_134 : mV RX6 134 yX6_tagOf cX6_tagOf 2 (some .int) 1 6 := ⟨⟨_, rfl, rfl⟩, aw_of 705 (by decide +kernel) (by decide +kernel), aw_of 707 (by decide +kernel) (by decide +kernel), aw_of 26 (by decide +kernel) (by decide +kernel), aw_of 34 (by decide +kernel) (by decide +kernel), aw_of 708 (by decide +kernel) (by decide +kernel), by decide +kernel⟩
theorem VL_83 : mV RL 83 yX6_write cX6_write 6 (some .int) 3 6 := ⟨⟨_, rfl, rfl⟩, aw_of 709 (by decide +kernel) (by decide +kernel), aw_of 710 (by decide +kernel) (by decide +kernel), aw_of 711 (by decide +kernel) (by decide +kernel), aw_of 34 (by decide +kernel) (by decide +kernel), aw_of 712 (by decide +kernel) (by decide +kernel), by decide +kernel⟩
theorem VL_86 : mV RL 86 yX6_tag cX6_tag 2 (some .int) 1 6 := ⟨⟨_, rfl, rfl⟩, aw_of 713 (by decide +kernel) (by decide +kernel), aw_of 714 (by decide +kernel) (by decide +kernel), aw_of 715 (by decide +kernel) (by decide +kernel), aw_of 34 (by decide +kernel) (by decide +kernel), aw_of 716 (by decide +kernel) (by decide +kernel), by decide +kernel⟩
theorem VL_90 : mV RL 90 yX6_same cX6_same 3 (some .boolean) 2 6 := ⟨⟨_, rfl, rfl⟩, aw_of 717 (by decide +kernel) (by decide +kernel), aw_of 718 (by decide +kernel) (by decide +kernel), aw_of 719 (by decide +kernel) (by decide +kernel), aw_of 34 (by decide +kernel) (by decide +kernel), aw_of 720 (by decide +kernel) (by decide +kernel), by decide +kernel⟩
theorem VL_93 : mV RL 93 yX6_where cX6_where 2 (some .int) 1 6 := ⟨⟨_, rfl, rfl⟩, aw_of 721 (by decide +kernel) (by decide +kernel), aw_of 722 (by decide +kernel) (by decide +kernel), aw_of 723 (by decide +kernel) (by decide +kernel), aw_of 34 (by decide +kernel) (by decide +kernel), aw_of 724 (by decide +kernel) (by decide +kernel), by decide +kernel⟩
theorem VL_97 : mV RL 97 yX6_begin cX6_begin 1 (some .int) 0 6 := ⟨⟨_, rfl, rfl⟩, aw_of 725 (by decide +kernel) (by decide +kernel), aw_of 726 (by decide +kernel) (by decide +kernel), aw_of 727 (by decide +kernel) (by decide +kernel), aw_of 34 (by decide +kernel) (by decide +kernel), aw_of 728 (by decide +kernel) (by decide +kernel), by decide +kernel⟩
theorem VL_100 : mV RL 100 yX6_work cX6_work 3 (some .int) 1 6 := ⟨⟨_, rfl, rfl⟩, aw_of 729 (by decide +kernel) (by decide +kernel), aw_of 730 (by decide +kernel) (by decide +kernel), aw_of 731 (by decide +kernel) (by decide +kernel), aw_of 34 (by decide +kernel) (by decide +kernel), aw_of 732 (by decide +kernel) (by decide +kernel), by decide +kernel⟩
theorem VL_104 : mV RL 104 yX6_collect cX6_collect 3 (some .int) 0 6 := ⟨⟨_, rfl, rfl⟩, aw_of 733 (by decide +kernel) (by decide +kernel), aw_of 734 (by decide +kernel) (by decide +kernel), aw_of 735 (by decide +kernel) (by decide +kernel), aw_of 34 (by decide +kernel) (by decide +kernel), aw_of 736 (by decide +kernel) (by decide +kernel), by decide +kernel⟩
theorem VL_107 : mV RL 107 yX6_region cX6_region 3 (some .int) 2 6 := ⟨⟨_, rfl, rfl⟩, aw_of 737 (by decide +kernel) (by decide +kernel), aw_of 738 (by decide +kernel) (by decide +kernel), aw_of 739 (by decide +kernel) (by decide +kernel), aw_of 34 (by decide +kernel) (by decide +kernel), aw_of 740 (by decide +kernel) (by decide +kernel), by decide +kernel⟩
theorem VL_111 : mV RL 111 yX6_count cX6_count 2 (some .int) 1 6 := ⟨⟨_, rfl, rfl⟩, aw_of 741 (by decide +kernel) (by decide +kernel), aw_of 742 (by decide +kernel) (by decide +kernel), aw_of 743 (by decide +kernel) (by decide +kernel), aw_of 34 (by decide +kernel) (by decide +kernel), aw_of 744 (by decide +kernel) (by decide +kernel), by decide +kernel⟩
theorem AC_long : Cond.arrayClass .long ∈ AW := aw_of 745 (by decide +kernel) (by decide +kernel)
end
section
/-! ints as integers: iv x, and what the machine does with them -/
def iv (x : Int) : Int32 := Int32.ofInt x
abbrev rng (x : Int) : Prop := -2147483648 ≤ x ∧ x < 2147483648
theorem iv_toInt {x : Int} (h : rng x) : (iv x).toInt = x := by
  obtain ⟨h1, h2⟩ := h
  exact Int32.toInt_ofInt_of_le (by omega) (by omega)
theorem iv_of (x : Int32) : x = iv x.toInt := (Int32.ofInt_toInt x).symm
theorem iv_rng (x : Int32) : rng x.toInt := ⟨Int32.le_toInt x, Int32.toInt_lt x⟩
theorem iv_add (x y : Int) : iv x + iv y = iv (x + y) := (Int32.ofInt_add x y).symm
theorem iv_sub (x y : Int) : iv x - iv y = iv (x - y) := (Int32.ofInt_sub x y).symm
theorem iv_mul (x y : Int) : iv x * iv y = iv (x * y) := (Int32.ofInt_mul x y).symm
theorem iv_lt {x y : Int} (hx : rng x) (hy : rng y) : iv x < iv y ↔ x < y := by rw [Int32.lt_iff_toInt_lt, iv_toInt hx, iv_toInt hy]
theorem iv_le {x y : Int} (hx : rng x) (hy : rng y) : iv x ≤ iv y ↔ x ≤ y := by rw [Int32.le_iff_toInt_le, iv_toInt hx, iv_toInt hy]
theorem iv_eq {x y : Int} (hx : rng x) (hy : rng y) : iv x = iv y ↔ x = y := by rw [← Int32.toInt_inj, iv_toInt hx, iv_toInt hy]
theorem iv_nI (n : Nat) : nI n = iv (n : Int) := Int32.ofInt_eq_ofNat.symm
theorem iv_nat {x : Int} (h : 0 ≤ x) : iv x = nI x.toNat := by rw [iv_nI, Int.toNat_of_nonneg h]
theorem iv_inj {x : Int} {v : Int32} (h : v = iv x) (hx : rng x) : v.toInt = x := by rw [h, iv_toInt hx]
section MI
variable {p : Program} {l : Launch} {e : Env} {R : Room} {s : State} {m : MethodId} {args : Array Value} {below : List Frame} {meth : Method} {c : Code} {H : Heap} {locs : List Loc} {cells slots : Nat} {Q : State → Prop}
variable {cc : ByteArray} {pc nL : Nat} {ls : Array Slot} {rest : List Value} {L : List (Option Value)}
theorem m_iadd {x y : Int} (hx : p.tables.exec = Jvm.exec) (hb : c.code = cc) (hd : decode cc pc = .ok (.iadd, 1)) (kk : W p l e R s m args below meth c H locs cells slots Q (F0 m (pc + 1) ls (.int (iv (x + y)) :: rest))) : W p l e R s m args below meth c H locs cells slots Q (F0 m pc ls (.int (iv y) :: .int (iv x) :: rest)) := lv_iadd hx hb hd (by rw [iv_add]; exact kk)
theorem m_isub {x y : Int} (hx : p.tables.exec = Jvm.exec) (hb : c.code = cc) (hd : decode cc pc = .ok (.isub, 1)) (kk : W p l e R s m args below meth c H locs cells slots Q (F0 m (pc + 1) ls (.int (iv (x - y)) :: rest))) : W p l e R s m args below meth c H locs cells slots Q (F0 m pc ls (.int (iv y) :: .int (iv x) :: rest)) := lv_isub hx hb hd (by rw [iv_sub]; exact kk)
theorem m_imul {x y : Int} (hx : p.tables.exec = Jvm.exec) (hb : c.code = cc) (hd : decode cc pc = .ok (.imul, 1)) (kk : W p l e R s m args below meth c H locs cells slots Q (F0 m (pc + 1) ls (.int (iv (x * y)) :: rest))) : W p l e R s m args below meth c H locs cells slots Q (F0 m pc ls (.int (iv y) :: .int (iv x) :: rest)) := lv_imul hx hb hd (by rw [iv_mul]; exact kk)
theorem m_iincv (hx : p.tables.exec = Jvm.exec) (hb : c.code = cc) (hL : lq ls L) {i : Nat} {n x : Int} (hd : decode cc pc = .ok (.iinc i n, 3)) (h : L[i]? = some (some (.int (iv x))))
    (kk : ∀ ls' : Array Slot, lq ls' (L.set i (some (.int (iv (x + n))))) → W p l e R s m args below meth c H locs cells slots Q (F0 m (pc + 3) ls' rest)) : W p l e R s m args below meth c H locs cells slots Q (F0 m pc ls rest) := m_iinc hx hb hL hd h (iv_add x n) kk
theorem m_if_eq (hx : p.tables.exec = Jvm.exec) (hb : c.code = cc) {x : Int} {off : Int} {tgt : Nat} (hd : decode cc pc = .ok (.ifCond .eq off, 3)) (ht : (pc : Int) + off = (tgt : Int)) (rx : rng x)
    (kt : x = 0 → W p l e R s m args below meth c H locs cells slots Q (F0 m tgt ls rest)) (kf : x ≠ 0 → W p l e R s m args below meth c H locs cells slots Q (F0 m (pc + 3) ls rest)) : W p l e R s m args below meth c H locs cells slots Q (F0 m pc ls (.int (iv x) :: rest)) :=
  lv_if_eq hx hb hd ht (fun h => kt ((iv_eq (y := 0) rx (by decide)).mp h)) (fun h => kf (fun q => h ((iv_eq (y := 0) rx (by decide)).mpr q)))
theorem m_if_ne (hx : p.tables.exec = Jvm.exec) (hb : c.code = cc) {x : Int} {off : Int} {tgt : Nat} (hd : decode cc pc = .ok (.ifCond .ne off, 3)) (ht : (pc : Int) + off = (tgt : Int)) (rx : rng x)
    (kt : x ≠ 0 → W p l e R s m args below meth c H locs cells slots Q (F0 m tgt ls rest)) (kf : x = 0 → W p l e R s m args below meth c H locs cells slots Q (F0 m (pc + 3) ls rest)) : W p l e R s m args below meth c H locs cells slots Q (F0 m pc ls (.int (iv x) :: rest)) :=
  lv_if_ne hx hb hd ht (fun h => kt (fun q => h ((iv_eq (y := 0) rx (by decide)).mpr q))) (fun h => kf ((iv_eq (y := 0) rx (by decide)).mp h))
theorem m_if_lt (hx : p.tables.exec = Jvm.exec) (hb : c.code = cc) {x : Int} {off : Int} {tgt : Nat} (hd : decode cc pc = .ok (.ifCond .lt off, 3)) (ht : (pc : Int) + off = (tgt : Int)) (rx : rng x)
    (kt : x < 0 → W p l e R s m args below meth c H locs cells slots Q (F0 m tgt ls rest)) (kf : ¬ x < 0 → W p l e R s m args below meth c H locs cells slots Q (F0 m (pc + 3) ls rest)) : W p l e R s m args below meth c H locs cells slots Q (F0 m pc ls (.int (iv x) :: rest)) :=
  lv_if_lt hx hb hd ht (fun h => kt ((iv_lt (y := 0) rx (by decide)).mp h)) (fun h => kf (fun q => h ((iv_lt (y := 0) rx (by decide)).mpr q)))
theorem m_if_ge (hx : p.tables.exec = Jvm.exec) (hb : c.code = cc) {x : Int} {off : Int} {tgt : Nat} (hd : decode cc pc = .ok (.ifCond .ge off, 3)) (ht : (pc : Int) + off = (tgt : Int)) (rx : rng x)
    (kt : 0 ≤ x → W p l e R s m args below meth c H locs cells slots Q (F0 m tgt ls rest)) (kf : ¬ 0 ≤ x → W p l e R s m args below meth c H locs cells slots Q (F0 m (pc + 3) ls rest)) : W p l e R s m args below meth c H locs cells slots Q (F0 m pc ls (.int (iv x) :: rest)) :=
  lv_if_ge hx hb hd ht (fun h => kt ((iv_le (x := 0) (by decide) rx).mp h)) (fun h => kf (fun q => h ((iv_le (x := 0) (by decide) rx).mpr q)))
theorem m_if_le (hx : p.tables.exec = Jvm.exec) (hb : c.code = cc) {x : Int} {off : Int} {tgt : Nat} (hd : decode cc pc = .ok (.ifCond .le off, 3)) (ht : (pc : Int) + off = (tgt : Int)) (rx : rng x)
    (kt : x ≤ 0 → W p l e R s m args below meth c H locs cells slots Q (F0 m tgt ls rest)) (kf : ¬ x ≤ 0 → W p l e R s m args below meth c H locs cells slots Q (F0 m (pc + 3) ls rest)) : W p l e R s m args below meth c H locs cells slots Q (F0 m pc ls (.int (iv x) :: rest)) :=
  lv_if_le hx hb hd ht (fun h => kt ((iv_le (y := 0) rx (by decide)).mp h)) (fun h => kf (fun q => h ((iv_le (y := 0) rx (by decide)).mpr q)))
theorem m_icmp_eq (hx : p.tables.exec = Jvm.exec) (hb : c.code = cc) {x y : Int} {off : Int} {tgt : Nat} (hd : decode cc pc = .ok (.if_icmp .eq off, 3)) (ht : (pc : Int) + off = (tgt : Int)) (rx : rng x) (ry : rng y)
    (kt : x = y → W p l e R s m args below meth c H locs cells slots Q (F0 m tgt ls rest)) (kf : x ≠ y → W p l e R s m args below meth c H locs cells slots Q (F0 m (pc + 3) ls rest)) : W p l e R s m args below meth c H locs cells slots Q (F0 m pc ls (.int (iv y) :: .int (iv x) :: rest)) :=
  lv_icmp_eq hx hb hd ht (fun h => kt ((iv_eq rx ry).mp h)) (fun h => kf (fun q => h ((iv_eq rx ry).mpr q)))
theorem m_icmp_ne (hx : p.tables.exec = Jvm.exec) (hb : c.code = cc) {x y : Int} {off : Int} {tgt : Nat} (hd : decode cc pc = .ok (.if_icmp .ne off, 3)) (ht : (pc : Int) + off = (tgt : Int)) (rx : rng x) (ry : rng y)
    (kt : x ≠ y → W p l e R s m args below meth c H locs cells slots Q (F0 m tgt ls rest)) (kf : x = y → W p l e R s m args below meth c H locs cells slots Q (F0 m (pc + 3) ls rest)) : W p l e R s m args below meth c H locs cells slots Q (F0 m pc ls (.int (iv y) :: .int (iv x) :: rest)) :=
  lv_icmp_ne hx hb hd ht (fun h => kt (fun q => h ((iv_eq rx ry).mpr q))) (fun h => kf ((iv_eq rx ry).mp h))
theorem m_icmp_lt (hx : p.tables.exec = Jvm.exec) (hb : c.code = cc) {x y : Int} {off : Int} {tgt : Nat} (hd : decode cc pc = .ok (.if_icmp .lt off, 3)) (ht : (pc : Int) + off = (tgt : Int)) (rx : rng x) (ry : rng y)
    (kt : x < y → W p l e R s m args below meth c H locs cells slots Q (F0 m tgt ls rest)) (kf : ¬ x < y → W p l e R s m args below meth c H locs cells slots Q (F0 m (pc + 3) ls rest)) : W p l e R s m args below meth c H locs cells slots Q (F0 m pc ls (.int (iv y) :: .int (iv x) :: rest)) :=
  lv_icmp_lt hx hb hd ht (fun h => kt ((iv_lt rx ry).mp h)) (fun h => kf (fun q => h ((iv_lt rx ry).mpr q)))
theorem m_icmp_ge (hx : p.tables.exec = Jvm.exec) (hb : c.code = cc) {x y : Int} {off : Int} {tgt : Nat} (hd : decode cc pc = .ok (.if_icmp .ge off, 3)) (ht : (pc : Int) + off = (tgt : Int)) (rx : rng x) (ry : rng y)
    (kt : y ≤ x → W p l e R s m args below meth c H locs cells slots Q (F0 m tgt ls rest)) (kf : ¬ y ≤ x → W p l e R s m args below meth c H locs cells slots Q (F0 m (pc + 3) ls rest)) : W p l e R s m args below meth c H locs cells slots Q (F0 m pc ls (.int (iv y) :: .int (iv x) :: rest)) :=
  lv_icmp_ge hx hb hd ht (fun h => kt ((iv_le ry rx).mp h)) (fun h => kf (fun q => h ((iv_le ry rx).mpr q)))
theorem m_icmp_gt (hx : p.tables.exec = Jvm.exec) (hb : c.code = cc) {x y : Int} {off : Int} {tgt : Nat} (hd : decode cc pc = .ok (.if_icmp .gt off, 3)) (ht : (pc : Int) + off = (tgt : Int)) (rx : rng x) (ry : rng y)
    (kt : y < x → W p l e R s m args below meth c H locs cells slots Q (F0 m tgt ls rest)) (kf : ¬ y < x → W p l e R s m args below meth c H locs cells slots Q (F0 m (pc + 3) ls rest)) : W p l e R s m args below meth c H locs cells slots Q (F0 m pc ls (.int (iv y) :: .int (iv x) :: rest)) :=
  lv_icmp_gt hx hb hd ht (fun h => kt ((iv_lt ry rx).mp h)) (fun h => kf (fun q => h ((iv_lt ry rx).mpr q)))
theorem m_icmp_le (hx : p.tables.exec = Jvm.exec) (hb : c.code = cc) {x y : Int} {off : Int} {tgt : Nat} (hd : decode cc pc = .ok (.if_icmp .le off, 3)) (ht : (pc : Int) + off = (tgt : Int)) (rx : rng x) (ry : rng y)
    (kt : x ≤ y → W p l e R s m args below meth c H locs cells slots Q (F0 m tgt ls rest)) (kf : ¬ x ≤ y → W p l e R s m args below meth c H locs cells slots Q (F0 m (pc + 3) ls rest)) : W p l e R s m args below meth c H locs cells slots Q (F0 m pc ls (.int (iv y) :: .int (iv x) :: rest)) :=
  lv_icmp_le hx hb hd ht (fun h => kt ((iv_le rx ry).mp h)) (fun h => kf (fun q => h ((iv_le rx ry).mpr q)))
end MI
/-! the reference's state: component k (its field's number), place i -/
abbrev rS : Type := Nat → Nat → Int
def up (A : rS) (k i : Nat) (v : Int) : rS := fun k' i' => if k' = k ∧ i' = i then v else A k' i'
/-- is it an array, of what kind and length -/
def rar (k : Nat) : Bool := match k with
  | 3 => true
  | 4 => true
  | 5 => true
  | 7 => true
  | 8 => true
  | 9 => true
  | 10 => true
  | 11 => true
  | 12 => true
  | 13 => true
  | 14 => true
  | 15 => true
  | _ => false
def rkd (k : Nat) : Nat := match k with
  | 5 => 1
  | 12 => 1
  | 13 => 1
  | _ => 0
def rln (k : Nat) : Nat := match k with
  | 3 => 16
  | 4 => 16
  | 5 => 16
  | 11 => 13020
  | 14 => 10
  | _ => 620
def aK (k : Nat) : Nat := 16 * k + 12
def RR (A : rS) (μ : mM) : Prop := sh μ 6 = some (.inl 6) ∧ (∀ k, rar k = false → mi μ 6 k = iv (A k 0)) ∧ (∀ k, rar k = true → mq μ 6 k = some (aK k) ∧ sh μ (aK k) = some (.inr (rkd k, rln k)) ∧ ∀ i, i < rln k → mi μ (aK k) i = iv (A k i))
theorem RR.s {A : rS} {μ : mM} (h : RR A μ) (k : Nat) (hk : rar k = false) : mi μ 6 k = iv (A k 0) := h.2.1 k hk
theorem RR.q {A : rS} {μ : mM} (h : RR A μ) (k : Nat) (hk : rar k = true) : mq μ 6 k = some (aK k) := (h.2.2 k hk).1
theorem RR.h {A : rS} {μ : mM} (h : RR A μ) (k : Nat) (hk : rar k = true) : sh μ (aK k) = some (.inr (rkd k, rln k)) := (h.2.2 k hk).2.1
theorem RR.a {A : rS} {μ : mM} (h : RR A μ) (k : Nat) (hk : rar k = true) {i : Nat} (hi : i < rln k) : mi μ (aK k) i = iv (A k i) := (h.2.2 k hk).2.2 i hi
theorem RR.setS {A : rS} {μ : mM} (h : RR A μ) (k : Nat) (hk : rar k = false) (v : Int) : RR (up A k 0 v) (setI μ 6 k (iv v)) := by
  refine ⟨h.1, fun j hj => ?_, fun j hj => ⟨h.q j hj, h.h j hj, fun i hi => ?_⟩⟩
  · rw [mi_I]
    unfold up
    by_cases e : j = k
    · simp [e]
    · simp [e, h.s j hj]
  · rw [mi_I, if_neg (by unfold aK; omega), h.a j hj hi]
    unfold up
    rw [if_neg (fun q => by rw [q.1, hk] at hj; cases hj)]
theorem RR.setA {A : rS} {μ : mM} (h : RR A μ) (k : Nat) (hk : rar k = true) (i : Nat) (v : Int) : RR (up A k i v) (setI μ (aK k) i (iv v)) := by
  refine ⟨h.1, fun j hj => ?_, fun j hj => ⟨h.q j hj, h.h j hj, fun i' hi => ?_⟩⟩
  · rw [mi_I, if_neg (by unfold aK; omega), h.s j hj]
    unfold up
    rw [if_neg (fun q => by rw [q.1, hk] at hj; cases hj)]
  · rw [mi_I]
    unfold up
    by_cases e : j = k ∧ i' = i
    · rw [if_pos (by unfold aK; omega), if_pos e]
    · rw [if_neg (by unfold aK; omega), if_neg e, h.a j hj hi]
end
section
/-! bounds of the reference's state (printed by wip/tools/ref1.py), its rows -/
def slo (k : Nat) : Int := match k with
  | 0 => 0
  | 1 => 3
  | 2 => 0
  | 3 => 0
  | 4 => 0
  | 5 => 0
  | 6 => 0
  | 7 => 0
  | 8 => 0
  | 9 => 0
  | 10 => (-2147483648)
  | 11 => (-1)
  | 12 => 0
  | 13 => 0
  | 14 => (-1)
  | 15 => 0
  | 16 => 0
  | 17 => 0
  | 18 => 0
  | 19 => 0
  | _ => 0
def shi (k : Nat) : Int := match k with
  | 0 => 2
  | 1 => 16
  | 2 => 128
  | 3 => 4
  | 4 => 128
  | 5 => 1
  | 6 => 620
  | 7 => 15
  | 8 => 128
  | 9 => 22
  | 10 => 2147483647
  | 11 => 619
  | 12 => 1
  | 13 => 1
  | 14 => 619
  | 15 => 619
  | 16 => 620
  | 17 => 620
  | 18 => 3
  | 19 => 16
  | _ => 0
def RI (A : rS) : Prop := ∀ k i, k < 20 → slo k ≤ A k i ∧ A k i ≤ shi k
theorem RI.upd {A : rS} (h : RI A) (k i : Nat) (v : Int) (hv : k < 20 → slo k ≤ v ∧ v ≤ shi k) : RI (up A k i v) := by
  intro k' i' hk
  show slo k' ≤ (if k' = k ∧ i' = i then v else A k' i') ∧ (if k' = k ∧ i' = i then v else A k' i') ≤ shi k'
  by_cases e : k' = k ∧ i' = i
  · rw [if_pos e, e.1]
    exact hv (by rw [← e.1]; exact hk)
  · rw [if_neg e]
    exact h k' i' hk
theorem RI.b0 {A : rS} (h : RI A) (i : Nat) : (0 : Int) ≤ A 0 i ∧ A 0 i ≤ 2 := h 0 i (by decide)
theorem RI.u0 {A : rS} (h : RI A) (i : Nat) {v : Int} (hv : (0 : Int) ≤ v ∧ v ≤ 2) : RI (up A 0 i v) := h.upd 0 i v (fun _ => hv)
theorem RI.b1 {A : rS} (h : RI A) (i : Nat) : (3 : Int) ≤ A 1 i ∧ A 1 i ≤ 16 := h 1 i (by decide)
theorem RI.u1 {A : rS} (h : RI A) (i : Nat) {v : Int} (hv : (3 : Int) ≤ v ∧ v ≤ 16) : RI (up A 1 i v) := h.upd 1 i v (fun _ => hv)
theorem RI.b2 {A : rS} (h : RI A) (i : Nat) : (0 : Int) ≤ A 2 i ∧ A 2 i ≤ 128 := h 2 i (by decide)
theorem RI.u2 {A : rS} (h : RI A) (i : Nat) {v : Int} (hv : (0 : Int) ≤ v ∧ v ≤ 128) : RI (up A 2 i v) := h.upd 2 i v (fun _ => hv)
theorem RI.b3 {A : rS} (h : RI A) (i : Nat) : (0 : Int) ≤ A 3 i ∧ A 3 i ≤ 4 := h 3 i (by decide)
theorem RI.u3 {A : rS} (h : RI A) (i : Nat) {v : Int} (hv : (0 : Int) ≤ v ∧ v ≤ 4) : RI (up A 3 i v) := h.upd 3 i v (fun _ => hv)
theorem RI.b4 {A : rS} (h : RI A) (i : Nat) : (0 : Int) ≤ A 4 i ∧ A 4 i ≤ 128 := h 4 i (by decide)
theorem RI.u4 {A : rS} (h : RI A) (i : Nat) {v : Int} (hv : (0 : Int) ≤ v ∧ v ≤ 128) : RI (up A 4 i v) := h.upd 4 i v (fun _ => hv)
theorem RI.b5 {A : rS} (h : RI A) (i : Nat) : (0 : Int) ≤ A 5 i ∧ A 5 i ≤ 1 := h 5 i (by decide)
theorem RI.u5 {A : rS} (h : RI A) (i : Nat) {v : Int} (hv : (0 : Int) ≤ v ∧ v ≤ 1) : RI (up A 5 i v) := h.upd 5 i v (fun _ => hv)
theorem RI.b6 {A : rS} (h : RI A) (i : Nat) : (0 : Int) ≤ A 6 i ∧ A 6 i ≤ 620 := h 6 i (by decide)
theorem RI.u6 {A : rS} (h : RI A) (i : Nat) {v : Int} (hv : (0 : Int) ≤ v ∧ v ≤ 620) : RI (up A 6 i v) := h.upd 6 i v (fun _ => hv)
theorem RI.b7 {A : rS} (h : RI A) (i : Nat) : (0 : Int) ≤ A 7 i ∧ A 7 i ≤ 15 := h 7 i (by decide)
theorem RI.u7 {A : rS} (h : RI A) (i : Nat) {v : Int} (hv : (0 : Int) ≤ v ∧ v ≤ 15) : RI (up A 7 i v) := h.upd 7 i v (fun _ => hv)
theorem RI.b8 {A : rS} (h : RI A) (i : Nat) : (0 : Int) ≤ A 8 i ∧ A 8 i ≤ 128 := h 8 i (by decide)
theorem RI.u8 {A : rS} (h : RI A) (i : Nat) {v : Int} (hv : (0 : Int) ≤ v ∧ v ≤ 128) : RI (up A 8 i v) := h.upd 8 i v (fun _ => hv)
theorem RI.b9 {A : rS} (h : RI A) (i : Nat) : (0 : Int) ≤ A 9 i ∧ A 9 i ≤ 22 := h 9 i (by decide)
theorem RI.u9 {A : rS} (h : RI A) (i : Nat) {v : Int} (hv : (0 : Int) ≤ v ∧ v ≤ 22) : RI (up A 9 i v) := h.upd 9 i v (fun _ => hv)
theorem RI.b10 {A : rS} (h : RI A) (i : Nat) : (-2147483648 : Int) ≤ A 10 i ∧ A 10 i ≤ 2147483647 := h 10 i (by decide)
theorem RI.u10 {A : rS} (h : RI A) (i : Nat) {v : Int} (hv : (-2147483648 : Int) ≤ v ∧ v ≤ 2147483647) : RI (up A 10 i v) := h.upd 10 i v (fun _ => hv)
theorem RI.b11 {A : rS} (h : RI A) (i : Nat) : (-1 : Int) ≤ A 11 i ∧ A 11 i ≤ 619 := h 11 i (by decide)
theorem RI.u11 {A : rS} (h : RI A) (i : Nat) {v : Int} (hv : (-1 : Int) ≤ v ∧ v ≤ 619) : RI (up A 11 i v) := h.upd 11 i v (fun _ => hv)
theorem RI.b12 {A : rS} (h : RI A) (i : Nat) : (0 : Int) ≤ A 12 i ∧ A 12 i ≤ 1 := h 12 i (by decide)
theorem RI.u12 {A : rS} (h : RI A) (i : Nat) {v : Int} (hv : (0 : Int) ≤ v ∧ v ≤ 1) : RI (up A 12 i v) := h.upd 12 i v (fun _ => hv)
theorem RI.b13 {A : rS} (h : RI A) (i : Nat) : (0 : Int) ≤ A 13 i ∧ A 13 i ≤ 1 := h 13 i (by decide)
theorem RI.u13 {A : rS} (h : RI A) (i : Nat) {v : Int} (hv : (0 : Int) ≤ v ∧ v ≤ 1) : RI (up A 13 i v) := h.upd 13 i v (fun _ => hv)
theorem RI.b14 {A : rS} (h : RI A) (i : Nat) : (-1 : Int) ≤ A 14 i ∧ A 14 i ≤ 619 := h 14 i (by decide)
theorem RI.u14 {A : rS} (h : RI A) (i : Nat) {v : Int} (hv : (-1 : Int) ≤ v ∧ v ≤ 619) : RI (up A 14 i v) := h.upd 14 i v (fun _ => hv)
theorem RI.b15 {A : rS} (h : RI A) (i : Nat) : (0 : Int) ≤ A 15 i ∧ A 15 i ≤ 619 := h 15 i (by decide)
theorem RI.u15 {A : rS} (h : RI A) (i : Nat) {v : Int} (hv : (0 : Int) ≤ v ∧ v ≤ 619) : RI (up A 15 i v) := h.upd 15 i v (fun _ => hv)
theorem RI.b16 {A : rS} (h : RI A) (i : Nat) : (0 : Int) ≤ A 16 i ∧ A 16 i ≤ 620 := h 16 i (by decide)
theorem RI.u16 {A : rS} (h : RI A) (i : Nat) {v : Int} (hv : (0 : Int) ≤ v ∧ v ≤ 620) : RI (up A 16 i v) := h.upd 16 i v (fun _ => hv)
theorem RI.b17 {A : rS} (h : RI A) (i : Nat) : (0 : Int) ≤ A 17 i ∧ A 17 i ≤ 620 := h 17 i (by decide)
theorem RI.u17 {A : rS} (h : RI A) (i : Nat) {v : Int} (hv : (0 : Int) ≤ v ∧ v ≤ 620) : RI (up A 17 i v) := h.upd 17 i v (fun _ => hv)
theorem RI.b18 {A : rS} (h : RI A) (i : Nat) : (0 : Int) ≤ A 18 i ∧ A 18 i ≤ 3 := h 18 i (by decide)
theorem RI.u18 {A : rS} (h : RI A) (i : Nat) {v : Int} (hv : (0 : Int) ≤ v ∧ v ≤ 3) : RI (up A 18 i v) := h.upd 18 i v (fun _ => hv)
theorem RI.b19 {A : rS} (h : RI A) (i : Nat) : (0 : Int) ≤ A 19 i ∧ A 19 i ≤ 16 := h 19 i (by decide)
theorem RI.u19 {A : rS} (h : RI A) (i : Nat) {v : Int} (hv : (0 : Int) ≤ v ∧ v ≤ 16) : RI (up A 19 i v) := h.upd 19 i v (fun _ => hv)
theorem RI.u20 {A : rS} (h : RI A) (i : Nat) {v : Int} : RI (up A 20 i v) := h.upd 20 i v (fun h => absurd h (by decide))
theorem RI.u21 {A : rS} (h : RI A) (i : Nat) {v : Int} : RI (up A 21 i v) := h.upd 21 i v (fun h => absurd h (by decide))
section RW
variable {p : Program} {l : Launch} {e : Env} {R : Room} {s : State} {m : MethodId} {args : Array Value} {below : List Frame} {meth : Method} {c : Code} {H : Heap} {locs : List Loc} {cells slots : Nat} {Q : State → Prop}
variable {cc : ByteArray} {pc nL : Nat} {ls : Array Slot} {rest : List Value} {G : mG} {ρ : Nat → Nat} {D : Nat → Prop} {H0 : Heap} {μ : mM} {z : Nat} {own : String} {A : rS}
theorem r_gets (C : mC G p c cc nL s m args own) (X : mX G ρ D H0 μ z H locs) (hR : RR A μ) {k idx : Nat} {w : Int} (F : mF own idx 6 k) (hk : rar k = false) (hr : mrf 6 k = false) (hw : A k 0 = w) (hd : decode cc pc = .ok (.getfield idx, 3))
    (kk : W p l e R s m args below meth c H locs cells slots Q (F0 m (pc + 3) ls (.int (iv w) :: rest))) : W p l e R s m args below meth c H locs cells slots Q (F0 m pc ls (.ref (ρ 6) :: rest)) := m_geti C X F hR.1 hr (hw ▸ hR.s k hk) hd kk
theorem r_geta (C : mC G p c cc nL s m args own) (X : mX G ρ D H0 μ z H locs) (hR : RR A μ) {k idx : Nat} (F : mF own idx 6 k) (hk : rar k = true) (hr : mrf 6 k = true) (hd : decode cc pc = .ok (.getfield idx, 3))
    (kk : W p l e R s m args below meth c H locs cells slots Q (F0 m (pc + 3) ls (.ref (ρ (aK k)) :: rest))) : W p l e R s m args below meth c H locs cells slots Q (F0 m pc ls (.ref (ρ 6) :: rest)) := m_getr C X F hR.1 hr (hR.q k hk) hd kk
theorem r_puts (C : mC G p c cc nL s m args own) (X : mX G ρ D H0 μ z H locs) (hR : RR A μ) {k idx : Nat} {v : Int} (F : mFw own idx 6 k) (hk : rar k = false) (ht : mty 6 k = .int) (hd : decode cc pc = .ok (.putfield idx, 3))
    (kk : ∀ (H' : Heap) (locs' : List Loc), mX G ρ D H0 (setI μ 6 k (iv v)) z H' locs' → RR (up A k 0 v) (setI μ 6 k (iv v)) → W p l e R s m args below meth c H' locs' cells slots Q (F0 m (pc + 3) ls rest)) : W p l e R s m args below meth c H locs cells slots Q (F0 m pc ls (.int (iv v) :: .ref (ρ 6) :: rest)) :=
  m_puti C X F hR.1 ht hd (fun H' locs' X' => kk H' locs' X' (hR.setS k hk v))
theorem r_iald (C : mC G p c cc nL s m args own) (X : mX G ρ D H0 μ z H locs) (hR : RR A μ) (k : Nat) (hk : rar k = true) (h0 : rkd k = 0) {x w : Int} (h1 : 0 ≤ x) (h2 : x < rln k) (hw : A k x.toNat = w) (hd : decode cc pc = .ok (.iaload, 1))
    (kk : W p l e R s m args below meth c H locs cells slots Q (F0 m (pc + 1) ls (.int (iv w) :: rest))) : W p l e R s m args below meth c H locs cells slots Q (F0 m pc ls (.int (iv x) :: .ref (ρ (aK k)) :: rest)) := by
  have hh := hR.h k hk
  rw [h0] at hh
  exact m_iald C X hh (iv_nat h1) (by omega) (by unfold rln; split <;> decide) (hw ▸ hR.a k hk (by omega)) hd kk
theorem r_zald (C : mC G p c cc nL s m args own) (X : mX G ρ D H0 μ z H locs) (hR : RR A μ) (k : Nat) (hk : rar k = true) (h0 : rkd k = 1) {x w : Int} (h1 : 0 ≤ x) (h2 : x < rln k) (hw : A k x.toNat = w) (hd : decode cc pc = .ok (.baload, 1))
    (kk : W p l e R s m args below meth c H locs cells slots Q (F0 m (pc + 1) ls (.int (iv w) :: rest))) : W p l e R s m args below meth c H locs cells slots Q (F0 m pc ls (.int (iv x) :: .ref (ρ (aK k)) :: rest)) := by
  have hh := hR.h k hk
  rw [h0] at hh
  exact m_zald C X hh (iv_nat h1) (by omega) (by unfold rln; split <;> decide) (hw ▸ hR.a k hk (by omega)) hd kk
theorem r_iast (C : mC G p c cc nL s m args own) (X : mX G ρ D H0 μ z H locs) (hR : RR A μ) (k : Nat) (hk : rar k = true) (h0 : rkd k = 0) {x v : Int} (h1 : 0 ≤ x) (h2 : x < rln k) (hd : decode cc pc = .ok (.iastore, 1))
    (kk : ∀ (H' : Heap) (locs' : List Loc), mX G ρ D H0 (setI μ (aK k) x.toNat (iv v)) z H' locs' → RR (up A k x.toNat v) (setI μ (aK k) x.toNat (iv v)) → W p l e R s m args below meth c H' locs' cells slots Q (F0 m (pc + 1) ls rest)) : W p l e R s m args below meth c H locs cells slots Q (F0 m pc ls (.int (iv v) :: .int (iv x) :: .ref (ρ (aK k)) :: rest)) := by
  have hh := hR.h k hk
  rw [h0] at hh
  exact m_iast C X hh (iv_nat h1) (by omega) (by unfold rln; split <;> decide) hd (fun H' locs' X' => kk H' locs' X' (hR.setA k hk _ v))
theorem r_zast (C : mC G p c cc nL s m args own) (X : mX G ρ D H0 μ z H locs) (hR : RR A μ) (k : Nat) (hk : rar k = true) (h0 : rkd k = 1) {x v : Int} (h1 : 0 ≤ x) (h2 : x < rln k) (hv : v = 0 ∨ v = 1) (hd : decode cc pc = .ok (.bastore, 1))
    (kk : ∀ (H' : Heap) (locs' : List Loc), mX G ρ D H0 (setI μ (aK k) x.toNat (iv v)) z H' locs' → RR (up A k x.toNat v) (setI μ (aK k) x.toNat (iv v)) → W p l e R s m args below meth c H' locs' cells slots Q (F0 m (pc + 1) ls rest)) : W p l e R s m args below meth c H locs cells slots Q (F0 m pc ls (.int (iv v) :: .int (iv x) :: .ref (ρ (aK k)) :: rest)) := by
  have hh := hR.h k hk
  rw [h0] at hh
  exact m_zast C X hh (iv_nat h1) (by omega) (by unfold rln; split <;> decide) (by rcases hv with rfl | rfl <;> decide) hd (fun H' locs' X' => kk H' locs' X' (hR.setA k hk _ v))
end RW
end
section
/-! contracts of the reference's methods: from the state A to the state A', nothing else is touched -/
def rad (a : Nat) : Prop := a = 6 ∨ ∃ k, a = aK k
def rfr (μ μ' : mM) : Prop := (∀ a, sh μ' a = sh μ a) ∧ (∀ a k, mq μ' a k = mq μ a k) ∧ (∀ a k, mj μ' a k = mj μ a k) ∧ ∀ a k, ¬ rad a → mi μ' a k = mi μ a k
theorem rfr.rf (μ : mM) : rfr μ μ := ⟨fun _ => rfl, fun _ _ => rfl, fun _ _ => rfl, fun _ _ _ => rfl⟩
theorem rfr.tr {μ μ1 μ2 : mM} (h : rfr μ μ1) (h' : rfr μ1 μ2) : rfr μ μ2 := ⟨fun a => (h'.1 a).trans (h.1 a), fun a k => (h'.2.1 a k).trans (h.2.1 a k), fun a k => (h'.2.2.1 a k).trans (h.2.2.1 a k), fun a k n => (h'.2.2.2 a k n).trans (h.2.2.2 a k n)⟩
theorem rfr.s {μ μ1 : mM} (h : rfr μ μ1) (k : Nat) (v : Int32) : rfr μ (setI μ1 6 k v) := ⟨h.1, h.2.1, h.2.2.1, fun a j n => by rw [mi_I, if_neg (fun q => n (Or.inl q.1))]; exact h.2.2.2 a j n⟩
theorem rfr.a {μ μ1 : mM} (h : rfr μ μ1) (k i : Nat) (v : Int32) : rfr μ (setI μ1 (aK k) i v) := ⟨h.1, h.2.1, h.2.2.1, fun a j n => by rw [mi_I, if_neg (fun q => n (Or.inr ⟨k, q.1⟩))]; exact h.2.2.2 a j n⟩
abbrev rm (fr lo mc ms : Nat) : Room := { frames := fr, cells := mc, slots := ms, locals := lo }
abbrev wQ (G : mG) (ρ : Nat → Nat) (μ : mM) (z : Nat) (Post : Option Value → mM → Nat → Prop) (below : List Frame) (args : Array Value) (s : State) (mc ms : Nat) : State → Prop := MQ below (mQc G ρ μ z Post) args s mc ms (mA ρ μ z)
def rP (v0 : Option Value) (A' : rS) (μ : mM) (z : Nat) : Option Value → mM → Nat → Prop := fun v μ' z' => v = v0 ∧ z' = z ∧ RR A' μ' ∧ rfr μ μ'
abbrev MR (G : mG) (l : Launch) (y : MethodName) (cy : ByteArray) (ny : Nat) (ret : Option FieldType) (fr lo z : Nat) (ρ : Nat → Nat) (As : List Value) (μ : mM) (v0 : Option Value) (A' : rS) : Prop := MC G l y cy ny ret fr lo 0 0 z ρ As μ (rP v0 A' μ z)
section RC
variable {p : Program} {l : Launch} {e : Env} {R : Room} {s : State} {m : MethodId} {args : Array Value} {below : List Frame} {meth : Method} {c : Code} {H : Heap} {locs : List Loc} {cells slots : Nat} {Q : State → Prop}
variable {cc : ByteArray} {pc nL : Nat} {ls : Array Slot} {rest st0 : List Value} {G : mG} {ρ : Nat → Nat} {D : Nat → Prop} {H0 : Heap} {μ μ0 : mM} {z z0 : Nat} {own : String} {A A' : rS}
variable {y : MethodName} {cy : ByteArray} {ny n fr lo idx : Nat} {ret : Option FieldType} {As : List Value} {v0 : Option Value}
theorem r_vret (C : mC G p c cc nL s m args own) (X : mX G ρ (mA ρ μ0 z) s.heap μ z H locs) (hR : RR A μ) (hf : rfr μ0 μ) (hr : meth.sig.returnType = none) (hlk : meth.locks = false) (he : A = A') (hd : decode cc pc = .ok (.return_, 1)) : W p l e R s m args below meth c H locs cells slots (MQ below (mQc G ρ μ0 z (rP none A' μ0 z)) args s cells slots (mA ρ μ0 z)) (F0 m pc ls []) := m_vret C X hr hlk ⟨rfl, rfl, he ▸ hR, hf⟩ hd
theorem r_iret (C : mC G p c cc nL s m args own) (X : mX G ρ (mA ρ μ0 z) s.heap μ z H locs) (hR : RR A μ) (hf : rfr μ0 μ) {v w : Int} (hr : meth.sig.returnType = some .int) (hlk : meth.locks = false) (he : A = A') (hv : v = w) (hd : decode cc pc = .ok (.ireturn, 1)) : W p l e R s m args below meth c H locs cells slots (MQ below (mQc G ρ μ0 z (rP (some (.int (iv w))) A' μ0 z)) args s cells slots (mA ρ μ0 z)) (F0 m pc ls [.int (iv v)]) := m_iret C X hr hlk ⟨by rw [hv], rfl, he ▸ hR, hf⟩ hd
theorem r_zret (C : mC G p c cc nL s m args own) (X : mX G ρ (mA ρ μ0 z) s.heap μ z H locs) (hR : RR A μ) (hf : rfr μ0 μ) {v w : Int} (hr : meth.sig.returnType = some .boolean) (hlk : meth.locks = false) (he : A = A') (hv : v = w) (h01 : v = 0 ∨ v = 1) (hd : decode cc pc = .ok (.ireturn, 1)) : W p l e R s m args below meth c H locs cells slots (MQ below (mQc G ρ μ0 z (rP (some (.int (iv w))) A' μ0 z)) args s cells slots (mA ρ μ0 z)) (F0 m pc ls [.int (iv v)]) := m_zret C X hr hlk (by rcases h01 with rfl | rfl <;> decide) ⟨by rw [hv], rfl, he ▸ hR, hf⟩ hd
theorem r_call (C : mC G p c cc nL s m args own) (X : mX G ρ D H0 μ z H locs) (hR : RR A μ) (hf : rfr μ0 μ) (hM : MR G l y cy ny ret fr lo z ρ (.ref (ρ 6) :: As) μ v0 A') (F : mV own idx y cy ny ret n 6) (hn : As.length = n) (hRm : fr + 1 ≤ R.frames ∧ 8 + (ny + 11) + lo ≤ R.locals) (hC : cells ≤ R.cells ∧ slots ≤ R.slots) (hls : ls.size = nL)
    (hst : st0 = As.reverse ++ .ref (ρ 6) :: rest) (hrest : (rest.map fun v => v.category).sum ≤ 8) (hd : decode cc pc = .ok (.invokevirtual idx, 3))
    (kk : ∀ (μ' : mM) (H' : Heap) (locs' : List Loc), mX G ρ D H0 μ' z H' locs' → RR A' μ' → rfr μ0 μ' → W p l e R s m args below meth c H' locs' cells slots Q (F0 m (pc + 3) ls (v0.toList ++ rest))) : W p l e R s m args below meth c H locs cells slots Q (F0 m pc ls st0) :=
  m_callV C X hM F hR.1 hn hRm hC hls hst hrest hd (fun v μ' z' H' locs' hp X' => by obtain ⟨rfl, rfl, h1, h2⟩ := hp; exact kk μ' H' locs' X' h1 (hf.tr h2))
theorem r_callS (C : mC G p c cc nL s m args own) (X : mX G ρ D H0 μ z H locs) (hR : RR A μ) (hf : rfr μ0 μ) (hM : MR G l y cy ny ret fr lo z ρ As μ v0 A') (F : mVs own idx y cy ny ret n) (hn : As.length = n) (hRm : fr + 1 ≤ R.frames ∧ 8 + (ny + 11) + lo ≤ R.locals) (hC : cells ≤ R.cells ∧ slots ≤ R.slots) (hls : ls.size = nL)
    (hst : st0 = As.reverse ++ rest) (hrest : (rest.map fun v => v.category).sum ≤ 8) (hd : decode cc pc = .ok (.invokestatic idx, 3))
    (kk : ∀ (μ' : mM) (H' : Heap) (locs' : List Loc), mX G ρ D H0 μ' z H' locs' → RR A' μ' → rfr μ0 μ' → W p l e R s m args below meth c H' locs' cells slots Q (F0 m (pc + 3) ls (v0.toList ++ rest))) : W p l e R s m args below meth c H locs cells slots Q (F0 m pc ls st0) :=
  m_callS C X hM F hn hRm hC hls hst hrest hd (fun v μ' z' H' locs' hp X' => by obtain ⟨rfl, rfl, h1, h2⟩ := hp; exact kk μ' H' locs' X' h1 (hf.tr h2))
end RC
/-! the reference's methods, as functions -/
def bZ (P : Prop) [Decidable P] : Int := if P then 1 else 0
theorem bZ_or (P : Prop) [Decidable P] : bZ P = 0 ∨ bZ P = 1 := by unfold bZ; split <;> simp
theorem bZ_t {P : Prop} [Decidable P] (h : P) : bZ P = 1 := if_pos h
theorem bZ_f {P : Prop} [Decidable P] (h : ¬ P) : bZ P = 0 := if_neg h
def rThr (one two : Int) : Int := if one = 0 then 1 else if two = 0 then 2 else 0
def rGood (A : rS) (one two : Int) : rS := up A 0 0 (rThr one two)
def rIsReg (k : Int) : Int := bZ (0 ≤ k ∧ k < 10)
def rPlace (A : rS) (x : Int) : Int := if x = -1 then -1 else 128 * A 7 x.toNat + A 8 x.toNat
/-- the first region from x on that has a state -/
def rWs (A : rS) (st : Int) : Nat → Int → Int
  | 0, _ => -1
  | f + 1, x => if A 1 0 ≤ x then -1 else if A 3 x.toNat = st then x else rWs A st f (x + 1)
def rWith (A : rS) (st : Int) : Int := rWs A st 20 0
def rSi (A : rS) (r : Int) : Nat → Int → Int → Int
  | 0, _, n => n
  | f + 1, x, n => if A 6 0 ≤ x then n else if A 3 r.toNat = 0 then n else rSi A r f (x + 1) (if A 7 x.toNat = r ∧ A 12 x.toNat ≠ 0 then n + A 9 x.toNat else n)
def rSeenIn (A : rS) (r : Int) : Int := rSi A r 700 0 0
def rSee (A : rS) (x : Int) : rS := if x = -1 then A else if A 12 x.toNat = 0 then up (up (up A 12 x.toNat 1) 15 (A 17 0).toNat x) 17 0 (A 17 0 + 1) else A
def rClr : Nat → Int → rS → rS
  | 0, _, A => A
  | f + 1, x, A => if A 6 0 ≤ x then A else rClr f (x + 1) (up (up A 12 x.toNat 0) 13 x.toNat 0)
def rSeeR : Nat → Int → rS → rS
  | 0, _, A => A
  | f + 1, x, A => if 10 ≤ x then A else rSeeR f (x + 1) (rSee A (A 14 x.toNat))
def rStart (A : rS) : rS := up (rSeeR 20 0 (up (up (rClr 700 0 A) 16 0 0) 17 0 0)) 18 0 1
def rSeeF (o : Int) : Nat → Int → rS → rS
  | 0, _, A => A
  | f + 1, x, A => if A 9 o.toNat - 2 ≤ x then A else rSeeF o f (x + 1) (rSee A (A 11 (21 * o + x).toNat))
def rChoose : Nat → Int → rS → rS
  | 0, _, A => A
  | f + 1, x, A => if A 1 0 ≤ x then A else rChoose f (x + 1) (up (up A 5 x.toNat 0) 3 x.toNat (if A 3 x.toNat = 3 ∧ A 2 0 < A 4 x.toNat - rSeenIn (up A 5 x.toNat 0) x then 4 else A 3 x.toNat))
def rMark (A : rS) : rS := if A 17 0 ≤ A 16 0 then up (rChoose 20 0 A) 18 0 2 else rSeeF (A 15 (A 16 0).toNat) 30 0 (up A 16 0 (A 16 0 + 1))
def rToMove (A : rS) (o : Int) : Int := bZ (A 12 o.toNat ≠ 0 ∧ A 13 o.toNat = 0 ∧ A 3 (A 7 o.toNat).toNat = 4)
/-- into the region t -/
def rInto (A : rS) (o t : Int) : rS := up (up (up (up A 7 o.toNat t) 8 o.toNat (A 4 t.toNat)) 4 t.toNat (A 4 t.toNat + A 9 o.toNat)) 20 0 (A 20 0 + 1)
def rCarry (A : rS) (o : Int) : rS :=
  if rWith A 2 = -1 ∨ 128 < A 4 (rWith A 2).toNat + A 9 o.toNat then
    (if rWith A 0 = -1 then up (up (up A 13 o.toNat 1) 5 (A 7 o.toNat).toNat 1) 21 0 (A 21 0 + 1)
     else rInto (up (up (if rWith A 2 = -1 then A else up A 3 (rWith A 2).toNat 3) 3 (rWith A 0).toNat 2) 4 (rWith A 0).toNat 0) o (rWith A 0))
  else rInto A o (rWith A 2)
def rBest (A : rS) : Nat → Int → Int → Int
  | 0, _, b => b
  | f + 1, x, b => if A 6 0 ≤ x then b else rBest A f (x + 1) (if rToMove A x = 1 ∧ (b = -1 ∨ rPlace A x < rPlace A b) then x else b)
def rBst (A : rS) : Int := rBest A 700 0 (-1)
def rMoveOne (A : rS) : rS := if rBst A = -1 then up (up A 18 0 3) 19 0 0 else rCarry A (rBst A)
def rEnd1 (A : rS) (x : Int) : rS := if A 3 x.toNat = 4 ∧ A 5 x.toNat = 0 then up (up A 3 x.toNat 0) 4 x.toNat 0 else A
def rEnd2 (A : rS) (x : Int) : rS := up A 3 x.toNat (if A 3 x.toNat = 4 ∨ A 3 x.toNat = 2 then 3 else A 3 x.toNat)
def rEnd : Nat → Int → rS → rS
  | 0, _, A => A
  | f + 1, x, A => if A 1 0 ≤ x then A else rEnd f (x + 1) (rEnd2 (rEnd1 A x) x)
def rUpdate (A : rS) : rS := if A 19 0 + 1 < A 1 0 then up A 19 0 (A 19 0 + 1) else up (rEnd 20 0 (up A 19 0 (A 19 0 + 1))) 18 0 0
def rHas1 (A : rS) (n : Int) : rS := if rWith A 1 ≠ -1 ∧ 128 < A 4 (rWith A 1).toNat + n then up A 3 (rWith A 1).toNat 3 else A
def rHasB (A : rS) (n : Int) : Prop := rWith A 1 ≠ -1 ∧ A 4 (rWith A 1).toNat + n ≤ 128
/-- a region with room is active: the state, and the answer -/
def rHas2 (A : rS) : rS := if rWith A 0 = -1 then A else up A 3 (rWith A 0).toNat 1
def rHas (A : rS) (n : Int) : rS := if rWith A 1 ≠ -1 ∧ A 4 (rWith A 1).toNat + n ≤ 128 then A else rHas2 (rHas1 A n)
def rHasV (A : rS) (n : Int) : Int := if rWith A 1 ≠ -1 ∧ A 4 (rWith A 1).toNat + n ≤ 128 then 1 else if rWith (rHas1 A n) 0 = -1 then 0 else 1
def rUnit (A : rS) : rS := if A 18 0 = 1 then rMark A else if A 18 0 = 2 then rMoveOne A else if A 18 0 = 3 then rUpdate A else A
theorem MR.of {G : mG} {l : Launch} {y : MethodName} {cy : ByteArray} {ny : Nat} {ret : Option FieldType} {fr lo z : Nat} {ρ : Nat → Nat} {As : List Value} {μ0 : mM} {v0 : Option Value} {A A' : rS} (hR : RR A μ0)
    (hy : plainName y.cls = true) (hc : ∀ v ∈ As, v.category = 1) (hn : (lg_sl As).length ≤ ny) (hn2 : As.length ≤ ny)
    (body : ∀ (p : Program) (e : Env) (s : State) (m : MethodId) (args : Array Value) (below : List Frame) (meth : Method) (c : Code) (ls : Array Slot) (H : Heap) (locs : List Loc) (μ : mM), mC G p c cy ny s m args y.cls → p.tables.exec = Jvm.exec → c.code = cy → meth.sig.returnType = ret → meth.locks = false →
      mX G ρ (mA ρ μ0 z) s.heap μ z H locs → RR A μ → rfr μ0 μ → lq ls (As.map some ++ List.replicate (ny - As.length) none) →
      W p l e (rm fr lo 0 0) s m args below meth c H locs 0 0 (wQ G ρ μ0 z (rP v0 A' μ0 z) below args s 0 0) (F0 m 0 ls [])) : MR G l y cy ny ret fr lo z ρ As μ0 v0 A' :=
  MC.of hy hc hn hn2 (fun p e s m args below meth c ls C hr hlk _ X hL => body p e s m args below meth c ls s.heap [] μ0 C C.1 C.2.1 hr hlk X hR (rfr.rf μ0) hL)
theorem vcat_r {a : Nat} : (Value.ref a).category = 1 := rfl
theorem lq_none {ls : Array Slot} {L : List (Option Value)} (i : Nat) (h : lq ls L) : lq ls (L.set i none) := by
  refine ⟨by rw [List.length_set]; exact h.1, h.2.1, fun j v hj => ?_⟩
  rw [List.getElem?_set] at hj
  split at hj
  · split at hj <;> cases hj
  · exact h.2.2 j v hj
end
section
/-! the reference's leaves (printed by wip/tools/ref2.py) -/
set_option maxHeartbeats 4000000 in
theorem k_X6_thrown {G : mG} {l : Launch} {z : Nat} {ρ : Nat → Nat} {μ0 : mM} {A : rS} (hR : RR A μ0) (hI : RI A) : MR G l yX6_thrown cX6_thrown 1 (some .int) 0 0 z ρ [.ref (ρ 6)] μ0 (some (.int (iv (A 0 0)))) A := by
  refine MR.of hR (by decide) (by simp [Value.category]) (Nat.le_of_ble_eq_true rfl) (Nat.le_of_ble_eq_true rfl) ?_
  intro p e s m args below meth c ls H locs μ hC hx hb hr hlk X hR hf hL
  refine m_aload_n hx hb hL dX6_thrown_0 rfl ?_
  refine r_gets (w := (A 0 0)) hC X hR FX6_54 rfl rfl rfl dX6_thrown_1 ?_
  have q1 : (0 : Int) ≤ (A 0 0) ∧ (A 0 0) ≤ 2 := hI.b0 0
  exact r_iret hC X hR hf hr hlk rfl rfl dX6_thrown_4

set_option maxHeartbeats 4000000 in
theorem k_X6_good {G : mG} {l : Launch} {z : Nat} {ρ : Nat → Nat} {μ0 : mM} {A : rS} {x : Int} {y : Int} (hR : RR A μ0) (hI : RI A) (hx1 : x = 0 ∨ x = 1) (hy1 : y = 0 ∨ y = 1) : MR G l yX6_good cX6_good 3 (some .boolean) 0 0 z ρ [.ref (ρ 6), .int (iv x), .int (iv y)] μ0 (some (.int (iv (bZ (rThr x y = 0))))) (rGood A x y) := by
  refine MR.of hR (by decide) (by simp [Value.category]) (Nat.le_of_ble_eq_true rfl) (Nat.le_of_ble_eq_true rfl) ?_
  intro p e s m args below meth c ls H locs μ hC hx hb hr hlk X hR hf hL
  refine m_aload_n hx hb hL dX6_good_0 rfl ?_
  refine m_iload_n hx hb hL dX6_good_1 rfl ?_
  refine m_if_ne (tgt := 9) hx hb dX6_good_2 (by decide) (by omega) (fun c2 => ?_) (fun c2 => ?_)
  · refine m_iload_n hx hb hL dX6_good_9 rfl ?_
    refine m_if_ne (tgt := 17) hx hb dX6_good_10 (by decide) (by omega) (fun c10 => ?_) (fun c10 => ?_)
    · refine lv_iconst (v := iv 0) hx hb dX6_good_17 rfl ?_
      refine r_puts (v := 0) hC X hR FwX6_54 rfl rfl dX6_good_18 (fun H locs X hR => ?_)
      have hf := hf.s 0 (iv 0)
      have hI := hI.u0 0 (v := 0) ⟨by omega, by omega⟩
      refine m_aload_n hx hb hL dX6_good_21 rfl ?_
      refine r_gets (w := 0) hC X hR FX6_54 rfl rfl rfl dX6_good_22 ?_
      refine m_if_ne (tgt := 32) hx hb dX6_good_25 (by decide) (by omega) (fun c25 => absurd c25 (by omega)) (fun c25 => ?_)
      refine lv_iconst (v := iv 1) hx hb dX6_good_28 rfl ?_
      refine lv_goto (tgt := 33) hx hb dX6_good_29 (by decide) ?_
      exact r_zret hC X hR hf hr hlk (by simp [rGood, rThr, c2, c10]) (by simp [rThr, bZ, c2, c10]) (by omega) dX6_good_33
    · refine lv_iconst (v := iv 2) hx hb dX6_good_13 rfl ?_
      refine lv_goto (tgt := 18) hx hb dX6_good_14 (by decide) ?_
      refine r_puts (v := 2) hC X hR FwX6_54 rfl rfl dX6_good_18 (fun H locs X hR => ?_)
      have hf := hf.s 0 (iv 2)
      have hI := hI.u0 0 (v := 2) ⟨by omega, by omega⟩
      refine m_aload_n hx hb hL dX6_good_21 rfl ?_
      refine r_gets (w := 2) hC X hR FX6_54 rfl rfl rfl dX6_good_22 ?_
      refine m_if_ne (tgt := 32) hx hb dX6_good_25 (by decide) (by omega) (fun c25 => ?_) (fun c25 => absurd c25 (by omega))
      refine lv_iconst (v := iv 0) hx hb dX6_good_32 rfl ?_
      exact r_zret hC X hR hf hr hlk (by simp [rGood, rThr, c2, c10]) (by simp [rThr, bZ, c2, c10]) (by omega) dX6_good_33
  · refine lv_iconst (v := iv 1) hx hb dX6_good_5 rfl ?_
    refine lv_goto (tgt := 18) hx hb dX6_good_6 (by decide) ?_
    refine r_puts (v := 1) hC X hR FwX6_54 rfl rfl dX6_good_18 (fun H locs X hR => ?_)
    have hf := hf.s 0 (iv 1)
    have hI := hI.u0 0 (v := 1) ⟨by omega, by omega⟩
    refine m_aload_n hx hb hL dX6_good_21 rfl ?_
    refine r_gets (w := 1) hC X hR FX6_54 rfl rfl rfl dX6_good_22 ?_
    refine m_if_ne (tgt := 32) hx hb dX6_good_25 (by decide) (by omega) (fun c25 => ?_) (fun c25 => absurd c25 (by omega))
    refine lv_iconst (v := iv 0) hx hb dX6_good_32 rfl ?_
    exact r_zret hC X hR hf hr hlk (by simp [rGood, rThr, c2]) (by simp [rThr, bZ, c2]) (by omega) dX6_good_33

set_option maxHeartbeats 4000000 in
theorem k_X6_isRegister {G : mG} {l : Launch} {z : Nat} {ρ : Nat → Nat} {μ0 : mM} {A : rS} {x : Int} (hR : RR A μ0) (hI : RI A) (hx1 : rng x) : MR G l yX6_isRegister cX6_isRegister 1 (some .boolean) 0 0 z ρ [.int (iv x)] μ0 (some (.int (iv (rIsReg x)))) A := by
  refine MR.of hR (by decide) (by simp [Value.category]) (Nat.le_of_ble_eq_true rfl) (Nat.le_of_ble_eq_true rfl) ?_
  intro p e s m args below meth c ls H locs μ hC hx hb hr hlk X hR hf hL
  refine m_iload_n hx hb hL dX6_isRegister_0 rfl ?_
  refine m_if_lt (tgt := 14) hx hb dX6_isRegister_1 (by decide) (by omega) (fun c1 => ?_) (fun c1 => ?_)
  · refine lv_iconst (v := iv 0) hx hb dX6_isRegister_14 rfl ?_
    exact r_zret hC X hR hf hr hlk rfl (by unfold rIsReg; first | (rw [bZ_t (by omega)]) | (rw [bZ_f (by omega)])) (by omega) dX6_isRegister_15
  · refine m_iload_n hx hb hL dX6_isRegister_4 rfl ?_
    refine lv_bipush (v := iv 10) hx hb dX6_isRegister_5 (by decide +kernel) ?_
    refine m_icmp_ge (tgt := 14) hx hb dX6_isRegister_7 (by decide) (by omega) (by omega) (fun c7 => ?_) (fun c7 => ?_)
    · refine lv_iconst (v := iv 0) hx hb dX6_isRegister_14 rfl ?_
      exact r_zret hC X hR hf hr hlk rfl (by unfold rIsReg; first | (rw [bZ_t (by omega)]) | (rw [bZ_f (by omega)])) (by omega) dX6_isRegister_15
    · refine lv_iconst (v := iv 1) hx hb dX6_isRegister_10 rfl ?_
      refine lv_goto (tgt := 15) hx hb dX6_isRegister_11 (by decide) ?_
      exact r_zret hC X hR hf hr hlk rfl (by unfold rIsReg; first | (rw [bZ_t (by omega)]) | (rw [bZ_f (by omega)])) (by omega) dX6_isRegister_15

set_option maxHeartbeats 4000000 in
theorem k_X6_place {G : mG} {l : Launch} {z : Nat} {ρ : Nat → Nat} {μ0 : mM} {A : rS} {x : Int} (hR : RR A μ0) (hI : RI A) (hx1 : -1 ≤ x ∧ x < 620) : MR G l yX6_place cX6_place 2 (some .int) 0 0 z ρ [.ref (ρ 6), .int (iv x)] μ0 (some (.int (iv (rPlace A x)))) A := by
  refine MR.of hR (by decide) (by simp [Value.category]) (Nat.le_of_ble_eq_true rfl) (Nat.le_of_ble_eq_true rfl) ?_
  intro p e s m args below meth c ls H locs μ hC hx hb hr hlk X hR hf hL
  refine m_iload_n hx hb hL dX6_place_0 rfl ?_
  refine lv_iconst (v := iv (-1)) hx hb dX6_place_1 rfl ?_
  refine m_icmp_ne (tgt := 9) hx hb dX6_place_2 (by decide) (by omega) (by omega) (fun c2 => ?_) (fun c2 => ?_)
  · refine lv_sipush (v := iv 128) hx hb dX6_place_9 (by decide +kernel) ?_
    refine m_aload_n hx hb hL dX6_place_12 rfl ?_
    refine r_geta hC X hR FX6_20 rfl rfl dX6_place_13 ?_
    refine m_iload_n hx hb hL dX6_place_16 rfl ?_
    refine r_iald (x := x) (w := (A 7 (x : Int).toNat)) hC X hR 7 rfl rfl (by omega) (by change _ < ((620 : Nat) : Int); omega) rfl dX6_place_17 ?_
    have q1 : (0 : Int) ≤ (A 7 (x : Int).toNat) ∧ (A 7 (x : Int).toNat) ≤ 15 := hI.b7 (x : Int).toNat
    refine m_imul hx hb dX6_place_18 ?_
    refine m_aload_n hx hb hL dX6_place_19 rfl ?_
    refine r_geta hC X hR FX6_23 rfl rfl dX6_place_20 ?_
    refine m_iload_n hx hb hL dX6_place_23 rfl ?_
    refine r_iald (x := x) (w := (A 8 (x : Int).toNat)) hC X hR 8 rfl rfl (by omega) (by change _ < ((620 : Nat) : Int); omega) rfl dX6_place_24 ?_
    have q2 : (0 : Int) ≤ (A 8 (x : Int).toNat) ∧ (A 8 (x : Int).toNat) ≤ 128 := hI.b8 (x : Int).toNat
    refine m_iadd hx hb dX6_place_25 ?_
    exact r_iret hC X hR hf hr hlk rfl (by simp [rPlace, c2]) dX6_place_26
  · refine lv_iconst (v := iv (-1)) hx hb dX6_place_5 rfl ?_
    refine lv_goto (tgt := 26) hx hb dX6_place_6 (by decide) ?_
    exact r_iret hC X hR hf hr hlk rfl (by simp [rPlace, c2]) dX6_place_26

set_option maxHeartbeats 4000000 in
theorem k_X6_isToMove {G : mG} {l : Launch} {z : Nat} {ρ : Nat → Nat} {μ0 : mM} {A : rS} {x : Int} (hR : RR A μ0) (hI : RI A) (hx1 : 0 ≤ x ∧ x < 620) : MR G l yX6_isToMove cX6_isToMove 2 (some .boolean) 0 0 z ρ [.ref (ρ 6), .int (iv x)] μ0 (some (.int (iv (rToMove A x)))) A := by
  refine MR.of hR (by decide) (by simp [Value.category]) (Nat.le_of_ble_eq_true rfl) (Nat.le_of_ble_eq_true rfl) ?_
  intro p e s m args below meth c ls H locs μ hC hx hb hr hlk X hR hf hL
  refine m_aload_n hx hb hL dX6_isToMove_0 rfl ?_
  refine r_geta hC X hR FX6_35 rfl rfl dX6_isToMove_1 ?_
  refine m_iload_n hx hb hL dX6_isToMove_4 rfl ?_
  refine r_zald (x := x) (w := (A 12 (x : Int).toNat)) hC X hR 12 rfl rfl (by omega) (by change _ < ((620 : Nat) : Int); omega) rfl dX6_isToMove_5 ?_
  have q1 : (0 : Int) ≤ (A 12 (x : Int).toNat) ∧ (A 12 (x : Int).toNat) ≤ 1 := hI.b12 (x : Int).toNat
  refine m_if_eq (tgt := 37) hx hb dX6_isToMove_6 (by decide) (by omega) (fun c6 => ?_) (fun c6 => ?_)
  · refine lv_iconst (v := iv 0) hx hb dX6_isToMove_37 rfl ?_
    exact r_zret hC X hR hf hr hlk rfl (by simp [rToMove, bZ, c6]) (by omega) dX6_isToMove_38
  · refine m_aload_n hx hb hL dX6_isToMove_9 rfl ?_
    refine r_geta hC X hR FX6_38 rfl rfl dX6_isToMove_10 ?_
    refine m_iload_n hx hb hL dX6_isToMove_13 rfl ?_
    refine r_zald (x := x) (w := (A 13 (x : Int).toNat)) hC X hR 13 rfl rfl (by omega) (by change _ < ((620 : Nat) : Int); omega) rfl dX6_isToMove_14 ?_
    have q2 : (0 : Int) ≤ (A 13 (x : Int).toNat) ∧ (A 13 (x : Int).toNat) ≤ 1 := hI.b13 (x : Int).toNat
    refine m_if_ne (tgt := 37) hx hb dX6_isToMove_15 (by decide) (by omega) (fun c15 => ?_) (fun c15 => ?_)
    · refine lv_iconst (v := iv 0) hx hb dX6_isToMove_37 rfl ?_
      exact r_zret hC X hR hf hr hlk rfl (by simp [rToMove, bZ, c6, c15]) (by omega) dX6_isToMove_38
    · refine m_aload_n hx hb hL dX6_isToMove_18 rfl ?_
      refine r_geta hC X hR FX6_7 rfl rfl dX6_isToMove_19 ?_
      refine m_aload_n hx hb hL dX6_isToMove_22 rfl ?_
      refine r_geta hC X hR FX6_20 rfl rfl dX6_isToMove_23 ?_
      refine m_iload_n hx hb hL dX6_isToMove_26 rfl ?_
      refine r_iald (x := x) (w := (A 7 (x : Int).toNat)) hC X hR 7 rfl rfl (by omega) (by change _ < ((620 : Nat) : Int); omega) rfl dX6_isToMove_27 ?_
      have q3 : (0 : Int) ≤ (A 7 (x : Int).toNat) ∧ (A 7 (x : Int).toNat) ≤ 15 := hI.b7 (x : Int).toNat
      refine r_iald (x := (A 7 (x : Int).toNat)) (w := (A 3 ((A 7 (x : Int).toNat) : Int).toNat)) hC X hR 3 rfl rfl (by omega) (by change _ < ((16 : Nat) : Int); omega) rfl dX6_isToMove_28 ?_
      have q4 : (0 : Int) ≤ (A 3 ((A 7 (x : Int).toNat) : Int).toNat) ∧ (A 3 ((A 7 (x : Int).toNat) : Int).toNat) ≤ 4 := hI.b3 ((A 7 (x : Int).toNat) : Int).toNat
      refine lv_iconst (v := iv 4) hx hb dX6_isToMove_29 rfl ?_
      refine m_icmp_ne (tgt := 37) hx hb dX6_isToMove_30 (by decide) (by omega) (by omega) (fun c30 => ?_) (fun c30 => ?_)
      · refine lv_iconst (v := iv 0) hx hb dX6_isToMove_37 rfl ?_
        exact r_zret hC X hR hf hr hlk rfl (by simp [rToMove, bZ, c6, c15, c30]) (by omega) dX6_isToMove_38
      · refine lv_iconst (v := iv 1) hx hb dX6_isToMove_33 rfl ?_
        refine lv_goto (tgt := 38) hx hb dX6_isToMove_34 (by decide) ?_
        exact r_zret hC X hR hf hr hlk rfl (by simp [rToMove, bZ, c6, c15, c30]) (by omega) dX6_isToMove_38

set_option maxHeartbeats 4000000 in
theorem k_X6_see {G : mG} {l : Launch} {z : Nat} {ρ : Nat → Nat} {μ0 : mM} {A : rS} {x : Int} (hR : RR A μ0) (hI : RI A) (hx1 : -1 ≤ x ∧ x < 620) (hx2 : x ≠ -1 → A 12 x.toNat = 0 → A 17 0 < 620) : MR G l yX6_see cX6_see 2 none 0 0 z ρ [.ref (ρ 6), .int (iv x)] μ0 none (rSee A x) := by
  refine MR.of hR (by decide) (by simp [Value.category]) (Nat.le_of_ble_eq_true rfl) (Nat.le_of_ble_eq_true rfl) ?_
  intro p e s m args below meth c ls H locs μ hC hx hb hr hlk X hR hf hL
  refine m_iload_n hx hb hL dX6_see_0 rfl ?_
  refine lv_iconst (v := iv (-1)) hx hb dX6_see_1 rfl ?_
  refine m_icmp_eq (tgt := 41) hx hb dX6_see_2 (by decide) (by omega) (by omega) (fun c2 => ?_) (fun c2 => ?_)
  · exact r_vret hC X hR hf hr hlk (by simp [rSee, c2]) dX6_see_41
  · refine m_aload_n hx hb hL dX6_see_5 rfl ?_
    refine r_geta hC X hR FX6_35 rfl rfl dX6_see_6 ?_
    refine m_iload_n hx hb hL dX6_see_9 rfl ?_
    refine r_zald (x := x) (w := (A 12 (x : Int).toNat)) hC X hR 12 rfl rfl (by omega) (by change _ < ((620 : Nat) : Int); omega) rfl dX6_see_10 ?_
    have q1 : (0 : Int) ≤ (A 12 (x : Int).toNat) ∧ (A 12 (x : Int).toNat) ≤ 1 := hI.b12 (x : Int).toNat
    refine m_if_ne (tgt := 41) hx hb dX6_see_11 (by decide) (by omega) (fun c11 => ?_) (fun c11 => ?_)
    · exact r_vret hC X hR hf hr hlk (by simp [rSee, c2, c11]) dX6_see_41
    · have q0 := hx2 c2 c11
      have q00 := hI.b17 0
      refine m_aload_n hx hb hL dX6_see_14 rfl ?_
      refine r_geta hC X hR FX6_35 rfl rfl dX6_see_15 ?_
      refine m_iload_n hx hb hL dX6_see_18 rfl ?_
      refine lv_iconst (v := iv 1) hx hb dX6_see_19 rfl ?_
      refine r_zast (x := x) (v := 1) hC X hR 12 rfl rfl (by omega) (by change _ < ((620 : Nat) : Int); omega) (by omega) dX6_see_20 (fun H locs X hR => ?_)
      have hf := hf.a 12 (x : Int).toNat (iv 1)
      have hI := hI.u12 (x : Int).toNat (v := 1) ⟨by omega, by omega⟩
      refine m_aload_n hx hb hL dX6_see_21 rfl ?_
      refine r_geta hC X hR FX6_44 rfl rfl dX6_see_22 ?_
      refine m_aload_n hx hb hL dX6_see_25 rfl ?_
      refine r_gets (w := (A 17 0)) hC X hR FX6_60 rfl rfl rfl dX6_see_26 ?_
      have q2 : (0 : Int) ≤ (A 17 0) ∧ (A 17 0) ≤ 620 := hI.b17 0
      refine m_iload_n hx hb hL dX6_see_29 rfl ?_
      refine r_iast (x := (A 17 0)) (v := x) hC X hR 15 rfl rfl (by omega) (by change _ < ((620 : Nat) : Int); omega) dX6_see_30 (fun H locs X hR => ?_)
      have hf := hf.a 15 ((A 17 0) : Int).toNat (iv x)
      have hI := hI.u15 ((A 17 0) : Int).toNat (v := x) ⟨by omega, by omega⟩
      refine m_aload_n hx hb hL dX6_see_31 rfl ?_
      refine lv_dup hx hb dX6_see_32 rfl ?_
      refine r_gets (w := (A 17 0)) hC X hR FX6_60 rfl rfl rfl dX6_see_33 ?_
      have q3 : (0 : Int) ≤ (A 17 0) ∧ (A 17 0) ≤ 620 := hI.b17 0
      refine lv_iconst (v := iv 1) hx hb dX6_see_36 rfl ?_
      refine m_iadd hx hb dX6_see_37 ?_
      refine r_puts (v := ((A 17 0) + 1)) hC X hR FwX6_60 rfl rfl dX6_see_38 (fun H locs X hR => ?_)
      have hf := hf.s 17 (iv ((A 17 0) + 1))
      have hI := hI.u17 0 (v := ((A 17 0) + 1)) ⟨by omega, by omega⟩
      exact r_vret hC X hR hf hr hlk (by simp [rSee, c2, c11]) dX6_see_41
end
section
/-! what the reference's functions keep -/
theorem rSee_I {A : rS} {x : Int} (hI : RI A) (hx : -1 ≤ x ∧ x < 620) (h17 : A 17 0 < 620) : RI (rSee A x) := by
  unfold rSee
  have q := hI.b17 0
  split
  · exact hI
  · split
    · exact ((hI.u12 _ (by omega)).u15 _ (by omega)).u17 _ (by omega)
    · exact hI
theorem rSee_17 (A : rS) (x : Int) : rSee A x 17 0 ≤ A 17 0 + 1 ∧ A 17 0 ≤ rSee A x 17 0 := by
  unfold rSee
  split
  · omega
  · split
    · simp [up]; omega
    · omega
theorem up_s (A : rS) (k i : Nat) (v : Int) : up A k i v k i = v := by simp [up]
theorem up_k (A : rS) {k k' i : Nat} {v : Int} (i' : Nat) (h : k' ≠ k) : up A k i v k' i' = A k' i' := by simp [up, h]
theorem up_i (A : rS) {k k' i i' : Nat} {v : Int} (h : i' ≠ i) : up A k i v k' i' = A k' i' := by simp [up, h]
theorem rWs_b {A : rS} (st : Int) : ∀ (f : Nat) (x : Int), 0 ≤ x → -1 ≤ rWs A st f x ∧ (rWs A st f x ≠ -1 → 0 ≤ rWs A st f x ∧ rWs A st f x < A 1 0 ∧ A 3 (rWs A st f x).toNat = st) := by
  intro f
  induction f with
  | zero => intro x hx; simp [rWs]
  | succ f ih =>
    intro x hx
    rw [rWs]
    split
    · simp
    · split
      · refine ⟨by omega, fun _ => ⟨hx, by omega, by assumption⟩⟩
      · exact ih (x + 1) (by omega)
theorem rWith_b {A : rS} (hI : RI A) (st : Int) : -1 ≤ rWith A st ∧ rWith A st < 16 := by
  have h := rWs_b (A := A) st 20 0 (Int.le_refl 0)
  have h1 := hI.b1 0
  unfold rWith
  by_cases e : rWs A st 20 0 = -1
  · omega
  · have := h.2 e
    omega
theorem rSi_b {A : rS} (hI : RI A) (r : Int) : ∀ (f : Nat) (x n : Int), n ≤ rSi A r f x n ∧ rSi A r f x n ≤ n + 22 * f := by
  intro f
  induction f with
  | zero => intro x n; simp [rSi]
  | succ f ih =>
    intro x n
    rw [rSi]
    have h9 := hI.b9 x.toNat
    split
    · omega
    · split
      · omega
      · generalize hg : (if A 7 x.toNat = r ∧ A 12 x.toNat ≠ 0 then n + A 9 x.toNat else n) = w
        have hw : n ≤ w ∧ w ≤ n + 22 := by rw [← hg]; split <;> omega
        have h1 := ih (x + 1) w
        omega
theorem rSeenIn_b {A : rS} (hI : RI A) (r : Int) : 0 ≤ rSeenIn A r ∧ rSeenIn A r ≤ 15400 := by
  have h := rSi_b hI r 700 0 0
  unfold rSeenIn
  omega
theorem rToMove_b (A : rS) (x : Int) : rToMove A x = 0 ∨ rToMove A x = 1 := bZ_or _
theorem rPlace_b {A : rS} (hI : RI A) (x : Int) : -1 ≤ rPlace A x ∧ rPlace A x ≤ 2048 := by
  have h7 := hI.b7 x.toNat
  have h8 := hI.b8 x.toNat
  unfold rPlace
  split <;> omega
end
section
/-! the reference's methods with loops and calls (printed by wip/tools/ref3.py) -/
set_option maxHeartbeats 4000000 in
theorem k_X6_withState {G : mG} {l : Launch} {z : Nat} {ρ : Nat → Nat} {μ0 : mM} {A : rS} {x : Int} (hR : RR A μ0) (hI : RI A) (hx1 : rng x) : MR G l yX6_withState cX6_withState 3 (some .int) 0 0 z ρ [.ref (ρ 6), .int (iv x)] μ0 (some (.int (iv (rWith A x)))) A := by
  refine MR.of hR (by decide) (by simp [Value.category]) (Nat.le_of_ble_eq_true rfl) (Nat.le_of_ble_eq_true rfl) ?_
  intro p e s m args below meth c ls H locs μ hC hx hb hr hlk X hR hf hL
  have q0 := hI.b1 0
  refine lv_iconst (v := iv 0) hx hb dX6_withState_0 rfl ?_
  refine m_istore_n hx hb hL dX6_withState_1 (Nat.le_of_ble_eq_true rfl) (fun ls hL => ?_)
  have lp : ∀ (f : Nat) (r : Int) (ls : Array Slot), 0 ≤ r ∧ r ≤ A 1 0 → (f : Int) + r = 20 → rWith A x = rWs A x f r → lq ls [some (.ref (ρ 6)), some (.int (iv x)), some (.int (iv r))] → W p l e (rm 0 0 0 0) s m args below meth c H locs 0 0 (wQ G ρ μ0 z (rP (some (.int (iv (rWith A x)))) A μ0 z) below args s 0 0) (F0 m 2 ls []) := by
    intro f
    induction f with
    | zero =>
      intro r ls h0 hf1 hv hL
      have := hI.b1 0; omega
    | succ f ih =>
      intro r ls h0 hf1 hv hL
      refine m_iload_n hx hb hL dX6_withState_2 rfl ?_
      refine m_aload_n hx hb hL dX6_withState_3 rfl ?_
      refine r_gets (w := (A 1 0)) hC X hR FX6_47 rfl rfl rfl dX6_withState_4 ?_
      have q1 : (3 : Int) ≤ (A 1 0) ∧ (A 1 0) ≤ 16 := hI.b1 0
      refine m_icmp_ge (tgt := 26) hx hb dX6_withState_7 (by decide) (by omega) (by omega) (fun c7 => ?_) (fun c7 => ?_)
      · refine m_iload_n hx hb hL dX6_withState_26 rfl ?_
        refine m_aload_n hx hb hL dX6_withState_27 rfl ?_
        refine r_gets (w := (A 1 0)) hC X hR FX6_47 rfl rfl rfl dX6_withState_28 ?_
        have q2 : (3 : Int) ≤ (A 1 0) ∧ (A 1 0) ≤ 16 := hI.b1 0
        refine m_icmp_ge (tgt := 38) hx hb dX6_withState_31 (by decide) (by omega) (by omega) (fun c31 => ?_) (fun c31 => ?_)
        · refine lv_iconst (v := iv (-1)) hx hb dX6_withState_38 rfl ?_
          exact r_iret hC X hR hf hr hlk rfl (by first | (exfalso; omega) | (rw [hv]; simp [rWs, c7, c31])) dX6_withState_39
        · refine m_iload_n hx hb hL dX6_withState_34 rfl ?_
          refine lv_goto (tgt := 39) hx hb dX6_withState_35 (by decide) ?_
          exact r_iret hC X hR hf hr hlk rfl (by first | (exfalso; omega) | (rw [hv]; simp [rWs, c7, c31])) dX6_withState_39
      · refine m_aload_n hx hb hL dX6_withState_10 rfl ?_
        refine r_geta hC X hR FX6_7 rfl rfl dX6_withState_11 ?_
        refine m_iload_n hx hb hL dX6_withState_14 rfl ?_
        refine r_iald (x := r) (w := (A 3 (r : Int).toNat)) hC X hR 3 rfl rfl (by omega) (by change _ < ((16 : Nat) : Int); omega) rfl dX6_withState_15 ?_
        have q3 : (0 : Int) ≤ (A 3 (r : Int).toNat) ∧ (A 3 (r : Int).toNat) ≤ 4 := hI.b3 (r : Int).toNat
        refine m_iload_n hx hb hL dX6_withState_16 rfl ?_
        refine m_icmp_eq (tgt := 26) hx hb dX6_withState_17 (by decide) (by omega) (by omega) (fun c17 => ?_) (fun c17 => ?_)
        · refine m_iload_n hx hb hL dX6_withState_26 rfl ?_
          refine m_aload_n hx hb hL dX6_withState_27 rfl ?_
          refine r_gets (w := (A 1 0)) hC X hR FX6_47 rfl rfl rfl dX6_withState_28 ?_
          have q4 : (3 : Int) ≤ (A 1 0) ∧ (A 1 0) ≤ 16 := hI.b1 0
          refine m_icmp_ge (tgt := 38) hx hb dX6_withState_31 (by decide) (by omega) (by omega) (fun c31 => ?_) (fun c31 => ?_)
          · refine lv_iconst (v := iv (-1)) hx hb dX6_withState_38 rfl ?_
            exact r_iret hC X hR hf hr hlk rfl (by first | (exfalso; omega) | (rw [hv]; simp [rWs, c7, c17, c31])) dX6_withState_39
          · refine m_iload_n hx hb hL dX6_withState_34 rfl ?_
            refine lv_goto (tgt := 39) hx hb dX6_withState_35 (by decide) ?_
            exact r_iret hC X hR hf hr hlk rfl (by first | (exfalso; omega) | (rw [hv]; simp [rWs, c7, c17, c31])) dX6_withState_39
        · refine m_iincv hx hb hL dX6_withState_20 rfl (fun ls hL => ?_)
          refine lv_goto (tgt := 2) hx hb dX6_withState_23 (by decide) ?_
          exact ih (r + 1) ls ⟨by omega, by omega⟩ (by omega) (by rw [hv]; simp [rWs, c7, c17]) hL
  exact lp 20 0 ls ⟨by omega, by omega⟩ (by omega) rfl hL

set_option maxHeartbeats 4000000 in
theorem k_X6_seenIn {G : mG} {l : Launch} {z : Nat} {ρ : Nat → Nat} {μ0 : mM} {A : rS} {x : Int} (hR : RR A μ0) (hI : RI A) (hx1 : 0 ≤ x ∧ x < 16) : MR G l yX6_seenIn cX6_seenIn 4 (some .int) 0 0 z ρ [.ref (ρ 6), .int (iv x)] μ0 (some (.int (iv (rSeenIn A x)))) A := by
  refine MR.of hR (by decide) (by simp [Value.category]) (Nat.le_of_ble_eq_true rfl) (Nat.le_of_ble_eq_true rfl) ?_
  intro p e s m args below meth c ls H locs μ hC hx hb hr hlk X hR hf hL
  have q0 := hI.b6 0
  refine lv_iconst (v := iv 0) hx hb dX6_seenIn_0 rfl ?_
  refine m_istore_n hx hb hL dX6_seenIn_1 (Nat.le_of_ble_eq_true rfl) (fun ls hL => ?_)
  refine lv_iconst (v := iv 0) hx hb dX6_seenIn_2 rfl ?_
  refine m_istore_n hx hb hL dX6_seenIn_3 (Nat.le_of_ble_eq_true rfl) (fun ls hL => ?_)
  have lp : ∀ (f : Nat) (n o : Int) (ls : Array Slot), 0 ≤ o ∧ o ≤ A 6 0 → 0 ≤ n ∧ n ≤ 22 * o → (f : Int) + o = 700 → rSeenIn A x = rSi A x f o n → lq ls [some (.ref (ρ 6)), some (.int (iv x)), some (.int (iv n)), some (.int (iv o))] → W p l e (rm 0 0 0 0) s m args below meth c H locs 0 0 (wQ G ρ μ0 z (rP (some (.int (iv (rSeenIn A x)))) A μ0 z) below args s 0 0) (F0 m 4 ls []) := by
    intro f
    induction f with
    | zero =>
      intro n o ls h0 hn hf1 hv hL
      have := hI.b6 0; omega
    | succ f ih =>
      intro n o ls h0 hn hf1 hv hL
      refine m_iload_n hx hb hL dX6_seenIn_4 rfl ?_
      refine m_aload_n hx hb hL dX6_seenIn_5 rfl ?_
      refine r_gets (w := (A 6 0)) hC X hR FX6_57 rfl rfl rfl dX6_seenIn_6 ?_
      have q1 : (0 : Int) ≤ (A 6 0) ∧ (A 6 0) ≤ 620 := hI.b6 0
      refine m_icmp_ge (tgt := 59) hx hb dX6_seenIn_9 (by decide) (by omega) (by omega) (fun c9 => ?_) (fun c9 => ?_)
      · refine m_iload_n hx hb hL dX6_seenIn_59 rfl ?_
        exact r_iret hC X hR hf hr hlk rfl (by rw [hv]; simp [rSi, c9]) dX6_seenIn_60
      · refine m_aload_n hx hb hL dX6_seenIn_12 rfl ?_
        refine r_geta hC X hR FX6_7 rfl rfl dX6_seenIn_13 ?_
        refine m_iload_n hx hb hL dX6_seenIn_16 rfl ?_
        refine r_iald (x := x) (w := (A 3 (x : Int).toNat)) hC X hR 3 rfl rfl (by omega) (by change _ < ((16 : Nat) : Int); omega) rfl dX6_seenIn_17 ?_
        have q2 : (0 : Int) ≤ (A 3 (x : Int).toNat) ∧ (A 3 (x : Int).toNat) ≤ 4 := hI.b3 (x : Int).toNat
        refine m_if_eq (tgt := 59) hx hb dX6_seenIn_18 (by decide) (by omega) (fun c18 => ?_) (fun c18 => ?_)
        · refine m_iload_n hx hb hL dX6_seenIn_59 rfl ?_
          exact r_iret hC X hR hf hr hlk rfl (by rw [hv]; simp [rSi, c9, c18]) dX6_seenIn_60
        · refine m_aload_n hx hb hL dX6_seenIn_21 rfl ?_
          refine r_geta hC X hR FX6_20 rfl rfl dX6_seenIn_22 ?_
          refine m_iload_n hx hb hL dX6_seenIn_25 rfl ?_
          refine r_iald (x := o) (w := (A 7 (o : Int).toNat)) hC X hR 7 rfl rfl (by omega) (by change _ < ((620 : Nat) : Int); omega) rfl dX6_seenIn_26 ?_
          have q3 : (0 : Int) ≤ (A 7 (o : Int).toNat) ∧ (A 7 (o : Int).toNat) ≤ 15 := hI.b7 (o : Int).toNat
          refine m_iload_n hx hb hL dX6_seenIn_27 rfl ?_
          refine m_icmp_ne (tgt := 51) hx hb dX6_seenIn_28 (by decide) (by omega) (by omega) (fun c28 => ?_) (fun c28 => ?_)
          · refine m_iload_n hx hb hL dX6_seenIn_51 rfl ?_
            refine m_istore_n hx hb hL dX6_seenIn_52 (Nat.le_of_ble_eq_true rfl) (fun ls hL => ?_)
            refine m_iincv hx hb hL dX6_seenIn_53 rfl (fun ls hL => ?_)
            refine lv_goto (tgt := 4) hx hb dX6_seenIn_56 (by decide) ?_
            exact ih n (o + 1) ls ⟨by omega, by omega⟩ ⟨by omega, by omega⟩ (by omega) (by rw [hv]; simp [rSi, c9, c18, c28]) hL
          · refine m_aload_n hx hb hL dX6_seenIn_31 rfl ?_
            refine r_geta hC X hR FX6_35 rfl rfl dX6_seenIn_32 ?_
            refine m_iload_n hx hb hL dX6_seenIn_35 rfl ?_
            refine r_zald (x := o) (w := (A 12 (o : Int).toNat)) hC X hR 12 rfl rfl (by omega) (by change _ < ((620 : Nat) : Int); omega) rfl dX6_seenIn_36 ?_
            have q4 : (0 : Int) ≤ (A 12 (o : Int).toNat) ∧ (A 12 (o : Int).toNat) ≤ 1 := hI.b12 (o : Int).toNat
            refine m_if_eq (tgt := 51) hx hb dX6_seenIn_37 (by decide) (by omega) (fun c37 => ?_) (fun c37 => ?_)
            · refine m_iload_n hx hb hL dX6_seenIn_51 rfl ?_
              refine m_istore_n hx hb hL dX6_seenIn_52 (Nat.le_of_ble_eq_true rfl) (fun ls hL => ?_)
              refine m_iincv hx hb hL dX6_seenIn_53 rfl (fun ls hL => ?_)
              refine lv_goto (tgt := 4) hx hb dX6_seenIn_56 (by decide) ?_
              exact ih n (o + 1) ls ⟨by omega, by omega⟩ ⟨by omega, by omega⟩ (by omega) (by rw [hv]; simp [rSi, c9, c18, c28, c37]) hL
            · refine m_iload_n hx hb hL dX6_seenIn_40 rfl ?_
              refine m_aload_n hx hb hL dX6_seenIn_41 rfl ?_
              refine r_geta hC X hR FX6_26 rfl rfl dX6_seenIn_42 ?_
              refine m_iload_n hx hb hL dX6_seenIn_45 rfl ?_
              refine r_iald (x := o) (w := (A 9 (o : Int).toNat)) hC X hR 9 rfl rfl (by omega) (by change _ < ((620 : Nat) : Int); omega) rfl dX6_seenIn_46 ?_
              have q5 : (0 : Int) ≤ (A 9 (o : Int).toNat) ∧ (A 9 (o : Int).toNat) ≤ 22 := hI.b9 (o : Int).toNat
              refine m_iadd hx hb dX6_seenIn_47 ?_
              refine lv_goto (tgt := 52) hx hb dX6_seenIn_48 (by decide) ?_
              refine m_istore_n hx hb hL dX6_seenIn_52 (Nat.le_of_ble_eq_true rfl) (fun ls hL => ?_)
              refine m_iincv hx hb hL dX6_seenIn_53 rfl (fun ls hL => ?_)
              refine lv_goto (tgt := 4) hx hb dX6_seenIn_56 (by decide) ?_
              exact ih (n + (A 9 (o : Int).toNat)) (o + 1) ls ⟨by omega, by omega⟩ ⟨by omega, by omega⟩ (by omega) (by rw [hv]; simp [rSi, c9, c18, c28, c37]) hL
  exact lp 700 0 0 ls ⟨by omega, by omega⟩ ⟨by omega, by omega⟩ (by omega) rfl hL

set_option maxHeartbeats 4000000 in
theorem k_X6_start {G : mG} {l : Launch} {z : Nat} {ρ : Nat → Nat} {μ0 : mM} {A : rS} (hR : RR A μ0) (hI : RI A) : MR G l yX6_start cX6_start 2 none 1 21 z ρ [.ref (ρ 6)] μ0 none (rStart A) := by
  refine MR.of hR (by decide) (by simp [Value.category]) (Nat.le_of_ble_eq_true rfl) (Nat.le_of_ble_eq_true rfl) ?_
  intro p e s m args below meth c ls H locs μ hC hx hb hr hlk X hR hf hL
  have q0 := hI.b6 0
  refine lv_iconst (v := iv 0) hx hb dX6_start_0 rfl ?_
  refine m_istore_n hx hb hL dX6_start_1 (Nat.le_of_ble_eq_true rfl) (fun ls hL => ?_)
  have lp : ∀ (f : Nat) (o : Int) (B : rS) (H : Heap) (locs : List Loc) (μ : mM) (ls : Array Slot), 0 ≤ o ∧ o ≤ B 6 0 → (f : Int) + o = 700 → rStart A = up (rSeeR 20 0 (up (up (rClr f o B) 16 0 0) 17 0 0)) 18 0 1 → RI B → mX G ρ (mA ρ μ0 z) s.heap μ z H locs → RR B μ → rfr μ0 μ → lq ls [some (.ref (ρ 6)), some (.int (iv o))] → W p l e (rm 1 21 0 0) s m args below meth c H locs 0 0 (wQ G ρ μ0 z (rP none (rStart A) μ0 z) below args s 0 0) (F0 m 2 ls []) := by
    intro f
    induction f with
    | zero =>
      intro o B H locs μ ls h0 hf1 hv hI X hR hf hL
      have := hI.b6 0; omega
    | succ f ih =>
      intro o B H locs μ ls h0 hf1 hv hI X hR hf hL
      refine m_iload_n hx hb hL dX6_start_2 rfl ?_
      refine m_aload_n hx hb hL dX6_start_3 rfl ?_
      refine r_gets (w := (B 6 0)) hC X hR FX6_57 rfl rfl rfl dX6_start_4 ?_
      have q1 : (0 : Int) ≤ (B 6 0) ∧ (B 6 0) ≤ 620 := hI.b6 0
      refine m_icmp_ge (tgt := 30) hx hb dX6_start_7 (by decide) (by omega) (by omega) (fun c7 => ?_) (fun c7 => ?_)
      · refine m_aload_n hx hb hL dX6_start_30 rfl ?_
        refine lv_iconst (v := iv 0) hx hb dX6_start_31 rfl ?_
        refine r_puts (v := 0) hC X hR FwX6_63 rfl rfl dX6_start_32 (fun H locs X hR => ?_)
        have hf := hf.s 16 (iv 0)
        have hI := hI.u16 0 (v := 0) ⟨by omega, by omega⟩
        refine m_aload_n hx hb hL dX6_start_35 rfl ?_
        refine lv_iconst (v := iv 0) hx hb dX6_start_36 rfl ?_
        refine r_puts (v := 0) hC X hR FwX6_60 rfl rfl dX6_start_37 (fun H locs X hR => ?_)
        have hf := hf.s 17 (iv 0)
        have hI := hI.u17 0 (v := 0) ⟨by omega, by omega⟩
        refine lv_iconst (v := iv 0) hx hb dX6_start_40 rfl ?_
        refine m_istore_n hx hb hL dX6_start_41 (Nat.le_of_ble_eq_true rfl) (fun ls hL => ?_)
        have lq2 : ∀ (f : Nat) (k : Int) (B : rS) (H : Heap) (locs : List Loc) (μ : mM) (ls : Array Slot), 0 ≤ k ∧ k ≤ 10 → B 17 0 ≤ k → (f : Int) + k = 20 → rStart A = up (rSeeR f k B) 18 0 1 → RI B → mX G ρ (mA ρ μ0 z) s.heap μ z H locs → RR B μ → rfr μ0 μ → lq ls [some (.ref (ρ 6)), some (.int (iv k))] → W p l e (rm 1 21 0 0) s m args below meth c H locs 0 0 (wQ G ρ μ0 z (rP none (rStart A) μ0 z) below args s 0 0) (F0 m 42 ls []) := by
          intro f
          induction f with
          | zero =>
            intro k B H locs μ ls h0 h1 hf1 hv hI X hR hf hL
            omega
          | succ f ih =>
            intro k B H locs μ ls h0 h1 hf1 hv hI X hR hf hL
            have q8 := hI.b17 0
            refine m_iload_n hx hb hL dX6_start_42 rfl ?_
            refine lv_bipush (v := iv 10) hx hb dX6_start_43 (by decide +kernel) ?_
            refine m_icmp_ge (tgt := 64) hx hb dX6_start_45 (by decide) (by omega) (by omega) (fun c45 => ?_) (fun c45 => ?_)
            · refine m_aload_n hx hb hL dX6_start_64 rfl ?_
              refine lv_iconst (v := iv 1) hx hb dX6_start_65 rfl ?_
              refine r_puts (v := 1) hC X hR FwX6_70 rfl rfl dX6_start_66 (fun H locs X hR => ?_)
              have hf := hf.s 18 (iv 1)
              have hI := hI.u18 0 (v := 1) ⟨by omega, by omega⟩
              exact r_vret hC X hR hf hr hlk (by rw [hv]; simp [rSeeR, c45]) dX6_start_69
            · refine m_aload_n hx hb hL dX6_start_48 rfl ?_
              refine m_aload_n hx hb hL dX6_start_49 rfl ?_
              refine r_geta hC X hR FX6_41 rfl rfl dX6_start_50 ?_
              refine m_iload_n hx hb hL dX6_start_53 rfl ?_
              refine r_iald (x := k) (w := (B 14 (k : Int).toNat)) hC X hR 14 rfl rfl (by omega) (by change _ < ((10 : Nat) : Int); omega) rfl dX6_start_54 ?_
              have q2 : (-1 : Int) ≤ (B 14 (k : Int).toNat) ∧ (B 14 (k : Int).toNat) ≤ 619 := hI.b14 (k : Int).toNat
              have hs : (B 14 (k : Int).toNat) ≠ -1 → B 12 ((B 14 (k : Int).toNat) : Int).toNat = 0 → B 17 0 < 620 := fun _ _ => by omega
              have q9 := hI.b14 (k : Int).toNat
              refine r_call hC X hR hf (k_X6_see (x := (B 14 (k : Int).toNat)) hR hI (by omega) hs) VX6_66 rfl ⟨by decide, by decide⟩ ⟨by decide, by decide⟩ hL.1 rfl (Nat.le_of_ble_eq_true rfl) dX6_start_55 (fun μ H locs X hR hf => ?_)
              have hk17 := rSee_17 B ((B 14 (k : Int).toNat))
              have hI := rSee_I hI (x := (B 14 (k : Int).toNat)) (by omega) (by omega)
              refine m_iincv hx hb hL dX6_start_58 rfl (fun ls hL => ?_)
              refine lv_goto (tgt := 42) hx hb dX6_start_61 (by decide) ?_
              exact ih (k + 1) _ _ _ _ ls ⟨by omega, by omega⟩ (by omega) (by omega) (by rw [hv]; simp [rSeeR, c45]) hI X hR hf hL
        exact lq2 20 0 _ _ _ _ ls ⟨by omega, by omega⟩ (Int.le_refl 0) (by omega) (by rw [hv]; simp [rClr, c7]) hI X hR hf hL
      · refine m_aload_n hx hb hL dX6_start_10 rfl ?_
        refine r_geta hC X hR FX6_35 rfl rfl dX6_start_11 ?_
        refine m_iload_n hx hb hL dX6_start_14 rfl ?_
        refine lv_iconst (v := iv 0) hx hb dX6_start_15 rfl ?_
        refine r_zast (x := o) (v := 0) hC X hR 12 rfl rfl (by omega) (by change _ < ((620 : Nat) : Int); omega) (by omega) dX6_start_16 (fun H locs X hR => ?_)
        have hf := hf.a 12 (o : Int).toNat (iv 0)
        have hI := hI.u12 (o : Int).toNat (v := 0) ⟨by omega, by omega⟩
        refine m_aload_n hx hb hL dX6_start_17 rfl ?_
        refine r_geta hC X hR FX6_38 rfl rfl dX6_start_18 ?_
        refine m_iload_n hx hb hL dX6_start_21 rfl ?_
        refine lv_iconst (v := iv 0) hx hb dX6_start_22 rfl ?_
        refine r_zast (x := o) (v := 0) hC X hR 13 rfl rfl (by omega) (by change _ < ((620 : Nat) : Int); omega) (by omega) dX6_start_23 (fun H locs X hR => ?_)
        have hf := hf.a 13 (o : Int).toNat (iv 0)
        have hI := hI.u13 (o : Int).toNat (v := 0) ⟨by omega, by omega⟩
        refine m_iincv hx hb hL dX6_start_24 rfl (fun ls hL => ?_)
        refine lv_goto (tgt := 2) hx hb dX6_start_27 (by decide) ?_
        exact ih (o + 1) _ _ _ _ ls ⟨by omega, by show _ ≤ B 6 0; omega⟩ (by omega) (by rw [hv]; simp [rClr, c7]) hI X hR hf hL
  exact lp 700 0 _ _ _ _ ls ⟨by omega, by omega⟩ (by omega) rfl hI X hR hf hL

set_option maxHeartbeats 4000000 in
theorem k_X6_mark {G : mG} {l : Launch} {z : Nat} {ρ : Nat → Nat} {μ0 : mM} {A : rS} (hR : RR A μ0) (hI : RI A) (h17 : A 17 0 < 590) : MR G l yX6_mark cX6_mark 3 none 1 23 z ρ [.ref (ρ 6)] μ0 none (rMark A) := by
  refine MR.of hR (by decide) (by simp [Value.category]) (Nat.le_of_ble_eq_true rfl) (Nat.le_of_ble_eq_true rfl) ?_
  intro p e s m args below meth c ls H locs μ hC hx hb hr hlk X hR hf hL
  refine m_aload_n hx hb hL dX6_mark_0 rfl ?_
  refine r_gets (w := (A 16 0)) hC X hR FX6_63 rfl rfl rfl dX6_mark_1 ?_
  have q1 : (0 : Int) ≤ (A 16 0) ∧ (A 16 0) ≤ 620 := hI.b16 0
  refine m_aload_n hx hb hL dX6_mark_4 rfl ?_
  refine r_gets (w := (A 17 0)) hC X hR FX6_60 rfl rfl rfl dX6_mark_5 ?_
  have q2 : (0 : Int) ≤ (A 17 0) ∧ (A 17 0) ≤ 620 := hI.b17 0
  refine m_icmp_ge (tgt := 67) hx hb dX6_mark_8 (by decide) (by omega) (by omega) (fun c8 => ?_) (fun c8 => ?_)
  · refine lv_iconst (v := iv 0) hx hb dX6_mark_67 rfl ?_
    refine m_istore_n hx hb hL dX6_mark_68 (Nat.le_of_ble_eq_true rfl) (fun ls hL => ?_)
    have lq2 : ∀ (f : Nat) (r : Int) (B : rS) (H : Heap) (locs : List Loc) (μ : mM) (ls : Array Slot), 0 ≤ r ∧ r ≤ B 1 0 → (f : Int) + r = 20 → rMark A = up (rChoose f r B) 18 0 2 → RI B → mX G ρ (mA ρ μ0 z) s.heap μ z H locs → RR B μ → rfr μ0 μ → lq ls [some (.ref (ρ 6)), some (.int (iv r)), none] → W p l e (rm 1 23 0 0) s m args below meth c H locs 0 0 (wQ G ρ μ0 z (rP none (rMark A) μ0 z) below args s 0 0) (F0 m 69 ls []) := by
      intro f
      induction f with
      | zero =>
        intro r B H locs μ ls h0 hf1 hv hI X hR hf hL
        have := hI.b1 0; omega
      | succ f ih =>
        intro r B H locs μ ls h0 hf1 hv hI X hR hf hL
        have q8 := hI.b1 0
        refine m_iload_n hx hb hL dX6_mark_69 rfl ?_
        refine m_aload_n hx hb hL dX6_mark_70 rfl ?_
        refine r_gets (w := (B 1 0)) hC X hR FX6_47 rfl rfl rfl dX6_mark_71 ?_
        have q3 : (3 : Int) ≤ (B 1 0) ∧ (B 1 0) ≤ 16 := hI.b1 0
        refine m_icmp_ge (tgt := 135) hx hb dX6_mark_74 (by decide) (by omega) (by omega) (fun c74 => ?_) (fun c74 => ?_)
        · refine m_aload_n hx hb hL dX6_mark_135 rfl ?_
          refine lv_iconst (v := iv 2) hx hb dX6_mark_136 rfl ?_
          refine r_puts (v := 2) hC X hR FwX6_70 rfl rfl dX6_mark_137 (fun H locs X hR => ?_)
          have hf := hf.s 18 (iv 2)
          have hI := hI.u18 0 (v := 2) ⟨by omega, by omega⟩
          exact r_vret hC X hR hf hr hlk (by rw [hv, rChoose, if_pos c74]) dX6_mark_140
        · refine m_aload_n hx hb hL dX6_mark_77 rfl ?_
          refine r_geta hC X hR FX6_16 rfl rfl dX6_mark_78 ?_
          refine m_iload_n hx hb hL dX6_mark_81 rfl ?_
          refine lv_iconst (v := iv 0) hx hb dX6_mark_82 rfl ?_
          refine r_zast (x := r) (v := 0) hC X hR 5 rfl rfl (by omega) (by change _ < ((16 : Nat) : Int); omega) (by omega) dX6_mark_83 (fun H locs X hR => ?_)
          have hf := hf.a 5 (r : Int).toNat (iv 0)
          have hI := hI.u5 (r : Int).toNat (v := 0) ⟨by omega, by omega⟩
          refine m_aload_n hx hb hL dX6_mark_84 rfl ?_
          refine r_geta hC X hR FX6_7 rfl rfl dX6_mark_85 ?_
          refine m_iload_n hx hb hL dX6_mark_88 rfl ?_
          refine m_aload_n hx hb hL dX6_mark_89 rfl ?_
          refine r_geta hC X hR FX6_7 rfl rfl dX6_mark_90 ?_
          refine m_iload_n hx hb hL dX6_mark_93 rfl ?_
          refine r_iald (x := r) (w := (B 3 (r : Int).toNat)) hC X hR 3 rfl rfl (by omega) (by change _ < ((16 : Nat) : Int); omega) rfl dX6_mark_94 ?_
          have q4 : (0 : Int) ≤ (B 3 (r : Int).toNat) ∧ (B 3 (r : Int).toNat) ≤ 4 := hI.b3 (r : Int).toNat
          refine lv_iconst (v := iv 3) hx hb dX6_mark_95 rfl ?_
          refine m_icmp_ne (tgt := 122) hx hb dX6_mark_96 (by decide) (by omega) (by omega) (fun c96 => ?_) (fun c96 => ?_)
          · refine m_aload_n hx hb hL dX6_mark_122 rfl ?_
            refine r_geta hC X hR FX6_7 rfl rfl dX6_mark_123 ?_
            refine m_iload_n hx hb hL dX6_mark_126 rfl ?_
            refine r_iald (x := r) (w := (B 3 (r : Int).toNat)) hC X hR 3 rfl rfl (by omega) (by change _ < ((16 : Nat) : Int); omega) rfl dX6_mark_127 ?_
            have q5 : (0 : Int) ≤ (B 3 (r : Int).toNat) ∧ (B 3 (r : Int).toNat) ≤ 4 := hI.b3 (r : Int).toNat
            refine r_iast (x := r) (v := (B 3 (r : Int).toNat)) hC X hR 3 rfl rfl (by omega) (by change _ < ((16 : Nat) : Int); omega) dX6_mark_128 (fun H locs X hR => ?_)
            have hf := hf.a 3 (r : Int).toNat (iv (B 3 (r : Int).toNat))
            have hI := hI.u3 (r : Int).toNat (v := (B 3 (r : Int).toNat)) ⟨by omega, by omega⟩
            refine m_iincv hx hb hL dX6_mark_129 rfl (fun ls hL => ?_)
            refine lv_goto (tgt := 69) hx hb dX6_mark_132 (by decide) ?_
            exact ih (r + 1) _ _ _ _ ls ⟨by omega, by show _ ≤ B 1 0; omega⟩ (by omega) (by rw [hv, rChoose, if_neg c74]; (first | rw [if_pos (by omega)] | rw [if_neg (by omega)])) hI X hR hf hL
          · refine m_aload_n hx hb hL dX6_mark_99 rfl ?_
            refine r_geta hC X hR FX6_13 rfl rfl dX6_mark_100 ?_
            refine m_iload_n hx hb hL dX6_mark_103 rfl ?_
            refine r_iald (x := r) (w := (B 4 (r : Int).toNat)) hC X hR 4 rfl rfl (by omega) (by change _ < ((16 : Nat) : Int); omega) rfl dX6_mark_104 ?_
            have q6 : (0 : Int) ≤ (B 4 (r : Int).toNat) ∧ (B 4 (r : Int).toNat) ≤ 128 := hI.b4 (r : Int).toNat
            refine m_aload_n hx hb hL dX6_mark_105 rfl ?_
            refine m_iload_n hx hb hL dX6_mark_106 rfl ?_
            refine r_call hC X hR hf (k_X6_seenIn (x := r) hR hI (by omega)) VX6_73 rfl ⟨by decide, by decide⟩ ⟨by decide, by decide⟩ hL.1 rfl (Nat.le_of_ble_eq_true rfl) dX6_mark_107 (fun μ H locs X hR hf => ?_)
            have hq107 := rSeenIn_b hI r
            refine m_isub hx hb dX6_mark_110 ?_
            refine m_aload_n hx hb hL dX6_mark_111 rfl ?_
            refine r_gets (w := (B 2 0)) hC X hR FX6_51 rfl rfl rfl dX6_mark_112 ?_
            have q7 : (0 : Int) ≤ (B 2 0) ∧ (B 2 0) ≤ 128 := hI.b2 0
            refine m_icmp_le (tgt := 122) hx hb dX6_mark_115 (by decide) (by omega) (by omega) (fun c115 => ?_) (fun c115 => ?_)
            · refine m_aload_n hx hb hL dX6_mark_122 rfl ?_
              refine r_geta hC X hR FX6_7 rfl rfl dX6_mark_123 ?_
              refine m_iload_n hx hb hL dX6_mark_126 rfl ?_
              refine r_iald (x := r) (w := (B 3 (r : Int).toNat)) hC X hR 3 rfl rfl (by omega) (by change _ < ((16 : Nat) : Int); omega) rfl dX6_mark_127 ?_
              have q8 : (0 : Int) ≤ (B 3 (r : Int).toNat) ∧ (B 3 (r : Int).toNat) ≤ 4 := hI.b3 (r : Int).toNat
              refine r_iast (x := r) (v := (B 3 (r : Int).toNat)) hC X hR 3 rfl rfl (by omega) (by change _ < ((16 : Nat) : Int); omega) dX6_mark_128 (fun H locs X hR => ?_)
              have hf := hf.a 3 (r : Int).toNat (iv (B 3 (r : Int).toNat))
              have hI := hI.u3 (r : Int).toNat (v := (B 3 (r : Int).toNat)) ⟨by omega, by omega⟩
              refine m_iincv hx hb hL dX6_mark_129 rfl (fun ls hL => ?_)
              refine lv_goto (tgt := 69) hx hb dX6_mark_132 (by decide) ?_
              exact ih (r + 1) _ _ _ _ ls ⟨by omega, by show _ ≤ B 1 0; omega⟩ (by omega) (by rw [hv, rChoose, if_neg c74]; (first | rw [if_pos (by omega)] | rw [if_neg (by omega)])) hI X hR hf hL
            · refine lv_iconst (v := iv 4) hx hb dX6_mark_118 rfl ?_
              refine lv_goto (tgt := 128) hx hb dX6_mark_119 (by decide) ?_
              refine r_iast (x := r) (v := 4) hC X hR 3 rfl rfl (by omega) (by change _ < ((16 : Nat) : Int); omega) dX6_mark_128 (fun H locs X hR => ?_)
              have hf := hf.a 3 (r : Int).toNat (iv 4)
              have hI := hI.u3 (r : Int).toNat (v := 4) ⟨by omega, by omega⟩
              refine m_iincv hx hb hL dX6_mark_129 rfl (fun ls hL => ?_)
              refine lv_goto (tgt := 69) hx hb dX6_mark_132 (by decide) ?_
              exact ih (r + 1) _ _ _ _ ls ⟨by omega, by show _ ≤ B 1 0; omega⟩ (by omega) (by rw [hv, rChoose, if_neg c74]; (first | rw [if_pos (by omega)] | rw [if_neg (by omega)])) hI X hR hf hL
    exact lq2 20 0 _ _ _ _ ls ⟨by omega, by have := hI.b1 0; omega⟩ (by omega) (by unfold rMark; rw [if_pos c8]) hI X hR hf hL
  · refine m_aload_n hx hb hL dX6_mark_11 rfl ?_
    refine r_geta hC X hR FX6_44 rfl rfl dX6_mark_12 ?_
    refine m_aload_n hx hb hL dX6_mark_15 rfl ?_
    refine r_gets (w := (A 16 0)) hC X hR FX6_63 rfl rfl rfl dX6_mark_16 ?_
    have q9 : (0 : Int) ≤ (A 16 0) ∧ (A 16 0) ≤ 620 := hI.b16 0
    refine r_iald (x := (A 16 0)) (w := (A 15 ((A 16 0) : Int).toNat)) hC X hR 15 rfl rfl (by omega) (by change _ < ((620 : Nat) : Int); omega) rfl dX6_mark_19 ?_
    have q10 : (0 : Int) ≤ (A 15 ((A 16 0) : Int).toNat) ∧ (A 15 ((A 16 0) : Int).toNat) ≤ 619 := hI.b15 ((A 16 0) : Int).toNat
    refine m_istore_n hx hb hL dX6_mark_20 (Nat.le_of_ble_eq_true rfl) (fun ls hL => ?_)
    refine m_aload_n hx hb hL dX6_mark_21 rfl ?_
    refine lv_dup hx hb dX6_mark_22 rfl ?_
    refine r_gets (w := (A 16 0)) hC X hR FX6_63 rfl rfl rfl dX6_mark_23 ?_
    have q11 : (0 : Int) ≤ (A 16 0) ∧ (A 16 0) ≤ 620 := hI.b16 0
    refine lv_iconst (v := iv 1) hx hb dX6_mark_26 rfl ?_
    refine m_iadd hx hb dX6_mark_27 ?_
    refine r_puts (v := ((A 16 0) + 1)) hC X hR FwX6_63 rfl rfl dX6_mark_28 (fun H locs X hR => ?_)
    have hf := hf.s 16 (iv ((A 16 0) + 1))
    have hI := hI.u16 0 (v := ((A 16 0) + 1)) ⟨by omega, by omega⟩
    refine lv_iconst (v := iv 0) hx hb dX6_mark_31 rfl ?_
    refine m_istore_n hx hb hL dX6_mark_32 (Nat.le_of_ble_eq_true rfl) (fun ls hL => ?_)
    have lp : ∀ (f : Nat) (k : Int) (B : rS) (H : Heap) (locs : List Loc) (μ : mM) (ls : Array Slot), 0 ≤ k ∧ k ≤ 20 → B 17 0 < 590 + k → (f : Int) + k = 30 → rMark A = rSeeF (A 15 (A 16 0 : Int).toNat) f k B → RI B → mX G ρ (mA ρ μ0 z) s.heap μ z H locs → RR B μ → rfr μ0 μ → lq ls [some (.ref (ρ 6)), some (.int (iv (A 15 ((A 16 0) : Int).toNat))), some (.int (iv k))] → W p l e (rm 1 23 0 0) s m args below meth c H locs 0 0 (wQ G ρ μ0 z (rP none (rMark A) μ0 z) below args s 0 0) (F0 m 33 ls []) := by
      intro f
      induction f with
      | zero =>
        intro k B H locs μ ls h0 h1 hf1 hv hI X hR hf hL
        omega
      | succ f ih =>
        intro k B H locs μ ls h0 h1 hf1 hv hI X hR hf hL
        have q8 := hI.b17 0
        refine m_iload_n hx hb hL dX6_mark_33 rfl ?_
        refine m_aload_n hx hb hL dX6_mark_34 rfl ?_
        refine r_geta hC X hR FX6_26 rfl rfl dX6_mark_35 ?_
        refine m_iload_n hx hb hL dX6_mark_38 rfl ?_
        refine r_iald (x := (A 15 ((A 16 0) : Int).toNat)) (w := (B 9 ((A 15 ((A 16 0) : Int).toNat) : Int).toNat)) hC X hR 9 rfl rfl (by omega) (by change _ < ((620 : Nat) : Int); omega) rfl dX6_mark_39 ?_
        have q12 : (0 : Int) ≤ (B 9 ((A 15 ((A 16 0) : Int).toNat) : Int).toNat) ∧ (B 9 ((A 15 ((A 16 0) : Int).toNat) : Int).toNat) ≤ 22 := hI.b9 ((A 15 ((A 16 0) : Int).toNat) : Int).toNat
        refine lv_iconst (v := iv 2) hx hb dX6_mark_40 rfl ?_
        refine m_isub hx hb dX6_mark_41 ?_
        refine m_icmp_ge (tgt := 66) hx hb dX6_mark_42 (by decide) (by omega) (by omega) (fun c42 => ?_) (fun c42 => ?_)
        · exact r_vret hC X hR hf hr hlk (by rw [hv, rSeeF, if_pos c42]) dX6_mark_66
        · refine m_aload_n hx hb hL dX6_mark_45 rfl ?_
          refine m_aload_n hx hb hL dX6_mark_46 rfl ?_
          refine r_geta hC X hR FX6_32 rfl rfl dX6_mark_47 ?_
          refine lv_bipush (v := iv 21) hx hb dX6_mark_50 (by decide +kernel) ?_
          refine m_iload_n hx hb hL dX6_mark_52 rfl ?_
          refine m_imul hx hb dX6_mark_53 ?_
          refine m_iload_n hx hb hL dX6_mark_54 rfl ?_
          refine m_iadd hx hb dX6_mark_55 ?_
          refine r_iald (x := ((21 * (A 15 ((A 16 0) : Int).toNat)) + k)) (w := (B 11 (((21 * (A 15 ((A 16 0) : Int).toNat)) + k) : Int).toNat)) hC X hR 11 rfl rfl (by omega) (by change _ < ((13020 : Nat) : Int); omega) rfl dX6_mark_56 ?_
          have q13 : (-1 : Int) ≤ (B 11 (((21 * (A 15 ((A 16 0) : Int).toNat)) + k) : Int).toNat) ∧ (B 11 (((21 * (A 15 ((A 16 0) : Int).toNat)) + k) : Int).toNat) ≤ 619 := hI.b11 (((21 * (A 15 ((A 16 0) : Int).toNat)) + k) : Int).toNat
          have hs : (B 11 (((21 * (A 15 ((A 16 0) : Int).toNat)) + k) : Int).toNat) ≠ -1 → B 12 ((B 11 (((21 * (A 15 ((A 16 0) : Int).toNat)) + k) : Int).toNat) : Int).toNat = 0 → B 17 0 < 620 := fun _ _ => by omega
          refine r_call hC X hR hf (k_X6_see (x := (B 11 (((21 * (A 15 ((A 16 0) : Int).toNat)) + k) : Int).toNat)) hR hI (by omega) hs) VX6_66 rfl ⟨by decide, by decide⟩ ⟨by decide, by decide⟩ hL.1 rfl (Nat.le_of_ble_eq_true rfl) dX6_mark_57 (fun μ H locs X hR hf => ?_)
          have hk17 := rSee_17 B ((B 11 (((21 * (A 15 ((A 16 0) : Int).toNat)) + k) : Int).toNat))
          have hI := rSee_I hI (x := (B 11 (((21 * (A 15 ((A 16 0) : Int).toNat)) + k) : Int).toNat)) (by omega) (by omega)
          refine m_iincv hx hb hL dX6_mark_60 rfl (fun ls hL => ?_)
          refine lv_goto (tgt := 33) hx hb dX6_mark_63 (by decide) ?_
          exact ih (k + 1) _ _ _ _ ls ⟨by omega, by omega⟩ (by omega) (by omega) (by rw [hv, rSeeF, if_neg c42]) hI X hR hf hL
    exact lp 30 0 _ _ _ _ ls ⟨by omega, by omega⟩ (by show A 17 0 < _; omega) (by omega) (by unfold rMark; rw [if_neg c8]) hI X hR hf hL

set_option maxHeartbeats 4000000 in
theorem k_X6_carry {G : mG} {l : Launch} {z : Nat} {ρ : Nat → Nat} {μ0 : mM} {A : rS} {x : Int} (hR : RR A μ0) (hI : RI A) (hx1 : 0 ≤ x ∧ x < 620) : MR G l yX6_carry cX6_carry 4 none 1 22 z ρ [.ref (ρ 6), .int (iv x)] μ0 none (rCarry A x) := by
  refine MR.of hR (by decide) (by simp [Value.category]) (Nat.le_of_ble_eq_true rfl) (Nat.le_of_ble_eq_true rfl) ?_
  intro p e s m args below meth c ls H locs μ hC hx hb hr hlk X hR hf hL
  refine m_aload_n hx hb hL dX6_carry_0 rfl ?_
  refine lv_iconst (v := iv 2) hx hb dX6_carry_1 rfl ?_
  refine r_call hC X hR hf (k_X6_withState (x := 2) hR hI (by decide)) VX6_77 rfl ⟨by decide, by decide⟩ ⟨by decide, by decide⟩ hL.1 rfl (Nat.le_of_ble_eq_true rfl) dX6_carry_2 (fun μ H locs X hR hf => ?_)
  have hq2 := rWith_b hI (2)
  refine m_istore_n hx hb hL dX6_carry_5 (Nat.le_of_ble_eq_true rfl) (fun ls hL => ?_)
  refine m_iload_n hx hb hL dX6_carry_6 rfl ?_
  refine lv_iconst (v := iv (-1)) hx hb dX6_carry_7 rfl ?_
  refine m_icmp_eq (tgt := 30) hx hb dX6_carry_8 (by decide) (by omega) (by omega) (fun c8 => ?_) (fun c8 => ?_)
  · refine m_aload_n hx hb hL dX6_carry_30 rfl ?_
    refine lv_iconst (v := iv 0) hx hb dX6_carry_31 rfl ?_
    refine r_call hC X hR hf (k_X6_withState (x := 0) hR hI (by decide)) VX6_77 rfl ⟨by decide, by decide⟩ ⟨by decide, by decide⟩ hL.1 rfl (Nat.le_of_ble_eq_true rfl) dX6_carry_32 (fun μ H locs X hR hf => ?_)
    have hq32 := rWith_b hI (0)
    refine m_istore_n hx hb hL dX6_carry_35 (Nat.le_of_ble_eq_true rfl) (fun ls hL => ?_)
    refine m_iload_n hx hb hL dX6_carry_36 rfl ?_
    refine lv_iconst (v := iv (-1)) hx hb dX6_carry_37 rfl ?_
    refine m_icmp_ne (tgt := 71) hx hb dX6_carry_38 (by decide) (by omega) (by omega) (fun c38 => ?_) (fun c38 => ?_)
    · refine m_iload_n hx hb hL dX6_carry_71 rfl ?_
      refine lv_iconst (v := iv (-1)) hx hb dX6_carry_72 rfl ?_
      refine m_icmp_eq (tgt := 83) hx hb dX6_carry_73 (by decide) (by omega) (by omega) (fun c73 => ?_) (fun c73 => ?_)
      · refine m_aload_n hx hb hL dX6_carry_83 rfl ?_
        refine r_geta hC X hR FX6_7 rfl rfl dX6_carry_84 ?_
        refine m_iload_n hx hb hL dX6_carry_87 rfl ?_
        refine lv_iconst (v := iv 2) hx hb dX6_carry_88 rfl ?_
        refine r_iast (x := (rWith A 0)) (v := 2) hC X hR 3 rfl rfl (by omega) (by change _ < ((16 : Nat) : Int); omega) dX6_carry_89 (fun H locs X hR => ?_)
        have hf := hf.a 3 ((rWith A 0) : Int).toNat (iv 2)
        have hI := hI.u3 ((rWith A 0) : Int).toNat (v := 2) ⟨by omega, by omega⟩
        refine m_aload_n hx hb hL dX6_carry_90 rfl ?_
        refine r_geta hC X hR FX6_13 rfl rfl dX6_carry_91 ?_
        refine m_iload_n hx hb hL dX6_carry_94 rfl ?_
        refine lv_iconst (v := iv 0) hx hb dX6_carry_95 rfl ?_
        refine r_iast (x := (rWith A 0)) (v := 0) hC X hR 4 rfl rfl (by omega) (by change _ < ((16 : Nat) : Int); omega) dX6_carry_96 (fun H locs X hR => ?_)
        have hf := hf.a 4 ((rWith A 0) : Int).toNat (iv 0)
        have hI := hI.u4 ((rWith A 0) : Int).toNat (v := 0) ⟨by omega, by omega⟩
        refine m_iload_n hx hb hL dX6_carry_97 rfl ?_
        refine m_istore_n hx hb hL dX6_carry_98 (Nat.le_of_ble_eq_true rfl) (fun ls hL => ?_)
        refine m_aload_n hx hb hL dX6_carry_99 rfl ?_
        refine r_geta hC X hR FX6_20 rfl rfl dX6_carry_100 ?_
        refine m_iload_n hx hb hL dX6_carry_103 rfl ?_
        refine m_iload_n hx hb hL dX6_carry_104 rfl ?_
        refine r_iast (x := x) (v := (rWith A 0)) hC X hR 7 rfl rfl (by omega) (by change _ < ((620 : Nat) : Int); omega) dX6_carry_105 (fun H locs X hR => ?_)
        have hf := hf.a 7 (x : Int).toNat (iv (rWith A 0))
        have hI := hI.u7 (x : Int).toNat (v := (rWith A 0)) ⟨by omega, by omega⟩
        refine m_aload_n hx hb hL dX6_carry_106 rfl ?_
        refine r_geta hC X hR FX6_23 rfl rfl dX6_carry_107 ?_
        refine m_iload_n hx hb hL dX6_carry_110 rfl ?_
        refine m_aload_n hx hb hL dX6_carry_111 rfl ?_
        refine r_geta hC X hR FX6_13 rfl rfl dX6_carry_112 ?_
        refine m_iload_n hx hb hL dX6_carry_115 rfl ?_
        refine r_iald (x := (rWith A 0)) (w := 0) hC X hR 4 rfl rfl (by omega) (by change _ < ((16 : Nat) : Int); omega) (by simp [up]) dX6_carry_116 ?_
        refine r_iast (x := x) (v := 0) hC X hR 8 rfl rfl (by omega) (by change _ < ((620 : Nat) : Int); omega) dX6_carry_117 (fun H locs X hR => ?_)
        have hf := hf.a 8 (x : Int).toNat (iv 0)
        have hI := hI.u8 (x : Int).toNat (v := 0) ⟨by omega, by omega⟩
        refine m_aload_n hx hb hL dX6_carry_118 rfl ?_
        refine r_geta hC X hR FX6_13 rfl rfl dX6_carry_119 ?_
        refine m_iload_n hx hb hL dX6_carry_122 rfl ?_
        refine m_aload_n hx hb hL dX6_carry_123 rfl ?_
        refine r_geta hC X hR FX6_13 rfl rfl dX6_carry_124 ?_
        refine m_iload_n hx hb hL dX6_carry_127 rfl ?_
        refine r_iald (x := (rWith A 0)) (w := 0) hC X hR 4 rfl rfl (by omega) (by change _ < ((16 : Nat) : Int); omega) (by simp [up]) dX6_carry_128 ?_
        refine m_aload_n hx hb hL dX6_carry_129 rfl ?_
        refine r_geta hC X hR FX6_26 rfl rfl dX6_carry_130 ?_
        refine m_iload_n hx hb hL dX6_carry_133 rfl ?_
        refine r_iald (x := x) (w := (A 9 (x : Int).toNat)) hC X hR 9 rfl rfl (by omega) (by change _ < ((620 : Nat) : Int); omega) rfl dX6_carry_134 ?_
        have q1 : (0 : Int) ≤ (A 9 (x : Int).toNat) ∧ (A 9 (x : Int).toNat) ≤ 22 := hI.b9 (x : Int).toNat
        refine m_iadd hx hb dX6_carry_135 ?_
        refine r_iast (x := (rWith A 0)) (v := (0 + (A 9 (x : Int).toNat))) hC X hR 4 rfl rfl (by omega) (by change _ < ((16 : Nat) : Int); omega) dX6_carry_136 (fun H locs X hR => ?_)
        have hf := hf.a 4 ((rWith A 0) : Int).toNat (iv (0 + (A 9 (x : Int).toNat)))
        have hI := hI.u4 ((rWith A 0) : Int).toNat (v := (0 + (A 9 (x : Int).toNat))) ⟨by omega, by omega⟩
        refine m_aload_n hx hb hL dX6_carry_137 rfl ?_
        refine lv_dup hx hb dX6_carry_138 rfl ?_
        refine r_gets (w := (A 20 0)) hC X hR FX6_83 rfl rfl rfl dX6_carry_139 ?_
        refine lv_iconst (v := iv 1) hx hb dX6_carry_142 rfl ?_
        refine m_iadd hx hb dX6_carry_143 ?_
        refine r_puts (v := ((A 20 0) + 1)) hC X hR FwX6_83 rfl rfl dX6_carry_144 (fun H locs X hR => ?_)
        have hf := hf.s 20 (iv ((A 20 0) + 1))
        have hI := hI.u20 0 (v := ((A 20 0) + 1))
        exact r_vret hC X hR hf hr hlk (by first | (exfalso; omega) | (unfold rCarry; (first | rw [if_pos (by omega)] | rw [if_neg (by omega)]); (try (first | rw [if_pos (by omega)] | rw [if_neg (by omega)])); (try (first | rw [if_pos (by omega)] | rw [if_neg (by omega)])); (try simp [rInto, up_s, up_k]))) dX6_carry_147
      · refine m_aload_n hx hb hL dX6_carry_76 rfl ?_
        refine r_geta hC X hR FX6_7 rfl rfl dX6_carry_77 ?_
        refine m_iload_n hx hb hL dX6_carry_80 rfl ?_
        refine lv_iconst (v := iv 3) hx hb dX6_carry_81 rfl ?_
        refine r_iast (x := (rWith A 2)) (v := 3) hC X hR 3 rfl rfl (by omega) (by change _ < ((16 : Nat) : Int); omega) dX6_carry_82 (fun H locs X hR => ?_)
        have hf := hf.a 3 ((rWith A 2) : Int).toNat (iv 3)
        have hI := hI.u3 ((rWith A 2) : Int).toNat (v := 3) ⟨by omega, by omega⟩
        refine m_aload_n hx hb hL dX6_carry_83 rfl ?_
        refine r_geta hC X hR FX6_7 rfl rfl dX6_carry_84 ?_
        refine m_iload_n hx hb hL dX6_carry_87 rfl ?_
        refine lv_iconst (v := iv 2) hx hb dX6_carry_88 rfl ?_
        refine r_iast (x := (rWith A 0)) (v := 2) hC X hR 3 rfl rfl (by omega) (by change _ < ((16 : Nat) : Int); omega) dX6_carry_89 (fun H locs X hR => ?_)
        have hf := hf.a 3 ((rWith A 0) : Int).toNat (iv 2)
        have hI := hI.u3 ((rWith A 0) : Int).toNat (v := 2) ⟨by omega, by omega⟩
        refine m_aload_n hx hb hL dX6_carry_90 rfl ?_
        refine r_geta hC X hR FX6_13 rfl rfl dX6_carry_91 ?_
        refine m_iload_n hx hb hL dX6_carry_94 rfl ?_
        refine lv_iconst (v := iv 0) hx hb dX6_carry_95 rfl ?_
        refine r_iast (x := (rWith A 0)) (v := 0) hC X hR 4 rfl rfl (by omega) (by change _ < ((16 : Nat) : Int); omega) dX6_carry_96 (fun H locs X hR => ?_)
        have hf := hf.a 4 ((rWith A 0) : Int).toNat (iv 0)
        have hI := hI.u4 ((rWith A 0) : Int).toNat (v := 0) ⟨by omega, by omega⟩
        refine m_iload_n hx hb hL dX6_carry_97 rfl ?_
        refine m_istore_n hx hb hL dX6_carry_98 (Nat.le_of_ble_eq_true rfl) (fun ls hL => ?_)
        refine m_aload_n hx hb hL dX6_carry_99 rfl ?_
        refine r_geta hC X hR FX6_20 rfl rfl dX6_carry_100 ?_
        refine m_iload_n hx hb hL dX6_carry_103 rfl ?_
        refine m_iload_n hx hb hL dX6_carry_104 rfl ?_
        refine r_iast (x := x) (v := (rWith A 0)) hC X hR 7 rfl rfl (by omega) (by change _ < ((620 : Nat) : Int); omega) dX6_carry_105 (fun H locs X hR => ?_)
        have hf := hf.a 7 (x : Int).toNat (iv (rWith A 0))
        have hI := hI.u7 (x : Int).toNat (v := (rWith A 0)) ⟨by omega, by omega⟩
        refine m_aload_n hx hb hL dX6_carry_106 rfl ?_
        refine r_geta hC X hR FX6_23 rfl rfl dX6_carry_107 ?_
        refine m_iload_n hx hb hL dX6_carry_110 rfl ?_
        refine m_aload_n hx hb hL dX6_carry_111 rfl ?_
        refine r_geta hC X hR FX6_13 rfl rfl dX6_carry_112 ?_
        refine m_iload_n hx hb hL dX6_carry_115 rfl ?_
        refine r_iald (x := (rWith A 0)) (w := 0) hC X hR 4 rfl rfl (by omega) (by change _ < ((16 : Nat) : Int); omega) (by simp [up]) dX6_carry_116 ?_
        refine r_iast (x := x) (v := 0) hC X hR 8 rfl rfl (by omega) (by change _ < ((620 : Nat) : Int); omega) dX6_carry_117 (fun H locs X hR => ?_)
        have hf := hf.a 8 (x : Int).toNat (iv 0)
        have hI := hI.u8 (x : Int).toNat (v := 0) ⟨by omega, by omega⟩
        refine m_aload_n hx hb hL dX6_carry_118 rfl ?_
        refine r_geta hC X hR FX6_13 rfl rfl dX6_carry_119 ?_
        refine m_iload_n hx hb hL dX6_carry_122 rfl ?_
        refine m_aload_n hx hb hL dX6_carry_123 rfl ?_
        refine r_geta hC X hR FX6_13 rfl rfl dX6_carry_124 ?_
        refine m_iload_n hx hb hL dX6_carry_127 rfl ?_
        refine r_iald (x := (rWith A 0)) (w := 0) hC X hR 4 rfl rfl (by omega) (by change _ < ((16 : Nat) : Int); omega) (by simp [up]) dX6_carry_128 ?_
        refine m_aload_n hx hb hL dX6_carry_129 rfl ?_
        refine r_geta hC X hR FX6_26 rfl rfl dX6_carry_130 ?_
        refine m_iload_n hx hb hL dX6_carry_133 rfl ?_
        refine r_iald (x := x) (w := (A 9 (x : Int).toNat)) hC X hR 9 rfl rfl (by omega) (by change _ < ((620 : Nat) : Int); omega) rfl dX6_carry_134 ?_
        have q2 : (0 : Int) ≤ (A 9 (x : Int).toNat) ∧ (A 9 (x : Int).toNat) ≤ 22 := hI.b9 (x : Int).toNat
        refine m_iadd hx hb dX6_carry_135 ?_
        refine r_iast (x := (rWith A 0)) (v := (0 + (A 9 (x : Int).toNat))) hC X hR 4 rfl rfl (by omega) (by change _ < ((16 : Nat) : Int); omega) dX6_carry_136 (fun H locs X hR => ?_)
        have hf := hf.a 4 ((rWith A 0) : Int).toNat (iv (0 + (A 9 (x : Int).toNat)))
        have hI := hI.u4 ((rWith A 0) : Int).toNat (v := (0 + (A 9 (x : Int).toNat))) ⟨by omega, by omega⟩
        refine m_aload_n hx hb hL dX6_carry_137 rfl ?_
        refine lv_dup hx hb dX6_carry_138 rfl ?_
        refine r_gets (w := (A 20 0)) hC X hR FX6_83 rfl rfl rfl dX6_carry_139 ?_
        refine lv_iconst (v := iv 1) hx hb dX6_carry_142 rfl ?_
        refine m_iadd hx hb dX6_carry_143 ?_
        refine r_puts (v := ((A 20 0) + 1)) hC X hR FwX6_83 rfl rfl dX6_carry_144 (fun H locs X hR => ?_)
        have hf := hf.s 20 (iv ((A 20 0) + 1))
        have hI := hI.u20 0 (v := ((A 20 0) + 1))
        exact r_vret hC X hR hf hr hlk (by first | (exfalso; omega) | (unfold rCarry; (first | rw [if_pos (by omega)] | rw [if_neg (by omega)]); (try (first | rw [if_pos (by omega)] | rw [if_neg (by omega)])); (try (first | rw [if_pos (by omega)] | rw [if_neg (by omega)])); (try simp [rInto, up_s, up_k]))) dX6_carry_147
    · refine m_aload_n hx hb hL dX6_carry_41 rfl ?_
      refine r_geta hC X hR FX6_38 rfl rfl dX6_carry_42 ?_
      refine m_iload_n hx hb hL dX6_carry_45 rfl ?_
      refine lv_iconst (v := iv 1) hx hb dX6_carry_46 rfl ?_
      refine r_zast (x := x) (v := 1) hC X hR 13 rfl rfl (by omega) (by change _ < ((620 : Nat) : Int); omega) (by omega) dX6_carry_47 (fun H locs X hR => ?_)
      have hf := hf.a 13 (x : Int).toNat (iv 1)
      have hI := hI.u13 (x : Int).toNat (v := 1) ⟨by omega, by omega⟩
      refine m_aload_n hx hb hL dX6_carry_48 rfl ?_
      refine r_geta hC X hR FX6_16 rfl rfl dX6_carry_49 ?_
      refine m_aload_n hx hb hL dX6_carry_52 rfl ?_
      refine r_geta hC X hR FX6_20 rfl rfl dX6_carry_53 ?_
      refine m_iload_n hx hb hL dX6_carry_56 rfl ?_
      refine r_iald (x := x) (w := (A 7 (x : Int).toNat)) hC X hR 7 rfl rfl (by omega) (by change _ < ((620 : Nat) : Int); omega) rfl dX6_carry_57 ?_
      have q3 : (0 : Int) ≤ (A 7 (x : Int).toNat) ∧ (A 7 (x : Int).toNat) ≤ 15 := hI.b7 (x : Int).toNat
      refine lv_iconst (v := iv 1) hx hb dX6_carry_58 rfl ?_
      refine r_zast (x := (A 7 (x : Int).toNat)) (v := 1) hC X hR 5 rfl rfl (by omega) (by change _ < ((16 : Nat) : Int); omega) (by omega) dX6_carry_59 (fun H locs X hR => ?_)
      have hf := hf.a 5 ((A 7 (x : Int).toNat) : Int).toNat (iv 1)
      have hI := hI.u5 ((A 7 (x : Int).toNat) : Int).toNat (v := 1) ⟨by omega, by omega⟩
      refine m_aload_n hx hb hL dX6_carry_60 rfl ?_
      refine lv_dup hx hb dX6_carry_61 rfl ?_
      refine r_gets (w := (A 21 0)) hC X hR FX6_80 rfl rfl rfl dX6_carry_62 ?_
      refine lv_iconst (v := iv 1) hx hb dX6_carry_65 rfl ?_
      refine m_iadd hx hb dX6_carry_66 ?_
      refine r_puts (v := ((A 21 0) + 1)) hC X hR FwX6_80 rfl rfl dX6_carry_67 (fun H locs X hR => ?_)
      have hf := hf.s 21 (iv ((A 21 0) + 1))
      have hI := hI.u21 0 (v := ((A 21 0) + 1))
      exact r_vret hC X hR hf hr hlk (by first | (exfalso; omega) | (unfold rCarry; (first | rw [if_pos (by omega)] | rw [if_neg (by omega)]); (try (first | rw [if_pos (by omega)] | rw [if_neg (by omega)])); (try (first | rw [if_pos (by omega)] | rw [if_neg (by omega)])); (try simp [rInto, up_s, up_k]))) dX6_carry_70
  · refine m_aload_n hx hb hL dX6_carry_11 rfl ?_
    refine r_geta hC X hR FX6_13 rfl rfl dX6_carry_12 ?_
    refine m_iload_n hx hb hL dX6_carry_15 rfl ?_
    refine r_iald (x := (rWith A 2)) (w := (A 4 ((rWith A 2) : Int).toNat)) hC X hR 4 rfl rfl (by omega) (by change _ < ((16 : Nat) : Int); omega) rfl dX6_carry_16 ?_
    have q4 : (0 : Int) ≤ (A 4 ((rWith A 2) : Int).toNat) ∧ (A 4 ((rWith A 2) : Int).toNat) ≤ 128 := hI.b4 ((rWith A 2) : Int).toNat
    refine m_aload_n hx hb hL dX6_carry_17 rfl ?_
    refine r_geta hC X hR FX6_26 rfl rfl dX6_carry_18 ?_
    refine m_iload_n hx hb hL dX6_carry_21 rfl ?_
    refine r_iald (x := x) (w := (A 9 (x : Int).toNat)) hC X hR 9 rfl rfl (by omega) (by change _ < ((620 : Nat) : Int); omega) rfl dX6_carry_22 ?_
    have q5 : (0 : Int) ≤ (A 9 (x : Int).toNat) ∧ (A 9 (x : Int).toNat) ≤ 22 := hI.b9 (x : Int).toNat
    refine m_iadd hx hb dX6_carry_23 ?_
    refine lv_sipush (v := iv 128) hx hb dX6_carry_24 (by decide +kernel) ?_
    refine m_icmp_le (tgt := 99) hx hb dX6_carry_27 (by decide) (by omega) (by omega) (fun c27 => ?_) (fun c27 => ?_)
    · refine m_aload_n hx hb hL dX6_carry_99 rfl ?_
      refine r_geta hC X hR FX6_20 rfl rfl dX6_carry_100 ?_
      refine m_iload_n hx hb hL dX6_carry_103 rfl ?_
      refine m_iload_n hx hb hL dX6_carry_104 rfl ?_
      refine r_iast (x := x) (v := (rWith A 2)) hC X hR 7 rfl rfl (by omega) (by change _ < ((620 : Nat) : Int); omega) dX6_carry_105 (fun H locs X hR => ?_)
      have hf := hf.a 7 (x : Int).toNat (iv (rWith A 2))
      have hI := hI.u7 (x : Int).toNat (v := (rWith A 2)) ⟨by omega, by omega⟩
      refine m_aload_n hx hb hL dX6_carry_106 rfl ?_
      refine r_geta hC X hR FX6_23 rfl rfl dX6_carry_107 ?_
      refine m_iload_n hx hb hL dX6_carry_110 rfl ?_
      refine m_aload_n hx hb hL dX6_carry_111 rfl ?_
      refine r_geta hC X hR FX6_13 rfl rfl dX6_carry_112 ?_
      refine m_iload_n hx hb hL dX6_carry_115 rfl ?_
      refine r_iald (x := (rWith A 2)) (w := (A 4 ((rWith A 2) : Int).toNat)) hC X hR 4 rfl rfl (by omega) (by change _ < ((16 : Nat) : Int); omega) rfl dX6_carry_116 ?_
      have q6 : (0 : Int) ≤ (A 4 ((rWith A 2) : Int).toNat) ∧ (A 4 ((rWith A 2) : Int).toNat) ≤ 128 := hI.b4 ((rWith A 2) : Int).toNat
      refine r_iast (x := x) (v := (A 4 ((rWith A 2) : Int).toNat)) hC X hR 8 rfl rfl (by omega) (by change _ < ((620 : Nat) : Int); omega) dX6_carry_117 (fun H locs X hR => ?_)
      have hf := hf.a 8 (x : Int).toNat (iv (A 4 ((rWith A 2) : Int).toNat))
      have hI := hI.u8 (x : Int).toNat (v := (A 4 ((rWith A 2) : Int).toNat)) ⟨by omega, by omega⟩
      refine m_aload_n hx hb hL dX6_carry_118 rfl ?_
      refine r_geta hC X hR FX6_13 rfl rfl dX6_carry_119 ?_
      refine m_iload_n hx hb hL dX6_carry_122 rfl ?_
      refine m_aload_n hx hb hL dX6_carry_123 rfl ?_
      refine r_geta hC X hR FX6_13 rfl rfl dX6_carry_124 ?_
      refine m_iload_n hx hb hL dX6_carry_127 rfl ?_
      refine r_iald (x := (rWith A 2)) (w := (A 4 ((rWith A 2) : Int).toNat)) hC X hR 4 rfl rfl (by omega) (by change _ < ((16 : Nat) : Int); omega) rfl dX6_carry_128 ?_
      have q7 : (0 : Int) ≤ (A 4 ((rWith A 2) : Int).toNat) ∧ (A 4 ((rWith A 2) : Int).toNat) ≤ 128 := hI.b4 ((rWith A 2) : Int).toNat
      refine m_aload_n hx hb hL dX6_carry_129 rfl ?_
      refine r_geta hC X hR FX6_26 rfl rfl dX6_carry_130 ?_
      refine m_iload_n hx hb hL dX6_carry_133 rfl ?_
      refine r_iald (x := x) (w := (A 9 (x : Int).toNat)) hC X hR 9 rfl rfl (by omega) (by change _ < ((620 : Nat) : Int); omega) rfl dX6_carry_134 ?_
      have q8 : (0 : Int) ≤ (A 9 (x : Int).toNat) ∧ (A 9 (x : Int).toNat) ≤ 22 := hI.b9 (x : Int).toNat
      refine m_iadd hx hb dX6_carry_135 ?_
      refine r_iast (x := (rWith A 2)) (v := ((A 4 ((rWith A 2) : Int).toNat) + (A 9 (x : Int).toNat))) hC X hR 4 rfl rfl (by omega) (by change _ < ((16 : Nat) : Int); omega) dX6_carry_136 (fun H locs X hR => ?_)
      have hf := hf.a 4 ((rWith A 2) : Int).toNat (iv ((A 4 ((rWith A 2) : Int).toNat) + (A 9 (x : Int).toNat)))
      have hI := hI.u4 ((rWith A 2) : Int).toNat (v := ((A 4 ((rWith A 2) : Int).toNat) + (A 9 (x : Int).toNat))) ⟨by omega, by omega⟩
      refine m_aload_n hx hb hL dX6_carry_137 rfl ?_
      refine lv_dup hx hb dX6_carry_138 rfl ?_
      refine r_gets (w := (A 20 0)) hC X hR FX6_83 rfl rfl rfl dX6_carry_139 ?_
      refine lv_iconst (v := iv 1) hx hb dX6_carry_142 rfl ?_
      refine m_iadd hx hb dX6_carry_143 ?_
      refine r_puts (v := ((A 20 0) + 1)) hC X hR FwX6_83 rfl rfl dX6_carry_144 (fun H locs X hR => ?_)
      have hf := hf.s 20 (iv ((A 20 0) + 1))
      have hI := hI.u20 0 (v := ((A 20 0) + 1))
      exact r_vret hC X hR hf hr hlk (by first | (exfalso; omega) | (unfold rCarry; (first | rw [if_pos (by omega)] | rw [if_neg (by omega)]); (try (first | rw [if_pos (by omega)] | rw [if_neg (by omega)])); (try (first | rw [if_pos (by omega)] | rw [if_neg (by omega)])); (try simp [rInto, up_s, up_k]))) dX6_carry_147
    · refine m_aload_n hx hb hL dX6_carry_30 rfl ?_
      refine lv_iconst (v := iv 0) hx hb dX6_carry_31 rfl ?_
      refine r_call hC X hR hf (k_X6_withState (x := 0) hR hI (by decide)) VX6_77 rfl ⟨by decide, by decide⟩ ⟨by decide, by decide⟩ hL.1 rfl (Nat.le_of_ble_eq_true rfl) dX6_carry_32 (fun μ H locs X hR hf => ?_)
      have hq32 := rWith_b hI (0)
      refine m_istore_n hx hb hL dX6_carry_35 (Nat.le_of_ble_eq_true rfl) (fun ls hL => ?_)
      refine m_iload_n hx hb hL dX6_carry_36 rfl ?_
      refine lv_iconst (v := iv (-1)) hx hb dX6_carry_37 rfl ?_
      refine m_icmp_ne (tgt := 71) hx hb dX6_carry_38 (by decide) (by omega) (by omega) (fun c38 => ?_) (fun c38 => ?_)
      · refine m_iload_n hx hb hL dX6_carry_71 rfl ?_
        refine lv_iconst (v := iv (-1)) hx hb dX6_carry_72 rfl ?_
        refine m_icmp_eq (tgt := 83) hx hb dX6_carry_73 (by decide) (by omega) (by omega) (fun c73 => ?_) (fun c73 => ?_)
        · refine m_aload_n hx hb hL dX6_carry_83 rfl ?_
          refine r_geta hC X hR FX6_7 rfl rfl dX6_carry_84 ?_
          refine m_iload_n hx hb hL dX6_carry_87 rfl ?_
          refine lv_iconst (v := iv 2) hx hb dX6_carry_88 rfl ?_
          refine r_iast (x := (rWith A 0)) (v := 2) hC X hR 3 rfl rfl (by omega) (by change _ < ((16 : Nat) : Int); omega) dX6_carry_89 (fun H locs X hR => ?_)
          have hf := hf.a 3 ((rWith A 0) : Int).toNat (iv 2)
          have hI := hI.u3 ((rWith A 0) : Int).toNat (v := 2) ⟨by omega, by omega⟩
          refine m_aload_n hx hb hL dX6_carry_90 rfl ?_
          refine r_geta hC X hR FX6_13 rfl rfl dX6_carry_91 ?_
          refine m_iload_n hx hb hL dX6_carry_94 rfl ?_
          refine lv_iconst (v := iv 0) hx hb dX6_carry_95 rfl ?_
          refine r_iast (x := (rWith A 0)) (v := 0) hC X hR 4 rfl rfl (by omega) (by change _ < ((16 : Nat) : Int); omega) dX6_carry_96 (fun H locs X hR => ?_)
          have hf := hf.a 4 ((rWith A 0) : Int).toNat (iv 0)
          have hI := hI.u4 ((rWith A 0) : Int).toNat (v := 0) ⟨by omega, by omega⟩
          refine m_iload_n hx hb hL dX6_carry_97 rfl ?_
          refine m_istore_n hx hb hL dX6_carry_98 (Nat.le_of_ble_eq_true rfl) (fun ls hL => ?_)
          refine m_aload_n hx hb hL dX6_carry_99 rfl ?_
          refine r_geta hC X hR FX6_20 rfl rfl dX6_carry_100 ?_
          refine m_iload_n hx hb hL dX6_carry_103 rfl ?_
          refine m_iload_n hx hb hL dX6_carry_104 rfl ?_
          refine r_iast (x := x) (v := (rWith A 0)) hC X hR 7 rfl rfl (by omega) (by change _ < ((620 : Nat) : Int); omega) dX6_carry_105 (fun H locs X hR => ?_)
          have hf := hf.a 7 (x : Int).toNat (iv (rWith A 0))
          have hI := hI.u7 (x : Int).toNat (v := (rWith A 0)) ⟨by omega, by omega⟩
          refine m_aload_n hx hb hL dX6_carry_106 rfl ?_
          refine r_geta hC X hR FX6_23 rfl rfl dX6_carry_107 ?_
          refine m_iload_n hx hb hL dX6_carry_110 rfl ?_
          refine m_aload_n hx hb hL dX6_carry_111 rfl ?_
          refine r_geta hC X hR FX6_13 rfl rfl dX6_carry_112 ?_
          refine m_iload_n hx hb hL dX6_carry_115 rfl ?_
          refine r_iald (x := (rWith A 0)) (w := 0) hC X hR 4 rfl rfl (by omega) (by change _ < ((16 : Nat) : Int); omega) (by simp [up]) dX6_carry_116 ?_
          refine r_iast (x := x) (v := 0) hC X hR 8 rfl rfl (by omega) (by change _ < ((620 : Nat) : Int); omega) dX6_carry_117 (fun H locs X hR => ?_)
          have hf := hf.a 8 (x : Int).toNat (iv 0)
          have hI := hI.u8 (x : Int).toNat (v := 0) ⟨by omega, by omega⟩
          refine m_aload_n hx hb hL dX6_carry_118 rfl ?_
          refine r_geta hC X hR FX6_13 rfl rfl dX6_carry_119 ?_
          refine m_iload_n hx hb hL dX6_carry_122 rfl ?_
          refine m_aload_n hx hb hL dX6_carry_123 rfl ?_
          refine r_geta hC X hR FX6_13 rfl rfl dX6_carry_124 ?_
          refine m_iload_n hx hb hL dX6_carry_127 rfl ?_
          refine r_iald (x := (rWith A 0)) (w := 0) hC X hR 4 rfl rfl (by omega) (by change _ < ((16 : Nat) : Int); omega) (by simp [up]) dX6_carry_128 ?_
          refine m_aload_n hx hb hL dX6_carry_129 rfl ?_
          refine r_geta hC X hR FX6_26 rfl rfl dX6_carry_130 ?_
          refine m_iload_n hx hb hL dX6_carry_133 rfl ?_
          refine r_iald (x := x) (w := (A 9 (x : Int).toNat)) hC X hR 9 rfl rfl (by omega) (by change _ < ((620 : Nat) : Int); omega) rfl dX6_carry_134 ?_
          have q9 : (0 : Int) ≤ (A 9 (x : Int).toNat) ∧ (A 9 (x : Int).toNat) ≤ 22 := hI.b9 (x : Int).toNat
          refine m_iadd hx hb dX6_carry_135 ?_
          refine r_iast (x := (rWith A 0)) (v := (0 + (A 9 (x : Int).toNat))) hC X hR 4 rfl rfl (by omega) (by change _ < ((16 : Nat) : Int); omega) dX6_carry_136 (fun H locs X hR => ?_)
          have hf := hf.a 4 ((rWith A 0) : Int).toNat (iv (0 + (A 9 (x : Int).toNat)))
          have hI := hI.u4 ((rWith A 0) : Int).toNat (v := (0 + (A 9 (x : Int).toNat))) ⟨by omega, by omega⟩
          refine m_aload_n hx hb hL dX6_carry_137 rfl ?_
          refine lv_dup hx hb dX6_carry_138 rfl ?_
          refine r_gets (w := (A 20 0)) hC X hR FX6_83 rfl rfl rfl dX6_carry_139 ?_
          refine lv_iconst (v := iv 1) hx hb dX6_carry_142 rfl ?_
          refine m_iadd hx hb dX6_carry_143 ?_
          refine r_puts (v := ((A 20 0) + 1)) hC X hR FwX6_83 rfl rfl dX6_carry_144 (fun H locs X hR => ?_)
          have hf := hf.s 20 (iv ((A 20 0) + 1))
          have hI := hI.u20 0 (v := ((A 20 0) + 1))
          exact r_vret hC X hR hf hr hlk (by first | (exfalso; omega) | (unfold rCarry; (first | rw [if_pos (by omega)] | rw [if_neg (by omega)]); (try (first | rw [if_pos (by omega)] | rw [if_neg (by omega)])); (try (first | rw [if_pos (by omega)] | rw [if_neg (by omega)])); (try simp [rInto, up_s, up_k]))) dX6_carry_147
        · refine m_aload_n hx hb hL dX6_carry_76 rfl ?_
          refine r_geta hC X hR FX6_7 rfl rfl dX6_carry_77 ?_
          refine m_iload_n hx hb hL dX6_carry_80 rfl ?_
          refine lv_iconst (v := iv 3) hx hb dX6_carry_81 rfl ?_
          refine r_iast (x := (rWith A 2)) (v := 3) hC X hR 3 rfl rfl (by omega) (by change _ < ((16 : Nat) : Int); omega) dX6_carry_82 (fun H locs X hR => ?_)
          have hf := hf.a 3 ((rWith A 2) : Int).toNat (iv 3)
          have hI := hI.u3 ((rWith A 2) : Int).toNat (v := 3) ⟨by omega, by omega⟩
          refine m_aload_n hx hb hL dX6_carry_83 rfl ?_
          refine r_geta hC X hR FX6_7 rfl rfl dX6_carry_84 ?_
          refine m_iload_n hx hb hL dX6_carry_87 rfl ?_
          refine lv_iconst (v := iv 2) hx hb dX6_carry_88 rfl ?_
          refine r_iast (x := (rWith A 0)) (v := 2) hC X hR 3 rfl rfl (by omega) (by change _ < ((16 : Nat) : Int); omega) dX6_carry_89 (fun H locs X hR => ?_)
          have hf := hf.a 3 ((rWith A 0) : Int).toNat (iv 2)
          have hI := hI.u3 ((rWith A 0) : Int).toNat (v := 2) ⟨by omega, by omega⟩
          refine m_aload_n hx hb hL dX6_carry_90 rfl ?_
          refine r_geta hC X hR FX6_13 rfl rfl dX6_carry_91 ?_
          refine m_iload_n hx hb hL dX6_carry_94 rfl ?_
          refine lv_iconst (v := iv 0) hx hb dX6_carry_95 rfl ?_
          refine r_iast (x := (rWith A 0)) (v := 0) hC X hR 4 rfl rfl (by omega) (by change _ < ((16 : Nat) : Int); omega) dX6_carry_96 (fun H locs X hR => ?_)
          have hf := hf.a 4 ((rWith A 0) : Int).toNat (iv 0)
          have hI := hI.u4 ((rWith A 0) : Int).toNat (v := 0) ⟨by omega, by omega⟩
          refine m_iload_n hx hb hL dX6_carry_97 rfl ?_
          refine m_istore_n hx hb hL dX6_carry_98 (Nat.le_of_ble_eq_true rfl) (fun ls hL => ?_)
          refine m_aload_n hx hb hL dX6_carry_99 rfl ?_
          refine r_geta hC X hR FX6_20 rfl rfl dX6_carry_100 ?_
          refine m_iload_n hx hb hL dX6_carry_103 rfl ?_
          refine m_iload_n hx hb hL dX6_carry_104 rfl ?_
          refine r_iast (x := x) (v := (rWith A 0)) hC X hR 7 rfl rfl (by omega) (by change _ < ((620 : Nat) : Int); omega) dX6_carry_105 (fun H locs X hR => ?_)
          have hf := hf.a 7 (x : Int).toNat (iv (rWith A 0))
          have hI := hI.u7 (x : Int).toNat (v := (rWith A 0)) ⟨by omega, by omega⟩
          refine m_aload_n hx hb hL dX6_carry_106 rfl ?_
          refine r_geta hC X hR FX6_23 rfl rfl dX6_carry_107 ?_
          refine m_iload_n hx hb hL dX6_carry_110 rfl ?_
          refine m_aload_n hx hb hL dX6_carry_111 rfl ?_
          refine r_geta hC X hR FX6_13 rfl rfl dX6_carry_112 ?_
          refine m_iload_n hx hb hL dX6_carry_115 rfl ?_
          refine r_iald (x := (rWith A 0)) (w := 0) hC X hR 4 rfl rfl (by omega) (by change _ < ((16 : Nat) : Int); omega) (by simp [up]) dX6_carry_116 ?_
          refine r_iast (x := x) (v := 0) hC X hR 8 rfl rfl (by omega) (by change _ < ((620 : Nat) : Int); omega) dX6_carry_117 (fun H locs X hR => ?_)
          have hf := hf.a 8 (x : Int).toNat (iv 0)
          have hI := hI.u8 (x : Int).toNat (v := 0) ⟨by omega, by omega⟩
          refine m_aload_n hx hb hL dX6_carry_118 rfl ?_
          refine r_geta hC X hR FX6_13 rfl rfl dX6_carry_119 ?_
          refine m_iload_n hx hb hL dX6_carry_122 rfl ?_
          refine m_aload_n hx hb hL dX6_carry_123 rfl ?_
          refine r_geta hC X hR FX6_13 rfl rfl dX6_carry_124 ?_
          refine m_iload_n hx hb hL dX6_carry_127 rfl ?_
          refine r_iald (x := (rWith A 0)) (w := 0) hC X hR 4 rfl rfl (by omega) (by change _ < ((16 : Nat) : Int); omega) (by simp [up]) dX6_carry_128 ?_
          refine m_aload_n hx hb hL dX6_carry_129 rfl ?_
          refine r_geta hC X hR FX6_26 rfl rfl dX6_carry_130 ?_
          refine m_iload_n hx hb hL dX6_carry_133 rfl ?_
          refine r_iald (x := x) (w := (A 9 (x : Int).toNat)) hC X hR 9 rfl rfl (by omega) (by change _ < ((620 : Nat) : Int); omega) rfl dX6_carry_134 ?_
          have q10 : (0 : Int) ≤ (A 9 (x : Int).toNat) ∧ (A 9 (x : Int).toNat) ≤ 22 := hI.b9 (x : Int).toNat
          refine m_iadd hx hb dX6_carry_135 ?_
          refine r_iast (x := (rWith A 0)) (v := (0 + (A 9 (x : Int).toNat))) hC X hR 4 rfl rfl (by omega) (by change _ < ((16 : Nat) : Int); omega) dX6_carry_136 (fun H locs X hR => ?_)
          have hf := hf.a 4 ((rWith A 0) : Int).toNat (iv (0 + (A 9 (x : Int).toNat)))
          have hI := hI.u4 ((rWith A 0) : Int).toNat (v := (0 + (A 9 (x : Int).toNat))) ⟨by omega, by omega⟩
          refine m_aload_n hx hb hL dX6_carry_137 rfl ?_
          refine lv_dup hx hb dX6_carry_138 rfl ?_
          refine r_gets (w := (A 20 0)) hC X hR FX6_83 rfl rfl rfl dX6_carry_139 ?_
          refine lv_iconst (v := iv 1) hx hb dX6_carry_142 rfl ?_
          refine m_iadd hx hb dX6_carry_143 ?_
          refine r_puts (v := ((A 20 0) + 1)) hC X hR FwX6_83 rfl rfl dX6_carry_144 (fun H locs X hR => ?_)
          have hf := hf.s 20 (iv ((A 20 0) + 1))
          have hI := hI.u20 0 (v := ((A 20 0) + 1))
          exact r_vret hC X hR hf hr hlk (by first | (exfalso; omega) | (unfold rCarry; (first | rw [if_pos (by omega)] | rw [if_neg (by omega)]); (try (first | rw [if_pos (by omega)] | rw [if_neg (by omega)])); (try (first | rw [if_pos (by omega)] | rw [if_neg (by omega)])); (try simp [rInto, up_s, up_k]))) dX6_carry_147
      · refine m_aload_n hx hb hL dX6_carry_41 rfl ?_
        refine r_geta hC X hR FX6_38 rfl rfl dX6_carry_42 ?_
        refine m_iload_n hx hb hL dX6_carry_45 rfl ?_
        refine lv_iconst (v := iv 1) hx hb dX6_carry_46 rfl ?_
        refine r_zast (x := x) (v := 1) hC X hR 13 rfl rfl (by omega) (by change _ < ((620 : Nat) : Int); omega) (by omega) dX6_carry_47 (fun H locs X hR => ?_)
        have hf := hf.a 13 (x : Int).toNat (iv 1)
        have hI := hI.u13 (x : Int).toNat (v := 1) ⟨by omega, by omega⟩
        refine m_aload_n hx hb hL dX6_carry_48 rfl ?_
        refine r_geta hC X hR FX6_16 rfl rfl dX6_carry_49 ?_
        refine m_aload_n hx hb hL dX6_carry_52 rfl ?_
        refine r_geta hC X hR FX6_20 rfl rfl dX6_carry_53 ?_
        refine m_iload_n hx hb hL dX6_carry_56 rfl ?_
        refine r_iald (x := x) (w := (A 7 (x : Int).toNat)) hC X hR 7 rfl rfl (by omega) (by change _ < ((620 : Nat) : Int); omega) rfl dX6_carry_57 ?_
        have q11 : (0 : Int) ≤ (A 7 (x : Int).toNat) ∧ (A 7 (x : Int).toNat) ≤ 15 := hI.b7 (x : Int).toNat
        refine lv_iconst (v := iv 1) hx hb dX6_carry_58 rfl ?_
        refine r_zast (x := (A 7 (x : Int).toNat)) (v := 1) hC X hR 5 rfl rfl (by omega) (by change _ < ((16 : Nat) : Int); omega) (by omega) dX6_carry_59 (fun H locs X hR => ?_)
        have hf := hf.a 5 ((A 7 (x : Int).toNat) : Int).toNat (iv 1)
        have hI := hI.u5 ((A 7 (x : Int).toNat) : Int).toNat (v := 1) ⟨by omega, by omega⟩
        refine m_aload_n hx hb hL dX6_carry_60 rfl ?_
        refine lv_dup hx hb dX6_carry_61 rfl ?_
        refine r_gets (w := (A 21 0)) hC X hR FX6_80 rfl rfl rfl dX6_carry_62 ?_
        refine lv_iconst (v := iv 1) hx hb dX6_carry_65 rfl ?_
        refine m_iadd hx hb dX6_carry_66 ?_
        refine r_puts (v := ((A 21 0) + 1)) hC X hR FwX6_80 rfl rfl dX6_carry_67 (fun H locs X hR => ?_)
        have hf := hf.s 21 (iv ((A 21 0) + 1))
        have hI := hI.u21 0 (v := ((A 21 0) + 1))
        exact r_vret hC X hR hf hr hlk (by first | (exfalso; omega) | (unfold rCarry; (first | rw [if_pos (by omega)] | rw [if_neg (by omega)]); (try (first | rw [if_pos (by omega)] | rw [if_neg (by omega)])); (try (first | rw [if_pos (by omega)] | rw [if_neg (by omega)])); (try simp [rInto, up_s, up_k]))) dX6_carry_70

set_option maxHeartbeats 4000000 in
theorem k_X6_moveOne {G : mG} {l : Launch} {z : Nat} {ρ : Nat → Nat} {μ0 : mM} {A : rS} (hR : RR A μ0) (hI : RI A) : MR G l yX6_moveOne cX6_moveOne 3 none 2 45 z ρ [.ref (ρ 6)] μ0 none (rMoveOne A) := by
  refine MR.of hR (by decide) (by simp [Value.category]) (Nat.le_of_ble_eq_true rfl) (Nat.le_of_ble_eq_true rfl) ?_
  intro p e s m args below meth c ls H locs μ hC hx hb hr hlk X hR hf hL
  have q0 := hI.b6 0
  refine lv_iconst (v := iv (-1)) hx hb dX6_moveOne_0 rfl ?_
  refine m_istore_n hx hb hL dX6_moveOne_1 (Nat.le_of_ble_eq_true rfl) (fun ls hL => ?_)
  refine lv_iconst (v := iv 0) hx hb dX6_moveOne_2 rfl ?_
  refine m_istore_n hx hb hL dX6_moveOne_3 (Nat.le_of_ble_eq_true rfl) (fun ls hL => ?_)
  have lp : ∀ (f : Nat) (b o : Int) (H : Heap) (locs : List Loc) (μ : mM) (ls : Array Slot), 0 ≤ o ∧ o ≤ A 6 0 → -1 ≤ b ∧ b < 620 → (f : Int) + o = 700 → rBst A = rBest A f o b → mX G ρ (mA ρ μ0 z) s.heap μ z H locs → RR A μ → rfr μ0 μ → lq ls [some (.ref (ρ 6)), some (.int (iv b)), some (.int (iv o))] → W p l e (rm 2 45 0 0) s m args below meth c H locs 0 0 (wQ G ρ μ0 z (rP none (rMoveOne A) μ0 z) below args s 0 0) (F0 m 4 ls []) := by
    intro f
    induction f with
    | zero =>
      intro b o H locs μ ls h0 h1 hf1 hv X hR hf hL
      have := hI.b6 0; omega
    | succ f ih =>
      intro b o H locs μ ls h0 h1 hf1 hv X hR hf hL
      refine m_iload_n hx hb hL dX6_moveOne_4 rfl ?_
      refine m_aload_n hx hb hL dX6_moveOne_5 rfl ?_
      refine r_gets (w := (A 6 0)) hC X hR FX6_57 rfl rfl rfl dX6_moveOne_6 ?_
      have q1 : (0 : Int) ≤ (A 6 0) ∧ (A 6 0) ≤ 620 := hI.b6 0
      refine m_icmp_ge (tgt := 50) hx hb dX6_moveOne_9 (by decide) (by omega) (by omega) (fun c9 => ?_) (fun c9 => ?_)
      · have hv : rBst A = b := by rw [hv, rBest, if_pos c9]
        refine m_iload_n hx hb hL dX6_moveOne_50 rfl ?_
        refine lv_iconst (v := iv (-1)) hx hb dX6_moveOne_51 rfl ?_
        refine m_icmp_eq (tgt := 63) hx hb dX6_moveOne_52 (by decide) (by omega) (by omega) (fun c52 => ?_) (fun c52 => ?_)
        · refine m_aload_n hx hb hL dX6_moveOne_63 rfl ?_
          refine lv_iconst (v := iv 3) hx hb dX6_moveOne_64 rfl ?_
          refine r_puts (v := 3) hC X hR FwX6_70 rfl rfl dX6_moveOne_65 (fun H locs X hR => ?_)
          have hf := hf.s 18 (iv 3)
          have hI := hI.u18 0 (v := 3) ⟨by omega, by omega⟩
          refine m_aload_n hx hb hL dX6_moveOne_68 rfl ?_
          refine lv_iconst (v := iv 0) hx hb dX6_moveOne_69 rfl ?_
          refine r_puts (v := 0) hC X hR FwX6_96 rfl rfl dX6_moveOne_70 (fun H locs X hR => ?_)
          have hf := hf.s 19 (iv 0)
          have hI := hI.u19 0 (v := 0) ⟨by omega, by omega⟩
          exact r_vret hC X hR hf hr hlk (by unfold rMoveOne; rw [hv]; (first | rw [if_pos (by omega)] | rw [if_neg (by omega)])) dX6_moveOne_73
        · refine m_aload_n hx hb hL dX6_moveOne_55 rfl ?_
          refine m_iload_n hx hb hL dX6_moveOne_56 rfl ?_
          refine r_call hC X hR hf (k_X6_carry (x := b) hR hI (by omega)) VX6_93 rfl ⟨by decide, by decide⟩ ⟨by decide, by decide⟩ hL.1 rfl (Nat.le_of_ble_eq_true rfl) dX6_moveOne_57 (fun μ H locs X hR hf => ?_)
          refine lv_goto (tgt := 73) hx hb dX6_moveOne_60 (by decide) ?_
          exact r_vret hC X hR hf hr hlk (by unfold rMoveOne; rw [hv]; (first | rw [if_pos (by omega)] | rw [if_neg (by omega)])) dX6_moveOne_73
      · refine m_aload_n hx hb hL dX6_moveOne_12 rfl ?_
        refine m_iload_n hx hb hL dX6_moveOne_13 rfl ?_
        refine r_call hC X hR hf (k_X6_isToMove (x := o) hR hI (by omega)) VX6_86 rfl ⟨by decide, by decide⟩ ⟨by decide, by decide⟩ hL.1 rfl (Nat.le_of_ble_eq_true rfl) dX6_moveOne_14 (fun μ H locs X hR hf => ?_)
        have hq14 := rToMove_b A (o)
        refine m_if_eq (tgt := 42) hx hb dX6_moveOne_17 (by decide) (by omega) (fun c17 => ?_) (fun c17 => ?_)
        · refine m_iload_n hx hb hL dX6_moveOne_42 rfl ?_
          refine m_istore_n hx hb hL dX6_moveOne_43 (Nat.le_of_ble_eq_true rfl) (fun ls hL => ?_)
          refine m_iincv hx hb hL dX6_moveOne_44 rfl (fun ls hL => ?_)
          refine lv_goto (tgt := 4) hx hb dX6_moveOne_47 (by decide) ?_
          exact ih b (o + 1) _ _ _ ls ⟨by omega, by omega⟩ ⟨by omega, by omega⟩ (by omega) (by rw [hv, rBest, if_neg c9]; (first | rw [if_pos (by omega)] | rw [if_neg (by omega)])) X hR hf hL
        · refine m_iload_n hx hb hL dX6_moveOne_20 rfl ?_
          refine lv_iconst (v := iv (-1)) hx hb dX6_moveOne_21 rfl ?_
          refine m_icmp_eq (tgt := 38) hx hb dX6_moveOne_22 (by decide) (by omega) (by omega) (fun c22 => ?_) (fun c22 => ?_)
          · refine m_iload_n hx hb hL dX6_moveOne_38 rfl ?_
            refine lv_goto (tgt := 43) hx hb dX6_moveOne_39 (by decide) ?_
            refine m_istore_n hx hb hL dX6_moveOne_43 (Nat.le_of_ble_eq_true rfl) (fun ls hL => ?_)
            refine m_iincv hx hb hL dX6_moveOne_44 rfl (fun ls hL => ?_)
            refine lv_goto (tgt := 4) hx hb dX6_moveOne_47 (by decide) ?_
            exact ih o (o + 1) _ _ _ ls ⟨by omega, by omega⟩ ⟨by omega, by omega⟩ (by omega) (by rw [hv, rBest, if_neg c9]; (first | rw [if_pos (by omega)] | rw [if_neg (by omega)])) X hR hf hL
          · refine m_aload_n hx hb hL dX6_moveOne_25 rfl ?_
            refine m_iload_n hx hb hL dX6_moveOne_26 rfl ?_
            refine r_call hC X hR hf (k_X6_place (x := o) hR hI (by omega)) VX6_90 rfl ⟨by decide, by decide⟩ ⟨by decide, by decide⟩ hL.1 rfl (Nat.le_of_ble_eq_true rfl) dX6_moveOne_27 (fun μ H locs X hR hf => ?_)
            have hq27 := rPlace_b hI (o)
            refine m_aload_n hx hb hL dX6_moveOne_30 rfl ?_
            refine m_iload_n hx hb hL dX6_moveOne_31 rfl ?_
            refine r_call hC X hR hf (k_X6_place (x := b) hR hI (by omega)) VX6_90 rfl ⟨by decide, by decide⟩ ⟨by decide, by decide⟩ hL.1 rfl (Nat.le_of_ble_eq_true rfl) dX6_moveOne_32 (fun μ H locs X hR hf => ?_)
            have hq32 := rPlace_b hI (b)
            refine m_icmp_ge (tgt := 42) hx hb dX6_moveOne_35 (by decide) (by omega) (by omega) (fun c35 => ?_) (fun c35 => ?_)
            · refine m_iload_n hx hb hL dX6_moveOne_42 rfl ?_
              refine m_istore_n hx hb hL dX6_moveOne_43 (Nat.le_of_ble_eq_true rfl) (fun ls hL => ?_)
              refine m_iincv hx hb hL dX6_moveOne_44 rfl (fun ls hL => ?_)
              refine lv_goto (tgt := 4) hx hb dX6_moveOne_47 (by decide) ?_
              exact ih b (o + 1) _ _ _ ls ⟨by omega, by omega⟩ ⟨by omega, by omega⟩ (by omega) (by rw [hv, rBest, if_neg c9]; (first | rw [if_pos (by omega)] | rw [if_neg (by omega)])) X hR hf hL
            · refine m_iload_n hx hb hL dX6_moveOne_38 rfl ?_
              refine lv_goto (tgt := 43) hx hb dX6_moveOne_39 (by decide) ?_
              refine m_istore_n hx hb hL dX6_moveOne_43 (Nat.le_of_ble_eq_true rfl) (fun ls hL => ?_)
              refine m_iincv hx hb hL dX6_moveOne_44 rfl (fun ls hL => ?_)
              refine lv_goto (tgt := 4) hx hb dX6_moveOne_47 (by decide) ?_
              exact ih o (o + 1) _ _ _ ls ⟨by omega, by omega⟩ ⟨by omega, by omega⟩ (by omega) (by rw [hv, rBest, if_neg c9]; (first | rw [if_pos (by omega)] | rw [if_neg (by omega)])) X hR hf hL
  exact lp 700 (-1) 0 _ _ _ ls ⟨by omega, by omega⟩ ⟨by omega, by omega⟩ (by omega) rfl X hR hf hL

set_option maxHeartbeats 4000000 in
theorem k_X6_update {G : mG} {l : Launch} {z : Nat} {ρ : Nat → Nat} {μ0 : mM} {A : rS} (hR : RR A μ0) (hI : RI A) (h19 : A 19 0 < 16) : MR G l yX6_update cX6_update 2 none 0 0 z ρ [.ref (ρ 6)] μ0 none (rUpdate A) := by
  refine MR.of hR (by decide) (by simp [Value.category]) (Nat.le_of_ble_eq_true rfl) (Nat.le_of_ble_eq_true rfl) ?_
  intro p e s m args below meth c ls H locs μ hC hx hb hr hlk X hR hf hL
  have q0 := hI.b19 0
  have q00 := hI.b1 0
  refine m_aload_n hx hb hL dX6_update_0 rfl ?_
  refine lv_dup hx hb dX6_update_1 rfl ?_
  refine r_gets (w := (A 19 0)) hC X hR FX6_96 rfl rfl rfl dX6_update_2 ?_
  have q1 : (0 : Int) ≤ (A 19 0) ∧ (A 19 0) ≤ 16 := hI.b19 0
  refine lv_iconst (v := iv 1) hx hb dX6_update_5 rfl ?_
  refine m_iadd hx hb dX6_update_6 ?_
  refine r_puts (v := ((A 19 0) + 1)) hC X hR FwX6_96 rfl rfl dX6_update_7 (fun H locs X hR => ?_)
  have hf := hf.s 19 (iv ((A 19 0) + 1))
  have hI := hI.u19 0 (v := ((A 19 0) + 1)) ⟨by omega, by omega⟩
  refine m_aload_n hx hb hL dX6_update_10 rfl ?_
  refine r_gets (w := ((A 19 0) + 1)) hC X hR FX6_96 rfl rfl rfl dX6_update_11 ?_
  have q2 : (0 : Int) ≤ ((A 19 0) + 1) ∧ ((A 19 0) + 1) ≤ 16 := hI.b19 0
  refine m_aload_n hx hb hL dX6_update_14 rfl ?_
  refine r_gets (w := (A 1 0)) hC X hR FX6_47 rfl rfl rfl dX6_update_15 ?_
  have q3 : (3 : Int) ≤ (A 1 0) ∧ (A 1 0) ≤ 16 := hI.b1 0
  refine m_icmp_ge (tgt := 22) hx hb dX6_update_18 (by decide) (by omega) (by omega) (fun c18 => ?_) (fun c18 => ?_)
  · refine lv_iconst (v := iv 0) hx hb dX6_update_22 rfl ?_
    refine m_istore_n hx hb hL dX6_update_23 (Nat.le_of_ble_eq_true rfl) (fun ls hL => ?_)
    have lp : ∀ (f : Nat) (r : Int) (B : rS) (H : Heap) (locs : List Loc) (μ : mM) (ls : Array Slot), 0 ≤ r ∧ r ≤ B 1 0 → (f : Int) + r = 20 → rUpdate A = up (rEnd f r B) 18 0 0 → RI B → mX G ρ (mA ρ μ0 z) s.heap μ z H locs → RR B μ → rfr μ0 μ → lq ls [some (.ref (ρ 6)), some (.int (iv r))] → W p l e (rm 0 0 0 0) s m args below meth c H locs 0 0 (wQ G ρ μ0 z (rP none (rUpdate A) μ0 z) below args s 0 0) (F0 m 24 ls []) := by
      intro f
      induction f with
      | zero =>
        intro r B H locs μ ls h0 hf1 hv hI X hR hf hL
        have := hI.b1 0; omega
      | succ f ih =>
        intro r B H locs μ ls h0 hf1 hv hI X hR hf hL
        have q8 := hI.b1 0
        refine m_iload_n hx hb hL dX6_update_24 rfl ?_
        refine m_aload_n hx hb hL dX6_update_25 rfl ?_
        refine r_gets (w := (B 1 0)) hC X hR FX6_47 rfl rfl rfl dX6_update_26 ?_
        have q4 : (3 : Int) ≤ (B 1 0) ∧ (B 1 0) ≤ 16 := hI.b1 0
        refine m_icmp_ge (tgt := 107) hx hb dX6_update_29 (by decide) (by omega) (by omega) (fun c29 => ?_) (fun c29 => ?_)
        · refine m_aload_n hx hb hL dX6_update_107 rfl ?_
          refine lv_iconst (v := iv 0) hx hb dX6_update_108 rfl ?_
          refine r_puts (v := 0) hC X hR FwX6_70 rfl rfl dX6_update_109 (fun H locs X hR => ?_)
          have hf := hf.s 18 (iv 0)
          have hI := hI.u18 0 (v := 0) ⟨by omega, by omega⟩
          exact r_vret hC X hR hf hr hlk (by rw [hv, rEnd, if_pos c29]) dX6_update_112
        · refine m_aload_n hx hb hL dX6_update_32 rfl ?_
          refine r_geta hC X hR FX6_7 rfl rfl dX6_update_33 ?_
          refine m_iload_n hx hb hL dX6_update_36 rfl ?_
          refine r_iald (x := r) (w := (B 3 (r : Int).toNat)) hC X hR 3 rfl rfl (by omega) (by change _ < ((16 : Nat) : Int); omega) rfl dX6_update_37 ?_
          have q5 : (0 : Int) ≤ (B 3 (r : Int).toNat) ∧ (B 3 (r : Int).toNat) ≤ 4 := hI.b3 (r : Int).toNat
          refine lv_iconst (v := iv 4) hx hb dX6_update_38 rfl ?_
          refine m_icmp_ne (tgt := 65) hx hb dX6_update_39 (by decide) (by omega) (by omega) (fun c39 => ?_) (fun c39 => ?_)
          · refine m_aload_n hx hb hL dX6_update_65 rfl ?_
            refine r_geta hC X hR FX6_7 rfl rfl dX6_update_66 ?_
            refine m_iload_n hx hb hL dX6_update_69 rfl ?_
            refine m_aload_n hx hb hL dX6_update_70 rfl ?_
            refine r_geta hC X hR FX6_7 rfl rfl dX6_update_71 ?_
            refine m_iload_n hx hb hL dX6_update_74 rfl ?_
            refine r_iald (x := r) (w := (B 3 (r : Int).toNat)) hC X hR 3 rfl rfl (by omega) (by change _ < ((16 : Nat) : Int); omega) rfl dX6_update_75 ?_
            have q6 : (0 : Int) ≤ (B 3 (r : Int).toNat) ∧ (B 3 (r : Int).toNat) ≤ 4 := hI.b3 (r : Int).toNat
            refine lv_iconst (v := iv 4) hx hb dX6_update_76 rfl ?_
            refine m_icmp_eq (tgt := 90) hx hb dX6_update_77 (by decide) (by omega) (by omega) (fun c77 => ?_) (fun c77 => ?_)
            · refine lv_iconst (v := iv 3) hx hb dX6_update_90 rfl ?_
              refine lv_goto (tgt := 100) hx hb dX6_update_91 (by decide) ?_
              refine r_iast (x := r) (v := 3) hC X hR 3 rfl rfl (by omega) (by change _ < ((16 : Nat) : Int); omega) dX6_update_100 (fun H locs X hR => ?_)
              have hf := hf.a 3 (r : Int).toNat (iv 3)
              have hI := hI.u3 (r : Int).toNat (v := 3) ⟨by omega, by omega⟩
              refine m_iincv hx hb hL dX6_update_101 rfl (fun ls hL => ?_)
              refine lv_goto (tgt := 24) hx hb dX6_update_104 (by decide) ?_
              exact ih (r + 1) _ _ _ _ ls ⟨by omega, by show _ ≤ B 1 0; omega⟩ (by omega) (by first | (exfalso; omega) | (rw [hv, rEnd, if_neg c29]; unfold rEnd2 rEnd1; simp [up_s, up_k, c39, c77])) hI X hR hf hL
            · refine m_aload_n hx hb hL dX6_update_80 rfl ?_
              refine r_geta hC X hR FX6_7 rfl rfl dX6_update_81 ?_
              refine m_iload_n hx hb hL dX6_update_84 rfl ?_
              refine r_iald (x := r) (w := (B 3 (r : Int).toNat)) hC X hR 3 rfl rfl (by omega) (by change _ < ((16 : Nat) : Int); omega) rfl dX6_update_85 ?_
              have q7 : (0 : Int) ≤ (B 3 (r : Int).toNat) ∧ (B 3 (r : Int).toNat) ≤ 4 := hI.b3 (r : Int).toNat
              refine lv_iconst (v := iv 2) hx hb dX6_update_86 rfl ?_
              refine m_icmp_ne (tgt := 94) hx hb dX6_update_87 (by decide) (by omega) (by omega) (fun c87 => ?_) (fun c87 => ?_)
              · refine m_aload_n hx hb hL dX6_update_94 rfl ?_
                refine r_geta hC X hR FX6_7 rfl rfl dX6_update_95 ?_
                refine m_iload_n hx hb hL dX6_update_98 rfl ?_
                refine r_iald (x := r) (w := (B 3 (r : Int).toNat)) hC X hR 3 rfl rfl (by omega) (by change _ < ((16 : Nat) : Int); omega) rfl dX6_update_99 ?_
                have q8 : (0 : Int) ≤ (B 3 (r : Int).toNat) ∧ (B 3 (r : Int).toNat) ≤ 4 := hI.b3 (r : Int).toNat
                refine r_iast (x := r) (v := (B 3 (r : Int).toNat)) hC X hR 3 rfl rfl (by omega) (by change _ < ((16 : Nat) : Int); omega) dX6_update_100 (fun H locs X hR => ?_)
                have hf := hf.a 3 (r : Int).toNat (iv (B 3 (r : Int).toNat))
                have hI := hI.u3 (r : Int).toNat (v := (B 3 (r : Int).toNat)) ⟨by omega, by omega⟩
                refine m_iincv hx hb hL dX6_update_101 rfl (fun ls hL => ?_)
                refine lv_goto (tgt := 24) hx hb dX6_update_104 (by decide) ?_
                exact ih (r + 1) _ _ _ _ ls ⟨by omega, by show _ ≤ B 1 0; omega⟩ (by omega) (by first | (exfalso; omega) | (rw [hv, rEnd, if_neg c29]; unfold rEnd2 rEnd1; simp [up_s, up_k, c39, c77, c87])) hI X hR hf hL
              · refine lv_iconst (v := iv 3) hx hb dX6_update_90 rfl ?_
                refine lv_goto (tgt := 100) hx hb dX6_update_91 (by decide) ?_
                refine r_iast (x := r) (v := 3) hC X hR 3 rfl rfl (by omega) (by change _ < ((16 : Nat) : Int); omega) dX6_update_100 (fun H locs X hR => ?_)
                have hf := hf.a 3 (r : Int).toNat (iv 3)
                have hI := hI.u3 (r : Int).toNat (v := 3) ⟨by omega, by omega⟩
                refine m_iincv hx hb hL dX6_update_101 rfl (fun ls hL => ?_)
                refine lv_goto (tgt := 24) hx hb dX6_update_104 (by decide) ?_
                exact ih (r + 1) _ _ _ _ ls ⟨by omega, by show _ ≤ B 1 0; omega⟩ (by omega) (by first | (exfalso; omega) | (rw [hv, rEnd, if_neg c29]; unfold rEnd2 rEnd1; simp [up_s, up_k, c39, c77, c87])) hI X hR hf hL
          · refine m_aload_n hx hb hL dX6_update_42 rfl ?_
            refine r_geta hC X hR FX6_16 rfl rfl dX6_update_43 ?_
            refine m_iload_n hx hb hL dX6_update_46 rfl ?_
            refine r_zald (x := r) (w := (B 5 (r : Int).toNat)) hC X hR 5 rfl rfl (by omega) (by change _ < ((16 : Nat) : Int); omega) rfl dX6_update_47 ?_
            have q9 : (0 : Int) ≤ (B 5 (r : Int).toNat) ∧ (B 5 (r : Int).toNat) ≤ 1 := hI.b5 (r : Int).toNat
            refine m_if_ne (tgt := 65) hx hb dX6_update_48 (by decide) (by omega) (fun c48 => ?_) (fun c48 => ?_)
            · refine m_aload_n hx hb hL dX6_update_65 rfl ?_
              refine r_geta hC X hR FX6_7 rfl rfl dX6_update_66 ?_
              refine m_iload_n hx hb hL dX6_update_69 rfl ?_
              refine m_aload_n hx hb hL dX6_update_70 rfl ?_
              refine r_geta hC X hR FX6_7 rfl rfl dX6_update_71 ?_
              refine m_iload_n hx hb hL dX6_update_74 rfl ?_
              refine r_iald (x := r) (w := (B 3 (r : Int).toNat)) hC X hR 3 rfl rfl (by omega) (by change _ < ((16 : Nat) : Int); omega) rfl dX6_update_75 ?_
              have q10 : (0 : Int) ≤ (B 3 (r : Int).toNat) ∧ (B 3 (r : Int).toNat) ≤ 4 := hI.b3 (r : Int).toNat
              refine lv_iconst (v := iv 4) hx hb dX6_update_76 rfl ?_
              refine m_icmp_eq (tgt := 90) hx hb dX6_update_77 (by decide) (by omega) (by omega) (fun c77 => ?_) (fun c77 => ?_)
              · refine lv_iconst (v := iv 3) hx hb dX6_update_90 rfl ?_
                refine lv_goto (tgt := 100) hx hb dX6_update_91 (by decide) ?_
                refine r_iast (x := r) (v := 3) hC X hR 3 rfl rfl (by omega) (by change _ < ((16 : Nat) : Int); omega) dX6_update_100 (fun H locs X hR => ?_)
                have hf := hf.a 3 (r : Int).toNat (iv 3)
                have hI := hI.u3 (r : Int).toNat (v := 3) ⟨by omega, by omega⟩
                refine m_iincv hx hb hL dX6_update_101 rfl (fun ls hL => ?_)
                refine lv_goto (tgt := 24) hx hb dX6_update_104 (by decide) ?_
                exact ih (r + 1) _ _ _ _ ls ⟨by omega, by show _ ≤ B 1 0; omega⟩ (by omega) (by first | (exfalso; omega) | (rw [hv, rEnd, if_neg c29]; unfold rEnd2 rEnd1; simp [up_s, up_k, c39, c48, c77])) hI X hR hf hL
              · refine m_aload_n hx hb hL dX6_update_80 rfl ?_
                refine r_geta hC X hR FX6_7 rfl rfl dX6_update_81 ?_
                refine m_iload_n hx hb hL dX6_update_84 rfl ?_
                refine r_iald (x := r) (w := (B 3 (r : Int).toNat)) hC X hR 3 rfl rfl (by omega) (by change _ < ((16 : Nat) : Int); omega) rfl dX6_update_85 ?_
                have q11 : (0 : Int) ≤ (B 3 (r : Int).toNat) ∧ (B 3 (r : Int).toNat) ≤ 4 := hI.b3 (r : Int).toNat
                refine lv_iconst (v := iv 2) hx hb dX6_update_86 rfl ?_
                refine m_icmp_ne (tgt := 94) hx hb dX6_update_87 (by decide) (by omega) (by omega) (fun c87 => ?_) (fun c87 => ?_)
                · refine m_aload_n hx hb hL dX6_update_94 rfl ?_
                  refine r_geta hC X hR FX6_7 rfl rfl dX6_update_95 ?_
                  refine m_iload_n hx hb hL dX6_update_98 rfl ?_
                  refine r_iald (x := r) (w := (B 3 (r : Int).toNat)) hC X hR 3 rfl rfl (by omega) (by change _ < ((16 : Nat) : Int); omega) rfl dX6_update_99 ?_
                  have q12 : (0 : Int) ≤ (B 3 (r : Int).toNat) ∧ (B 3 (r : Int).toNat) ≤ 4 := hI.b3 (r : Int).toNat
                  refine r_iast (x := r) (v := (B 3 (r : Int).toNat)) hC X hR 3 rfl rfl (by omega) (by change _ < ((16 : Nat) : Int); omega) dX6_update_100 (fun H locs X hR => ?_)
                  have hf := hf.a 3 (r : Int).toNat (iv (B 3 (r : Int).toNat))
                  have hI := hI.u3 (r : Int).toNat (v := (B 3 (r : Int).toNat)) ⟨by omega, by omega⟩
                  refine m_iincv hx hb hL dX6_update_101 rfl (fun ls hL => ?_)
                  refine lv_goto (tgt := 24) hx hb dX6_update_104 (by decide) ?_
                  exact ih (r + 1) _ _ _ _ ls ⟨by omega, by show _ ≤ B 1 0; omega⟩ (by omega) (by first | (exfalso; omega) | (rw [hv, rEnd, if_neg c29]; unfold rEnd2 rEnd1; simp [up_s, up_k, c39, c48, c77, c87])) hI X hR hf hL
                · refine lv_iconst (v := iv 3) hx hb dX6_update_90 rfl ?_
                  refine lv_goto (tgt := 100) hx hb dX6_update_91 (by decide) ?_
                  refine r_iast (x := r) (v := 3) hC X hR 3 rfl rfl (by omega) (by change _ < ((16 : Nat) : Int); omega) dX6_update_100 (fun H locs X hR => ?_)
                  have hf := hf.a 3 (r : Int).toNat (iv 3)
                  have hI := hI.u3 (r : Int).toNat (v := 3) ⟨by omega, by omega⟩
                  refine m_iincv hx hb hL dX6_update_101 rfl (fun ls hL => ?_)
                  refine lv_goto (tgt := 24) hx hb dX6_update_104 (by decide) ?_
                  exact ih (r + 1) _ _ _ _ ls ⟨by omega, by show _ ≤ B 1 0; omega⟩ (by omega) (by first | (exfalso; omega) | (rw [hv, rEnd, if_neg c29]; unfold rEnd2 rEnd1; simp [up_s, up_k, c39, c48, c77, c87])) hI X hR hf hL
            · refine m_aload_n hx hb hL dX6_update_51 rfl ?_
              refine r_geta hC X hR FX6_7 rfl rfl dX6_update_52 ?_
              refine m_iload_n hx hb hL dX6_update_55 rfl ?_
              refine lv_iconst (v := iv 0) hx hb dX6_update_56 rfl ?_
              refine r_iast (x := r) (v := 0) hC X hR 3 rfl rfl (by omega) (by change _ < ((16 : Nat) : Int); omega) dX6_update_57 (fun H locs X hR => ?_)
              have hf := hf.a 3 (r : Int).toNat (iv 0)
              have hI := hI.u3 (r : Int).toNat (v := 0) ⟨by omega, by omega⟩
              refine m_aload_n hx hb hL dX6_update_58 rfl ?_
              refine r_geta hC X hR FX6_13 rfl rfl dX6_update_59 ?_
              refine m_iload_n hx hb hL dX6_update_62 rfl ?_
              refine lv_iconst (v := iv 0) hx hb dX6_update_63 rfl ?_
              refine r_iast (x := r) (v := 0) hC X hR 4 rfl rfl (by omega) (by change _ < ((16 : Nat) : Int); omega) dX6_update_64 (fun H locs X hR => ?_)
              have hf := hf.a 4 (r : Int).toNat (iv 0)
              have hI := hI.u4 (r : Int).toNat (v := 0) ⟨by omega, by omega⟩
              refine m_aload_n hx hb hL dX6_update_65 rfl ?_
              refine r_geta hC X hR FX6_7 rfl rfl dX6_update_66 ?_
              refine m_iload_n hx hb hL dX6_update_69 rfl ?_
              refine m_aload_n hx hb hL dX6_update_70 rfl ?_
              refine r_geta hC X hR FX6_7 rfl rfl dX6_update_71 ?_
              refine m_iload_n hx hb hL dX6_update_74 rfl ?_
              refine r_iald (x := r) (w := 0) hC X hR 3 rfl rfl (by omega) (by change _ < ((16 : Nat) : Int); omega) (by simp [up]) dX6_update_75 ?_
              refine lv_iconst (v := iv 4) hx hb dX6_update_76 rfl ?_
              refine m_icmp_eq (tgt := 90) hx hb dX6_update_77 (by decide) (by omega) (by omega) (fun c77 => absurd c77 (by omega)) (fun c77 => ?_)
              refine m_aload_n hx hb hL dX6_update_80 rfl ?_
              refine r_geta hC X hR FX6_7 rfl rfl dX6_update_81 ?_
              refine m_iload_n hx hb hL dX6_update_84 rfl ?_
              refine r_iald (x := r) (w := 0) hC X hR 3 rfl rfl (by omega) (by change _ < ((16 : Nat) : Int); omega) (by simp [up]) dX6_update_85 ?_
              refine lv_iconst (v := iv 2) hx hb dX6_update_86 rfl ?_
              refine m_icmp_ne (tgt := 94) hx hb dX6_update_87 (by decide) (by omega) (by omega) (fun c87 => ?_) (fun c87 => absurd c87 (by omega))
              refine m_aload_n hx hb hL dX6_update_94 rfl ?_
              refine r_geta hC X hR FX6_7 rfl rfl dX6_update_95 ?_
              refine m_iload_n hx hb hL dX6_update_98 rfl ?_
              refine r_iald (x := r) (w := 0) hC X hR 3 rfl rfl (by omega) (by change _ < ((16 : Nat) : Int); omega) (by simp [up]) dX6_update_99 ?_
              refine r_iast (x := r) (v := 0) hC X hR 3 rfl rfl (by omega) (by change _ < ((16 : Nat) : Int); omega) dX6_update_100 (fun H locs X hR => ?_)
              have hf := hf.a 3 (r : Int).toNat (iv 0)
              have hI := hI.u3 (r : Int).toNat (v := 0) ⟨by omega, by omega⟩
              refine m_iincv hx hb hL dX6_update_101 rfl (fun ls hL => ?_)
              refine lv_goto (tgt := 24) hx hb dX6_update_104 (by decide) ?_
              exact ih (r + 1) _ _ _ _ ls ⟨by omega, by show _ ≤ B 1 0; omega⟩ (by omega) (by first | (exfalso; omega) | (rw [hv, rEnd, if_neg c29]; unfold rEnd2 rEnd1; simp [up_s, up_k, c39, c48])) hI X hR hf hL
    exact lp 20 0 _ _ _ _ ls ⟨by omega, by have := hI.b1 0; omega⟩ (by omega) (by unfold rUpdate; rw [if_neg (by omega)]) hI X hR hf hL
  · exact r_vret hC X hR hf hr hlk (by unfold rUpdate; rw [if_pos (by omega)]) dX6_update_21

set_option maxHeartbeats 4000000 in
theorem k_X6_unit {G : mG} {l : Launch} {z : Nat} {ρ : Nat → Nat} {μ0 : mM} {A : rS} (hR : RR A μ0) (hI : RI A) (h17 : A 17 0 < 590) (h19 : A 18 0 = 3 → A 19 0 < 16) : MR G l yX6_unit cX6_unit 1 none 3 67 z ρ [.ref (ρ 6)] μ0 none (rUnit A) := by
  refine MR.of hR (by decide) (by simp [Value.category]) (Nat.le_of_ble_eq_true rfl) (Nat.le_of_ble_eq_true rfl) ?_
  intro p e s m args below meth c ls H locs μ hC hx hb hr hlk X hR hf hL
  refine m_aload_n hx hb hL dX6_unit_0 rfl ?_
  refine r_gets (w := (A 18 0)) hC X hR FX6_70 rfl rfl rfl dX6_unit_1 ?_
  have q1 : (0 : Int) ≤ (A 18 0) ∧ (A 18 0) ≤ 3 := hI.b18 0
  refine lv_iconst (v := iv 1) hx hb dX6_unit_4 rfl ?_
  refine m_icmp_ne (tgt := 15) hx hb dX6_unit_5 (by decide) (by omega) (by omega) (fun c5 => ?_) (fun c5 => ?_)
  · refine m_aload_n hx hb hL dX6_unit_15 rfl ?_
    refine r_gets (w := (A 18 0)) hC X hR FX6_70 rfl rfl rfl dX6_unit_16 ?_
    have q2 : (0 : Int) ≤ (A 18 0) ∧ (A 18 0) ≤ 3 := hI.b18 0
    refine lv_iconst (v := iv 2) hx hb dX6_unit_19 rfl ?_
    refine m_icmp_ne (tgt := 30) hx hb dX6_unit_20 (by decide) (by omega) (by omega) (fun c20 => ?_) (fun c20 => ?_)
    · refine m_aload_n hx hb hL dX6_unit_30 rfl ?_
      refine r_gets (w := (A 18 0)) hC X hR FX6_70 rfl rfl rfl dX6_unit_31 ?_
      have q3 : (0 : Int) ≤ (A 18 0) ∧ (A 18 0) ≤ 3 := hI.b18 0
      refine lv_iconst (v := iv 3) hx hb dX6_unit_34 rfl ?_
      refine m_icmp_ne (tgt := 42) hx hb dX6_unit_35 (by decide) (by omega) (by omega) (fun c35 => ?_) (fun c35 => ?_)
      · exact r_vret hC X hR hf hr hlk (by unfold rUnit; (first | rw [if_pos (by assumption)] | rw [if_neg (by assumption)]); (try (first | rw [if_pos (by assumption)] | rw [if_neg (by assumption)])); (try (first | rw [if_pos (by assumption)] | rw [if_neg (by assumption)]))) dX6_unit_42
      · refine m_aload_n hx hb hL dX6_unit_38 rfl ?_
        refine r_call hC X hR hf (k_X6_update hR hI (h19 c35)) VX6_105 rfl ⟨by decide, by decide⟩ ⟨by decide, by decide⟩ hL.1 rfl (Nat.le_of_ble_eq_true rfl) dX6_unit_39 (fun μ H locs X hR hf => ?_)
        exact r_vret hC X hR hf hr hlk (by unfold rUnit; (first | rw [if_pos (by assumption)] | rw [if_neg (by assumption)]); (try (first | rw [if_pos (by assumption)] | rw [if_neg (by assumption)])); (try (first | rw [if_pos (by assumption)] | rw [if_neg (by assumption)]))) dX6_unit_42
    · refine m_aload_n hx hb hL dX6_unit_23 rfl ?_
      refine r_call hC X hR hf (k_X6_moveOne hR hI) VX6_102 rfl ⟨by decide, by decide⟩ ⟨by decide, by decide⟩ hL.1 rfl (Nat.le_of_ble_eq_true rfl) dX6_unit_24 (fun μ H locs X hR hf => ?_)
      refine lv_goto (tgt := 42) hx hb dX6_unit_27 (by decide) ?_
      exact r_vret hC X hR hf hr hlk (by unfold rUnit; (first | rw [if_pos (by assumption)] | rw [if_neg (by assumption)]); (try (first | rw [if_pos (by assumption)] | rw [if_neg (by assumption)])); (try (first | rw [if_pos (by assumption)] | rw [if_neg (by assumption)]))) dX6_unit_42
  · refine m_aload_n hx hb hL dX6_unit_8 rfl ?_
    refine r_call hC X hR hf (k_X6_mark hR hI h17) VX6_99 rfl ⟨by decide, by decide⟩ ⟨by decide, by decide⟩ hL.1 rfl (Nat.le_of_ble_eq_true rfl) dX6_unit_9 (fun μ H locs X hR hf => ?_)
    refine lv_goto (tgt := 42) hx hb dX6_unit_12 (by decide) ?_
    exact r_vret hC X hR hf hr hlk (by unfold rUnit; (first | rw [if_pos (by assumption)] | rw [if_neg (by assumption)]); (try (first | rw [if_pos (by assumption)] | rw [if_neg (by assumption)])); (try (first | rw [if_pos (by assumption)] | rw [if_neg (by assumption)]))) dX6_unit_42

set_option maxHeartbeats 4000000 in
theorem k_X6_hasActive {G : mG} {l : Launch} {z : Nat} {ρ : Nat → Nat} {μ0 : mM} {A : rS} {x : Int} (hR : RR A μ0) (hI : RI A) (hx1 : 2 ≤ x ∧ x ≤ 22) : MR G l yX6_hasActive cX6_hasActive 3 (some .boolean) 1 22 z ρ [.ref (ρ 6), .int (iv x)] μ0 (some (.int (iv (rHasV A x)))) (rHas A x) := by
  refine MR.of hR (by decide) (by simp [Value.category]) (Nat.le_of_ble_eq_true rfl) (Nat.le_of_ble_eq_true rfl) ?_
  intro p e s m args below meth c ls H locs μ hC hx hb hr hlk X hR hf hL
  refine m_aload_n hx hb hL dX6_hasActive_0 rfl ?_
  refine lv_iconst (v := iv 1) hx hb dX6_hasActive_1 rfl ?_
  refine r_call hC X hR hf (k_X6_withState (x := 1) hR hI (by decide)) VX6_77 rfl ⟨by decide, by decide⟩ ⟨by decide, by decide⟩ hL.1 rfl (Nat.le_of_ble_eq_true rfl) dX6_hasActive_2 (fun μ H locs X hR hf => ?_)
  have hq2 := rWith_b hI (1)
  refine m_istore_n hx hb hL dX6_hasActive_5 (Nat.le_of_ble_eq_true rfl) (fun ls hL => ?_)
  refine m_iload_n hx hb hL dX6_hasActive_6 rfl ?_
  refine lv_iconst (v := iv (-1)) hx hb dX6_hasActive_7 rfl ?_
  refine m_icmp_eq (tgt := 34) hx hb dX6_hasActive_8 (by decide) (by omega) (by omega) (fun c8 => ?_) (fun c8 => ?_)
  · refine m_iload_n hx hb hL dX6_hasActive_34 rfl ?_
    refine lv_iconst (v := iv (-1)) hx hb dX6_hasActive_35 rfl ?_
    refine m_icmp_ne (tgt := 57) hx hb dX6_hasActive_36 (by decide) (by omega) (by omega) (fun c36 => ?_) (fun c36 => ?_)
    · refine m_iload_n hx hb hL dX6_hasActive_57 rfl ?_
      refine lv_iconst (v := iv (-1)) hx hb dX6_hasActive_58 rfl ?_
      refine m_icmp_eq (tgt := 66) hx hb dX6_hasActive_59 (by decide) (by omega) (by omega) (fun c59 => ?_) (fun c59 => ?_)
      · refine lv_iconst (v := iv 0) hx hb dX6_hasActive_66 rfl ?_
        exact r_zret hC X hR hf hr hlk (by first | (exfalso; omega) | (unfold rHas; (first | rw [if_pos (by omega)] | rw [if_neg (by omega)]); (try ((first | rw [show rHas1 A x = A by unfold rHas1; rw [if_neg (by omega)]] | rw [show rHas1 A x = up A 3 (rWith A 1).toNat 3 by unfold rHas1; rw [if_pos (by omega)]]); unfold rHas2; (first | rw [if_pos (by omega)] | rw [if_neg (by omega)]))))) (by first | (exfalso; omega) | (unfold rHasV; (first | rw [if_pos (by omega)] | rw [if_neg (by omega)]); (try ((first | rw [show rHas1 A x = A by unfold rHas1; rw [if_neg (by omega)]] | rw [show rHas1 A x = up A 3 (rWith A 1).toNat 3 by unfold rHas1; rw [if_pos (by omega)]]); (first | rw [if_pos (by omega)] | rw [if_neg (by omega)]))))) (by omega) dX6_hasActive_67
      · refine lv_iconst (v := iv 1) hx hb dX6_hasActive_62 rfl ?_
        refine lv_goto (tgt := 67) hx hb dX6_hasActive_63 (by decide) ?_
        exact r_zret hC X hR hf hr hlk (by first | (exfalso; omega) | (unfold rHas; (first | rw [if_pos (by omega)] | rw [if_neg (by omega)]); (try ((first | rw [show rHas1 A x = A by unfold rHas1; rw [if_neg (by omega)]] | rw [show rHas1 A x = up A 3 (rWith A 1).toNat 3 by unfold rHas1; rw [if_pos (by omega)]]); unfold rHas2; (first | rw [if_pos (by omega)] | rw [if_neg (by omega)]))))) (by first | (exfalso; omega) | (unfold rHasV; (first | rw [if_pos (by omega)] | rw [if_neg (by omega)]); (try ((first | rw [show rHas1 A x = A by unfold rHas1; rw [if_neg (by omega)]] | rw [show rHas1 A x = up A 3 (rWith A 1).toNat 3 by unfold rHas1; rw [if_pos (by omega)]]); (first | rw [if_pos (by omega)] | rw [if_neg (by omega)]))))) (by omega) dX6_hasActive_67
    · refine m_aload_n hx hb hL dX6_hasActive_39 rfl ?_
      refine lv_iconst (v := iv 0) hx hb dX6_hasActive_40 rfl ?_
      refine r_call hC X hR hf (k_X6_withState (x := 0) hR hI (by decide)) VX6_77 rfl ⟨by decide, by decide⟩ ⟨by decide, by decide⟩ hL.1 rfl (Nat.le_of_ble_eq_true rfl) dX6_hasActive_41 (fun μ H locs X hR hf => ?_)
      have hq41 := rWith_b hI (0)
      refine m_istore_n hx hb hL dX6_hasActive_44 (Nat.le_of_ble_eq_true rfl) (fun ls hL => ?_)
      refine m_iload_n hx hb hL dX6_hasActive_45 rfl ?_
      refine lv_iconst (v := iv (-1)) hx hb dX6_hasActive_46 rfl ?_
      refine m_icmp_eq (tgt := 57) hx hb dX6_hasActive_47 (by decide) (by omega) (by omega) (fun c47 => ?_) (fun c47 => ?_)
      · refine m_iload_n hx hb hL dX6_hasActive_57 rfl ?_
        refine lv_iconst (v := iv (-1)) hx hb dX6_hasActive_58 rfl ?_
        refine m_icmp_eq (tgt := 66) hx hb dX6_hasActive_59 (by decide) (by omega) (by omega) (fun c59 => ?_) (fun c59 => ?_)
        · refine lv_iconst (v := iv 0) hx hb dX6_hasActive_66 rfl ?_
          exact r_zret hC X hR hf hr hlk (by first | (exfalso; omega) | (unfold rHas; (first | rw [if_pos (by omega)] | rw [if_neg (by omega)]); (try ((first | rw [show rHas1 A x = A by unfold rHas1; rw [if_neg (by omega)]] | rw [show rHas1 A x = up A 3 (rWith A 1).toNat 3 by unfold rHas1; rw [if_pos (by omega)]]); unfold rHas2; (first | rw [if_pos (by omega)] | rw [if_neg (by omega)]))))) (by first | (exfalso; omega) | (unfold rHasV; (first | rw [if_pos (by omega)] | rw [if_neg (by omega)]); (try ((first | rw [show rHas1 A x = A by unfold rHas1; rw [if_neg (by omega)]] | rw [show rHas1 A x = up A 3 (rWith A 1).toNat 3 by unfold rHas1; rw [if_pos (by omega)]]); (first | rw [if_pos (by omega)] | rw [if_neg (by omega)]))))) (by omega) dX6_hasActive_67
        · refine lv_iconst (v := iv 1) hx hb dX6_hasActive_62 rfl ?_
          refine lv_goto (tgt := 67) hx hb dX6_hasActive_63 (by decide) ?_
          exact r_zret hC X hR hf hr hlk (by first | (exfalso; omega) | (unfold rHas; (first | rw [if_pos (by omega)] | rw [if_neg (by omega)]); (try ((first | rw [show rHas1 A x = A by unfold rHas1; rw [if_neg (by omega)]] | rw [show rHas1 A x = up A 3 (rWith A 1).toNat 3 by unfold rHas1; rw [if_pos (by omega)]]); unfold rHas2; (first | rw [if_pos (by omega)] | rw [if_neg (by omega)]))))) (by first | (exfalso; omega) | (unfold rHasV; (first | rw [if_pos (by omega)] | rw [if_neg (by omega)]); (try ((first | rw [show rHas1 A x = A by unfold rHas1; rw [if_neg (by omega)]] | rw [show rHas1 A x = up A 3 (rWith A 1).toNat 3 by unfold rHas1; rw [if_pos (by omega)]]); (first | rw [if_pos (by omega)] | rw [if_neg (by omega)]))))) (by omega) dX6_hasActive_67
      · refine m_aload_n hx hb hL dX6_hasActive_50 rfl ?_
        refine r_geta hC X hR FX6_7 rfl rfl dX6_hasActive_51 ?_
        refine m_iload_n hx hb hL dX6_hasActive_54 rfl ?_
        refine lv_iconst (v := iv 1) hx hb dX6_hasActive_55 rfl ?_
        refine r_iast (x := (rWith A 0)) (v := 1) hC X hR 3 rfl rfl (by omega) (by change _ < ((16 : Nat) : Int); omega) dX6_hasActive_56 (fun H locs X hR => ?_)
        have hf := hf.a 3 ((rWith A 0) : Int).toNat (iv 1)
        have hI := hI.u3 ((rWith A 0) : Int).toNat (v := 1) ⟨by omega, by omega⟩
        refine m_iload_n hx hb hL dX6_hasActive_57 rfl ?_
        refine lv_iconst (v := iv (-1)) hx hb dX6_hasActive_58 rfl ?_
        refine m_icmp_eq (tgt := 66) hx hb dX6_hasActive_59 (by decide) (by omega) (by omega) (fun c59 => ?_) (fun c59 => ?_)
        · refine lv_iconst (v := iv 0) hx hb dX6_hasActive_66 rfl ?_
          exact r_zret hC X hR hf hr hlk (by first | (exfalso; omega) | (unfold rHas; (first | rw [if_pos (by omega)] | rw [if_neg (by omega)]); (try ((first | rw [show rHas1 A x = A by unfold rHas1; rw [if_neg (by omega)]] | rw [show rHas1 A x = up A 3 (rWith A 1).toNat 3 by unfold rHas1; rw [if_pos (by omega)]]); unfold rHas2; (first | rw [if_pos (by omega)] | rw [if_neg (by omega)]))))) (by first | (exfalso; omega) | (unfold rHasV; (first | rw [if_pos (by omega)] | rw [if_neg (by omega)]); (try ((first | rw [show rHas1 A x = A by unfold rHas1; rw [if_neg (by omega)]] | rw [show rHas1 A x = up A 3 (rWith A 1).toNat 3 by unfold rHas1; rw [if_pos (by omega)]]); (first | rw [if_pos (by omega)] | rw [if_neg (by omega)]))))) (by omega) dX6_hasActive_67
        · refine lv_iconst (v := iv 1) hx hb dX6_hasActive_62 rfl ?_
          refine lv_goto (tgt := 67) hx hb dX6_hasActive_63 (by decide) ?_
          exact r_zret hC X hR hf hr hlk (by first | (exfalso; omega) | (unfold rHas; (first | rw [if_pos (by omega)] | rw [if_neg (by omega)]); (try ((first | rw [show rHas1 A x = A by unfold rHas1; rw [if_neg (by omega)]] | rw [show rHas1 A x = up A 3 (rWith A 1).toNat 3 by unfold rHas1; rw [if_pos (by omega)]]); unfold rHas2; (first | rw [if_pos (by omega)] | rw [if_neg (by omega)]))))) (by first | (exfalso; omega) | (unfold rHasV; (first | rw [if_pos (by omega)] | rw [if_neg (by omega)]); (try ((first | rw [show rHas1 A x = A by unfold rHas1; rw [if_neg (by omega)]] | rw [show rHas1 A x = up A 3 (rWith A 1).toNat 3 by unfold rHas1; rw [if_pos (by omega)]]); (first | rw [if_pos (by omega)] | rw [if_neg (by omega)]))))) (by omega) dX6_hasActive_67
  · refine m_aload_n hx hb hL dX6_hasActive_11 rfl ?_
    refine r_geta hC X hR FX6_13 rfl rfl dX6_hasActive_12 ?_
    refine m_iload_n hx hb hL dX6_hasActive_15 rfl ?_
    refine r_iald (x := (rWith A 1)) (w := (A 4 ((rWith A 1) : Int).toNat)) hC X hR 4 rfl rfl (by omega) (by change _ < ((16 : Nat) : Int); omega) rfl dX6_hasActive_16 ?_
    have q1 : (0 : Int) ≤ (A 4 ((rWith A 1) : Int).toNat) ∧ (A 4 ((rWith A 1) : Int).toNat) ≤ 128 := hI.b4 ((rWith A 1) : Int).toNat
    refine m_iload_n hx hb hL dX6_hasActive_17 rfl ?_
    refine m_iadd hx hb dX6_hasActive_18 ?_
    refine lv_sipush (v := iv 128) hx hb dX6_hasActive_19 (by decide +kernel) ?_
    refine m_icmp_le (tgt := 34) hx hb dX6_hasActive_22 (by decide) (by omega) (by omega) (fun c22 => ?_) (fun c22 => ?_)
    · refine m_iload_n hx hb hL dX6_hasActive_34 rfl ?_
      refine lv_iconst (v := iv (-1)) hx hb dX6_hasActive_35 rfl ?_
      refine m_icmp_ne (tgt := 57) hx hb dX6_hasActive_36 (by decide) (by omega) (by omega) (fun c36 => ?_) (fun c36 => ?_)
      · refine m_iload_n hx hb hL dX6_hasActive_57 rfl ?_
        refine lv_iconst (v := iv (-1)) hx hb dX6_hasActive_58 rfl ?_
        refine m_icmp_eq (tgt := 66) hx hb dX6_hasActive_59 (by decide) (by omega) (by omega) (fun c59 => ?_) (fun c59 => ?_)
        · refine lv_iconst (v := iv 0) hx hb dX6_hasActive_66 rfl ?_
          exact r_zret hC X hR hf hr hlk (by first | (exfalso; omega) | (unfold rHas; (first | rw [if_pos (by omega)] | rw [if_neg (by omega)]); (try ((first | rw [show rHas1 A x = A by unfold rHas1; rw [if_neg (by omega)]] | rw [show rHas1 A x = up A 3 (rWith A 1).toNat 3 by unfold rHas1; rw [if_pos (by omega)]]); unfold rHas2; (first | rw [if_pos (by omega)] | rw [if_neg (by omega)]))))) (by first | (exfalso; omega) | (unfold rHasV; (first | rw [if_pos (by omega)] | rw [if_neg (by omega)]); (try ((first | rw [show rHas1 A x = A by unfold rHas1; rw [if_neg (by omega)]] | rw [show rHas1 A x = up A 3 (rWith A 1).toNat 3 by unfold rHas1; rw [if_pos (by omega)]]); (first | rw [if_pos (by omega)] | rw [if_neg (by omega)]))))) (by omega) dX6_hasActive_67
        · refine lv_iconst (v := iv 1) hx hb dX6_hasActive_62 rfl ?_
          refine lv_goto (tgt := 67) hx hb dX6_hasActive_63 (by decide) ?_
          exact r_zret hC X hR hf hr hlk (by first | (exfalso; omega) | (unfold rHas; (first | rw [if_pos (by omega)] | rw [if_neg (by omega)]); (try ((first | rw [show rHas1 A x = A by unfold rHas1; rw [if_neg (by omega)]] | rw [show rHas1 A x = up A 3 (rWith A 1).toNat 3 by unfold rHas1; rw [if_pos (by omega)]]); unfold rHas2; (first | rw [if_pos (by omega)] | rw [if_neg (by omega)]))))) (by first | (exfalso; omega) | (unfold rHasV; (first | rw [if_pos (by omega)] | rw [if_neg (by omega)]); (try ((first | rw [show rHas1 A x = A by unfold rHas1; rw [if_neg (by omega)]] | rw [show rHas1 A x = up A 3 (rWith A 1).toNat 3 by unfold rHas1; rw [if_pos (by omega)]]); (first | rw [if_pos (by omega)] | rw [if_neg (by omega)]))))) (by omega) dX6_hasActive_67
      · refine m_aload_n hx hb hL dX6_hasActive_39 rfl ?_
        refine lv_iconst (v := iv 0) hx hb dX6_hasActive_40 rfl ?_
        refine r_call hC X hR hf (k_X6_withState (x := 0) hR hI (by decide)) VX6_77 rfl ⟨by decide, by decide⟩ ⟨by decide, by decide⟩ hL.1 rfl (Nat.le_of_ble_eq_true rfl) dX6_hasActive_41 (fun μ H locs X hR hf => ?_)
        have hq41 := rWith_b hI (0)
        refine m_istore_n hx hb hL dX6_hasActive_44 (Nat.le_of_ble_eq_true rfl) (fun ls hL => ?_)
        refine m_iload_n hx hb hL dX6_hasActive_45 rfl ?_
        refine lv_iconst (v := iv (-1)) hx hb dX6_hasActive_46 rfl ?_
        refine m_icmp_eq (tgt := 57) hx hb dX6_hasActive_47 (by decide) (by omega) (by omega) (fun c47 => ?_) (fun c47 => ?_)
        · refine m_iload_n hx hb hL dX6_hasActive_57 rfl ?_
          refine lv_iconst (v := iv (-1)) hx hb dX6_hasActive_58 rfl ?_
          refine m_icmp_eq (tgt := 66) hx hb dX6_hasActive_59 (by decide) (by omega) (by omega) (fun c59 => ?_) (fun c59 => ?_)
          · refine lv_iconst (v := iv 0) hx hb dX6_hasActive_66 rfl ?_
            exact r_zret hC X hR hf hr hlk (by first | (exfalso; omega) | (unfold rHas; (first | rw [if_pos (by omega)] | rw [if_neg (by omega)]); (try ((first | rw [show rHas1 A x = A by unfold rHas1; rw [if_neg (by omega)]] | rw [show rHas1 A x = up A 3 (rWith A 1).toNat 3 by unfold rHas1; rw [if_pos (by omega)]]); unfold rHas2; (first | rw [if_pos (by omega)] | rw [if_neg (by omega)]))))) (by first | (exfalso; omega) | (unfold rHasV; (first | rw [if_pos (by omega)] | rw [if_neg (by omega)]); (try ((first | rw [show rHas1 A x = A by unfold rHas1; rw [if_neg (by omega)]] | rw [show rHas1 A x = up A 3 (rWith A 1).toNat 3 by unfold rHas1; rw [if_pos (by omega)]]); (first | rw [if_pos (by omega)] | rw [if_neg (by omega)]))))) (by omega) dX6_hasActive_67
          · refine lv_iconst (v := iv 1) hx hb dX6_hasActive_62 rfl ?_
            refine lv_goto (tgt := 67) hx hb dX6_hasActive_63 (by decide) ?_
            exact r_zret hC X hR hf hr hlk (by first | (exfalso; omega) | (unfold rHas; (first | rw [if_pos (by omega)] | rw [if_neg (by omega)]); (try ((first | rw [show rHas1 A x = A by unfold rHas1; rw [if_neg (by omega)]] | rw [show rHas1 A x = up A 3 (rWith A 1).toNat 3 by unfold rHas1; rw [if_pos (by omega)]]); unfold rHas2; (first | rw [if_pos (by omega)] | rw [if_neg (by omega)]))))) (by first | (exfalso; omega) | (unfold rHasV; (first | rw [if_pos (by omega)] | rw [if_neg (by omega)]); (try ((first | rw [show rHas1 A x = A by unfold rHas1; rw [if_neg (by omega)]] | rw [show rHas1 A x = up A 3 (rWith A 1).toNat 3 by unfold rHas1; rw [if_pos (by omega)]]); (first | rw [if_pos (by omega)] | rw [if_neg (by omega)]))))) (by omega) dX6_hasActive_67
        · refine m_aload_n hx hb hL dX6_hasActive_50 rfl ?_
          refine r_geta hC X hR FX6_7 rfl rfl dX6_hasActive_51 ?_
          refine m_iload_n hx hb hL dX6_hasActive_54 rfl ?_
          refine lv_iconst (v := iv 1) hx hb dX6_hasActive_55 rfl ?_
          refine r_iast (x := (rWith A 0)) (v := 1) hC X hR 3 rfl rfl (by omega) (by change _ < ((16 : Nat) : Int); omega) dX6_hasActive_56 (fun H locs X hR => ?_)
          have hf := hf.a 3 ((rWith A 0) : Int).toNat (iv 1)
          have hI := hI.u3 ((rWith A 0) : Int).toNat (v := 1) ⟨by omega, by omega⟩
          refine m_iload_n hx hb hL dX6_hasActive_57 rfl ?_
          refine lv_iconst (v := iv (-1)) hx hb dX6_hasActive_58 rfl ?_
          refine m_icmp_eq (tgt := 66) hx hb dX6_hasActive_59 (by decide) (by omega) (by omega) (fun c59 => ?_) (fun c59 => ?_)
          · refine lv_iconst (v := iv 0) hx hb dX6_hasActive_66 rfl ?_
            exact r_zret hC X hR hf hr hlk (by first | (exfalso; omega) | (unfold rHas; (first | rw [if_pos (by omega)] | rw [if_neg (by omega)]); (try ((first | rw [show rHas1 A x = A by unfold rHas1; rw [if_neg (by omega)]] | rw [show rHas1 A x = up A 3 (rWith A 1).toNat 3 by unfold rHas1; rw [if_pos (by omega)]]); unfold rHas2; (first | rw [if_pos (by omega)] | rw [if_neg (by omega)]))))) (by first | (exfalso; omega) | (unfold rHasV; (first | rw [if_pos (by omega)] | rw [if_neg (by omega)]); (try ((first | rw [show rHas1 A x = A by unfold rHas1; rw [if_neg (by omega)]] | rw [show rHas1 A x = up A 3 (rWith A 1).toNat 3 by unfold rHas1; rw [if_pos (by omega)]]); (first | rw [if_pos (by omega)] | rw [if_neg (by omega)]))))) (by omega) dX6_hasActive_67
          · refine lv_iconst (v := iv 1) hx hb dX6_hasActive_62 rfl ?_
            refine lv_goto (tgt := 67) hx hb dX6_hasActive_63 (by decide) ?_
            exact r_zret hC X hR hf hr hlk (by first | (exfalso; omega) | (unfold rHas; (first | rw [if_pos (by omega)] | rw [if_neg (by omega)]); (try ((first | rw [show rHas1 A x = A by unfold rHas1; rw [if_neg (by omega)]] | rw [show rHas1 A x = up A 3 (rWith A 1).toNat 3 by unfold rHas1; rw [if_pos (by omega)]]); unfold rHas2; (first | rw [if_pos (by omega)] | rw [if_neg (by omega)]))))) (by first | (exfalso; omega) | (unfold rHasV; (first | rw [if_pos (by omega)] | rw [if_neg (by omega)]); (try ((first | rw [show rHas1 A x = A by unfold rHas1; rw [if_neg (by omega)]] | rw [show rHas1 A x = up A 3 (rWith A 1).toNat 3 by unfold rHas1; rw [if_pos (by omega)]]); (first | rw [if_pos (by omega)] | rw [if_neg (by omega)]))))) (by omega) dX6_hasActive_67
    · refine m_aload_n hx hb hL dX6_hasActive_25 rfl ?_
      refine r_geta hC X hR FX6_7 rfl rfl dX6_hasActive_26 ?_
      refine m_iload_n hx hb hL dX6_hasActive_29 rfl ?_
      refine lv_iconst (v := iv 3) hx hb dX6_hasActive_30 rfl ?_
      refine r_iast (x := (rWith A 1)) (v := 3) hC X hR 3 rfl rfl (by omega) (by change _ < ((16 : Nat) : Int); omega) dX6_hasActive_31 (fun H locs X hR => ?_)
      have hf := hf.a 3 ((rWith A 1) : Int).toNat (iv 3)
      have hI := hI.u3 ((rWith A 1) : Int).toNat (v := 3) ⟨by omega, by omega⟩
      refine lv_iconst (v := iv (-1)) hx hb dX6_hasActive_32 rfl ?_
      refine m_istore_n hx hb hL dX6_hasActive_33 (Nat.le_of_ble_eq_true rfl) (fun ls hL => ?_)
      refine m_iload_n hx hb hL dX6_hasActive_34 rfl ?_
      refine lv_iconst (v := iv (-1)) hx hb dX6_hasActive_35 rfl ?_
      refine m_icmp_ne (tgt := 57) hx hb dX6_hasActive_36 (by decide) (by omega) (by omega) (fun c36 => absurd c36 (by omega)) (fun c36 => ?_)
      refine m_aload_n hx hb hL dX6_hasActive_39 rfl ?_
      refine lv_iconst (v := iv 0) hx hb dX6_hasActive_40 rfl ?_
      refine r_call hC X hR hf (k_X6_withState (x := 0) hR hI (by decide)) VX6_77 rfl ⟨by decide, by decide⟩ ⟨by decide, by decide⟩ hL.1 rfl (Nat.le_of_ble_eq_true rfl) dX6_hasActive_41 (fun μ H locs X hR hf => ?_)
      have hq41 := rWith_b hI (0)
      refine m_istore_n hx hb hL dX6_hasActive_44 (Nat.le_of_ble_eq_true rfl) (fun ls hL => ?_)
      refine m_iload_n hx hb hL dX6_hasActive_45 rfl ?_
      refine lv_iconst (v := iv (-1)) hx hb dX6_hasActive_46 rfl ?_
      refine m_icmp_eq (tgt := 57) hx hb dX6_hasActive_47 (by decide) (by omega) (by omega) (fun c47 => ?_) (fun c47 => ?_)
      · refine m_iload_n hx hb hL dX6_hasActive_57 rfl ?_
        refine lv_iconst (v := iv (-1)) hx hb dX6_hasActive_58 rfl ?_
        refine m_icmp_eq (tgt := 66) hx hb dX6_hasActive_59 (by decide) (by omega) (by omega) (fun c59 => ?_) (fun c59 => ?_)
        · refine lv_iconst (v := iv 0) hx hb dX6_hasActive_66 rfl ?_
          exact r_zret hC X hR hf hr hlk (by first | (exfalso; omega) | (unfold rHas; (first | rw [if_pos (by omega)] | rw [if_neg (by omega)]); (try ((first | rw [show rHas1 A x = A by unfold rHas1; rw [if_neg (by omega)]] | rw [show rHas1 A x = up A 3 (rWith A 1).toNat 3 by unfold rHas1; rw [if_pos (by omega)]]); unfold rHas2; (first | rw [if_pos (by omega)] | rw [if_neg (by omega)]))))) (by first | (exfalso; omega) | (unfold rHasV; (first | rw [if_pos (by omega)] | rw [if_neg (by omega)]); (try ((first | rw [show rHas1 A x = A by unfold rHas1; rw [if_neg (by omega)]] | rw [show rHas1 A x = up A 3 (rWith A 1).toNat 3 by unfold rHas1; rw [if_pos (by omega)]]); (first | rw [if_pos (by omega)] | rw [if_neg (by omega)]))))) (by omega) dX6_hasActive_67
        · refine lv_iconst (v := iv 1) hx hb dX6_hasActive_62 rfl ?_
          refine lv_goto (tgt := 67) hx hb dX6_hasActive_63 (by decide) ?_
          exact r_zret hC X hR hf hr hlk (by first | (exfalso; omega) | (unfold rHas; (first | rw [if_pos (by omega)] | rw [if_neg (by omega)]); (try ((first | rw [show rHas1 A x = A by unfold rHas1; rw [if_neg (by omega)]] | rw [show rHas1 A x = up A 3 (rWith A 1).toNat 3 by unfold rHas1; rw [if_pos (by omega)]]); unfold rHas2; (first | rw [if_pos (by omega)] | rw [if_neg (by omega)]))))) (by first | (exfalso; omega) | (unfold rHasV; (first | rw [if_pos (by omega)] | rw [if_neg (by omega)]); (try ((first | rw [show rHas1 A x = A by unfold rHas1; rw [if_neg (by omega)]] | rw [show rHas1 A x = up A 3 (rWith A 1).toNat 3 by unfold rHas1; rw [if_pos (by omega)]]); (first | rw [if_pos (by omega)] | rw [if_neg (by omega)]))))) (by omega) dX6_hasActive_67
      · refine m_aload_n hx hb hL dX6_hasActive_50 rfl ?_
        refine r_geta hC X hR FX6_7 rfl rfl dX6_hasActive_51 ?_
        refine m_iload_n hx hb hL dX6_hasActive_54 rfl ?_
        refine lv_iconst (v := iv 1) hx hb dX6_hasActive_55 rfl ?_
        refine r_iast (x := (rWith (up A 3 ((rWith A 1) : Int).toNat 3) 0)) (v := 1) hC X hR 3 rfl rfl (by omega) (by change _ < ((16 : Nat) : Int); omega) dX6_hasActive_56 (fun H locs X hR => ?_)
        have hf := hf.a 3 ((rWith (up A 3 ((rWith A 1) : Int).toNat 3) 0) : Int).toNat (iv 1)
        have hI := hI.u3 ((rWith (up A 3 ((rWith A 1) : Int).toNat 3) 0) : Int).toNat (v := 1) ⟨by omega, by omega⟩
        refine m_iload_n hx hb hL dX6_hasActive_57 rfl ?_
        refine lv_iconst (v := iv (-1)) hx hb dX6_hasActive_58 rfl ?_
        refine m_icmp_eq (tgt := 66) hx hb dX6_hasActive_59 (by decide) (by omega) (by omega) (fun c59 => ?_) (fun c59 => ?_)
        · refine lv_iconst (v := iv 0) hx hb dX6_hasActive_66 rfl ?_
          exact r_zret hC X hR hf hr hlk (by first | (exfalso; omega) | (unfold rHas; (first | rw [if_pos (by omega)] | rw [if_neg (by omega)]); (try ((first | rw [show rHas1 A x = A by unfold rHas1; rw [if_neg (by omega)]] | rw [show rHas1 A x = up A 3 (rWith A 1).toNat 3 by unfold rHas1; rw [if_pos (by omega)]]); unfold rHas2; (first | rw [if_pos (by omega)] | rw [if_neg (by omega)]))))) (by first | (exfalso; omega) | (unfold rHasV; (first | rw [if_pos (by omega)] | rw [if_neg (by omega)]); (try ((first | rw [show rHas1 A x = A by unfold rHas1; rw [if_neg (by omega)]] | rw [show rHas1 A x = up A 3 (rWith A 1).toNat 3 by unfold rHas1; rw [if_pos (by omega)]]); (first | rw [if_pos (by omega)] | rw [if_neg (by omega)]))))) (by omega) dX6_hasActive_67
        · refine lv_iconst (v := iv 1) hx hb dX6_hasActive_62 rfl ?_
          refine lv_goto (tgt := 67) hx hb dX6_hasActive_63 (by decide) ?_
          exact r_zret hC X hR hf hr hlk (by first | (exfalso; omega) | (unfold rHas; (first | rw [if_pos (by omega)] | rw [if_neg (by omega)]); (try ((first | rw [show rHas1 A x = A by unfold rHas1; rw [if_neg (by omega)]] | rw [show rHas1 A x = up A 3 (rWith A 1).toNat 3 by unfold rHas1; rw [if_pos (by omega)]]); unfold rHas2; (first | rw [if_pos (by omega)] | rw [if_neg (by omega)]))))) (by first | (exfalso; omega) | (unfold rHasV; (first | rw [if_pos (by omega)] | rw [if_neg (by omega)]); (try ((first | rw [show rHas1 A x = A by unfold rHas1; rw [if_neg (by omega)]] | rw [show rHas1 A x = up A 3 (rWith A 1).toNat 3 by unfold rHas1; rw [if_pos (by omega)]]); (first | rw [if_pos (by omega)] | rw [if_neg (by omega)]))))) (by omega) dX6_hasActive_67
end
section
/-! the reference's public methods, as functions -/
abbrev rReg (x : Int) : Prop := 0 ≤ x ∧ x < 10
theorem up_up (A : rS) (k i : Nat) (v w : Int) : up (up A k i v) k i w = up A k i w := by
  funext k' i'
  unfold up
  split <;> rfl
def rMove (A : rS) (a b : Int) : rS := if rReg a ∧ rReg b then up (up A 0 0 0) 14 a.toNat (A 14 b.toNat) else up A 0 0 1
def rDrop (A : rS) (a : Int) : rS := if rReg a then up (up A 0 0 0) 14 a.toNat (-1) else up A 0 0 1
def rDropV (A : rS) (a : Int) : Int := if rReg a then bZ (A 14 a.toNat ≠ -1) else 0
def rTagOf (A : rS) (x : Int) : Int := if x = -1 then 0 else A 10 x.toNat
/-- what hasField leaves in 'thrown' -/
def rHF (A : rS) (a b r i : Int) : Int := if rReg a ∧ rReg b then (if A 14 r.toNat = -1 then 2 else if 0 ≤ i ∧ i < A 9 (A 14 r.toNat).toNat - 2 then 0 else 1) else 1
def rRead (A : rS) (t f i : Int) : rS := if rHF A t f f i = 0 then up (up A 0 0 0) 14 t.toNat (A 11 (21 * A 14 f.toNat + i).toNat) else up A 0 0 (rHF A t f f i)
def rReadV (A : rS) (t f i : Int) : Int := if rHF A t f f i = 0 then rTagOf A (A 11 (21 * A 14 f.toNat + i).toNat) else 0
/-- before a field is written -/
def rPrep (A : rS) (o before : Int) : rS := if A 18 0 = 1 then rSee A before else if A 18 0 = 2 ∧ rToMove A o = 1 then rCarry A o else A
def rWrite (A : rS) (r i f : Int) : rS := if rHF A r f r i = 0 then up (rPrep (up A 0 0 0) (A 14 r.toNat) (A 11 (21 * A 14 r.toNat + i).toNat)) 11 (21 * A 14 r.toNat + i).toNat (A 14 f.toNat) else up A 0 0 (rHF A r f r i)
def rWriteV (A : rS) (r i f : Int) : Int := if rHF A r f r i = 0 then rTagOf A (A 11 (21 * A 14 r.toNat + i).toNat) else 0
def rTagT (A : rS) (r : Int) : Int := if rReg r then (if A 14 r.toNat = -1 then 2 else 0) else 1
def rTagV (A : rS) (r : Int) : Int := if rTagT A r = 0 then A 10 (A 14 r.toNat).toNat else 0
def rSameV (A : rS) (a b : Int) : Int := if rReg a ∧ rReg b then bZ (A 14 a.toNat = A 14 b.toNat) else 0
def rWhereV (A : rS) (r : Int) : Int := if rReg r then rPlace A (A 14 r.toNat) else 0
def rRegionV (A : rS) (i w : Int) : Int := if 0 ≤ i ∧ i < A 1 0 then (if w = 0 then A 3 i.toNat else if w = 1 then A 4 i.toNat else if w = 2 then rSeenIn A i else -1) else 0
def rCountV (A : rS) (w : Int) : Int := if w = 0 then A 20 0 else if w = 1 then A 21 0 else if w = 2 then (if A 18 0 = 1 then A 17 0 - A 16 0 else 0) else -1
theorem rHF_b (A : rS) (a b r i : Int) : 0 ≤ rHF A a b r i ∧ rHF A a b r i ≤ 2 := by unfold rHF; repeat' split <;> omega
theorem rHF_0 {A : rS} {a b r i : Int} (h : rHF A a b r i = 0) : rReg a ∧ rReg b ∧ A 14 r.toNat ≠ -1 ∧ 0 ≤ i ∧ i < A 9 (A 14 r.toNat).toNat - 2 := by
  unfold rHF at h
  split at h
  · split at h
    · omega
    · split at h
      · rename_i h1 h2 h3
        exact ⟨h1.1, h1.2, h2, h3⟩
      · omega
  · omega
theorem rTagOf_u {A : rS} {k i : Nat} {v x : Int} (h : k ≠ 10) : rTagOf (up A k i v) x = rTagOf A x := by unfold rTagOf; rw [up_k _ _ (Ne.symm h)]
theorem rPlace_u {A : rS} {k i : Nat} {v x : Int} (h : k ≠ 7) (h' : k ≠ 8) : rPlace (up A k i v) x = rPlace A x := by unfold rPlace; rw [up_k _ _ (Ne.symm h), up_k _ _ (Ne.symm h')]
theorem rSi_u {A : rS} {i : Nat} {v r : Int} : ∀ (f : Nat) (x n : Int), rSi (up A 0 i v) r f x n = rSi A r f x n := by
  intro f
  induction f with
  | zero => intro x n; rfl
  | succ f ih =>
    intro x n
    rw [rSi, rSi, ih]
    simp [up_k]
theorem rSeenIn_u {A : rS} {i : Nat} {v r : Int} : rSeenIn (up A 0 i v) r = rSeenIn A r := rSi_u 700 0 0
/-- components that a function leaves alone -/
theorem rSee_k {A : rS} {x : Int} {k i : Nat} (h1 : k ≠ 12) (h2 : k ≠ 15) (h3 : k ≠ 17) : rSee A x k i = A k i := by
  unfold rSee
  split
  · rfl
  · split
    · rw [up_k _ _ h3, up_k _ _ h2, up_k _ _ h1]
    · rfl
theorem rInto_k {A : rS} {o t : Int} {k i : Nat} (h1 : k ≠ 7) (h2 : k ≠ 8) (h3 : k ≠ 4) (h4 : k ≠ 20) : rInto A o t k i = A k i := by
  unfold rInto
  rw [up_k _ _ h4, up_k _ _ h3, up_k _ _ h2, up_k _ _ h1]
theorem rCarry_k {A : rS} {o : Int} {k i : Nat} (h1 : k ≠ 7) (h2 : k ≠ 8) (h3 : k ≠ 4) (h4 : k ≠ 20) (h5 : k ≠ 13) (h6 : k ≠ 5) (h7 : k ≠ 21) (h8 : k ≠ 3) : rCarry A o k i = A k i := by
  unfold rCarry
  split
  · split
    · rw [up_k _ _ h7, up_k _ _ h6, up_k _ _ h5]
    · rw [rInto_k h1 h2 h3 h4, up_k _ _ h3, up_k _ _ h8]
      split
      · rfl
      · rw [up_k _ _ h8]
  · rw [rInto_k h1 h2 h3 h4]
theorem rInto_I {A : rS} {o t : Int} (hI : RI A) (ht : 0 ≤ t ∧ t < 16) (hu : A 4 t.toNat + A 9 o.toNat ≤ 128) : RI (rInto A o t) := by
  have h4 := hI.b4 t.toNat
  have h9 := hI.b9 o.toNat
  unfold rInto
  exact (((hI.u7 _ (by omega)).u8 _ (by omega)).u4 _ (by omega)).u20 _
theorem rCarry_I {A : rS} {o : Int} (hI : RI A) : RI (rCarry A o) := by
  have h2 := rWith_b hI 2
  have h0 := rWith_b hI 0
  have h9 := hI.b9 o.toNat
  unfold rCarry
  split
  · split
    · exact ((hI.u13 _ (by omega)).u5 _ (by omega)).u21 _
    · refine rInto_I (((?_ : RI _).u3 _ (by omega)).u4 _ (by omega)) (by omega) ?_
      · split
        · exact hI
        · exact hI.u3 _ (by omega)
      · rw [up_s, up_k _ _ (by decide), up_k _ _ (by decide)]
        split
        · omega
        · rw [up_k _ _ (by decide)]; omega
  · exact rInto_I hI (by omega) (by omega)
theorem rTagOf_see {A : rS} {x y : Int} : rTagOf (rSee A y) x = rTagOf A x := by unfold rTagOf; rw [rSee_k (by decide) (by decide) (by decide)]
theorem rTagOf_carry {A : rS} {x y : Int} : rTagOf (rCarry A y) x = rTagOf A x := by unfold rTagOf; rw [rCarry_k (by decide) (by decide) (by decide) (by decide) (by decide) (by decide) (by decide) (by decide)]
end
section
/-! the reference's public methods (printed by wip/tools/ref4.py) -/
set_option maxHeartbeats 4000000 in
theorem k_X6_move {G : mG} {l : Launch} {z : Nat} {ρ : Nat → Nat} {μ0 : mM} {A : rS} {x : Int} {y : Int} (hR : RR A μ0) (hI : RI A) (hx1 : rng x) (hy1 : rng y) : MR G l yX6_move cX6_move 3 none 1 22 z ρ [.ref (ρ 6), .int (iv x), .int (iv y)] μ0 none (rMove A x y) := by
  refine MR.of hR (by decide) (by simp [Value.category]) (Nat.le_of_ble_eq_true rfl) (Nat.le_of_ble_eq_true rfl) ?_
  intro p e s m args below meth c ls H locs μ hC hx hb hr hlk X hR hf hL
  refine m_aload_n hx hb hL dX6_move_0 rfl ?_
  refine m_iload_n hx hb hL dX6_move_1 rfl ?_
  refine r_callS hC X hR hf (k_X6_isRegister (x := x) hR hI (by omega)) VX6_117 rfl ⟨by decide, by decide⟩ ⟨by decide, by decide⟩ hL.1 rfl (Nat.le_of_ble_eq_true rfl) dX6_move_2 (fun μ H locs X hR hf => ?_)
  by_cases g2 : rReg x
  · rw [show rIsReg x = 1 from bZ_t g2]
    refine m_if_eq (tgt := 19) hx hb dX6_move_5 (by decide) (by omega) (fun c5 => absurd c5 (by omega)) (fun c5 => ?_)
    refine m_iload_n hx hb hL dX6_move_8 rfl ?_
    refine r_callS hC X hR hf (k_X6_isRegister (x := y) hR hI (by omega)) VX6_117 rfl ⟨by decide, by decide⟩ ⟨by decide, by decide⟩ hL.1 rfl (Nat.le_of_ble_eq_true rfl) dX6_move_9 (fun μ H locs X hR hf => ?_)
    by_cases g9 : rReg y
    · rw [show rIsReg y = 1 from bZ_t g9]
      refine m_if_eq (tgt := 19) hx hb dX6_move_12 (by decide) (by omega) (fun c12 => absurd c12 (by omega)) (fun c12 => ?_)
      refine lv_iconst (v := iv 1) hx hb dX6_move_15 rfl ?_
      refine lv_goto (tgt := 20) hx hb dX6_move_16 (by decide) ?_
      refine lv_iconst (v := iv 1) hx hb dX6_move_20 rfl ?_
      refine r_call hC X hR hf (k_X6_good (x := 1) (y := 1) hR hI (by omega) (by omega)) VX6_120 rfl ⟨by decide, by decide⟩ ⟨by decide, by decide⟩ hL.1 rfl (Nat.le_of_ble_eq_true rfl) dX6_move_21 (fun μ H locs X hR hf => ?_)
      have hR : RR (up A 0 0 0) μ := hR
      have hI : RI (up A 0 0 0) := hI.u0 0 (v := 0) ⟨by omega, by omega⟩
      rw [show bZ (rThr 1 1 = 0) = 1 by decide]
      refine m_if_eq (tgt := 39) hx hb dX6_move_24 (by decide) (by omega) (fun c24 => absurd c24 (by omega)) (fun c24 => ?_)
      refine m_aload_n hx hb hL dX6_move_27 rfl ?_
      refine r_geta hC X hR FX6_41 rfl rfl dX6_move_28 ?_
      refine m_iload_n hx hb hL dX6_move_31 rfl ?_
      refine m_aload_n hx hb hL dX6_move_32 rfl ?_
      refine r_geta hC X hR FX6_41 rfl rfl dX6_move_33 ?_
      refine m_iload_n hx hb hL dX6_move_36 rfl ?_
      refine r_iald (x := y) (w := (A 14 (y : Int).toNat)) hC X hR 14 rfl rfl (by omega) (by change _ < ((10 : Nat) : Int); omega) rfl dX6_move_37 ?_
      have q1 : (-1 : Int) ≤ (A 14 (y : Int).toNat) ∧ (A 14 (y : Int).toNat) ≤ 619 := hI.b14 (y : Int).toNat
      refine r_iast (x := x) (v := (A 14 (y : Int).toNat)) hC X hR 14 rfl rfl (by omega) (by change _ < ((10 : Nat) : Int); omega) dX6_move_38 (fun H locs X hR => ?_)
      have hf := hf.a 14 (x : Int).toNat (iv (A 14 (y : Int).toNat))
      have hI := hI.u14 (x : Int).toNat (v := (A 14 (y : Int).toNat)) ⟨by omega, by omega⟩
      exact r_vret hC X hR hf hr hlk (by simp [rMove, up_up, up_s, up_k, g2, g9]) dX6_move_39
    · rw [show rIsReg y = 0 from bZ_f g9]
      refine m_if_eq (tgt := 19) hx hb dX6_move_12 (by decide) (by omega) (fun c12 => ?_) (fun c12 => absurd c12 (by omega))
      refine lv_iconst (v := iv 0) hx hb dX6_move_19 rfl ?_
      refine lv_iconst (v := iv 1) hx hb dX6_move_20 rfl ?_
      refine r_call hC X hR hf (k_X6_good (x := 0) (y := 1) hR hI (by omega) (by omega)) VX6_120 rfl ⟨by decide, by decide⟩ ⟨by decide, by decide⟩ hL.1 rfl (Nat.le_of_ble_eq_true rfl) dX6_move_21 (fun μ H locs X hR hf => ?_)
      have hR : RR (up A 0 0 1) μ := hR
      have hI : RI (up A 0 0 1) := hI.u0 0 (v := 1) ⟨by omega, by omega⟩
      rw [show bZ (rThr 0 1 = 0) = 0 by decide]
      refine m_if_eq (tgt := 39) hx hb dX6_move_24 (by decide) (by omega) (fun c24 => ?_) (fun c24 => absurd c24 (by omega))
      exact r_vret hC X hR hf hr hlk (by simp [rMove, up_up, up_s, up_k, g2, g9]) dX6_move_39
  · rw [show rIsReg x = 0 from bZ_f g2]
    refine m_if_eq (tgt := 19) hx hb dX6_move_5 (by decide) (by omega) (fun c5 => ?_) (fun c5 => absurd c5 (by omega))
    refine lv_iconst (v := iv 0) hx hb dX6_move_19 rfl ?_
    refine lv_iconst (v := iv 1) hx hb dX6_move_20 rfl ?_
    refine r_call hC X hR hf (k_X6_good (x := 0) (y := 1) hR hI (by omega) (by omega)) VX6_120 rfl ⟨by decide, by decide⟩ ⟨by decide, by decide⟩ hL.1 rfl (Nat.le_of_ble_eq_true rfl) dX6_move_21 (fun μ H locs X hR hf => ?_)
    have hR : RR (up A 0 0 1) μ := hR
    have hI : RI (up A 0 0 1) := hI.u0 0 (v := 1) ⟨by omega, by omega⟩
    rw [show bZ (rThr 0 1 = 0) = 0 by decide]
    refine m_if_eq (tgt := 39) hx hb dX6_move_24 (by decide) (by omega) (fun c24 => ?_) (fun c24 => absurd c24 (by omega))
    exact r_vret hC X hR hf hr hlk (by simp [rMove, up_up, up_s, up_k, g2]) dX6_move_39

set_option maxHeartbeats 4000000 in
theorem k_X6_drop {G : mG} {l : Launch} {z : Nat} {ρ : Nat → Nat} {μ0 : mM} {A : rS} {x : Int} (hR : RR A μ0) (hI : RI A) (hx1 : rng x) : MR G l yX6_drop cX6_drop 3 (some .boolean) 1 22 z ρ [.ref (ρ 6), .int (iv x)] μ0 (some (.int (iv (rDropV A x)))) (rDrop A x) := by
  refine MR.of hR (by decide) (by simp [Value.category]) (Nat.le_of_ble_eq_true rfl) (Nat.le_of_ble_eq_true rfl) ?_
  intro p e s m args below meth c ls H locs μ hC hx hb hr hlk X hR hf hL
  refine m_aload_n hx hb hL dX6_drop_0 rfl ?_
  refine m_iload_n hx hb hL dX6_drop_1 rfl ?_
  refine r_callS hC X hR hf (k_X6_isRegister (x := x) hR hI (by omega)) VX6_117 rfl ⟨by decide, by decide⟩ ⟨by decide, by decide⟩ hL.1 rfl (Nat.le_of_ble_eq_true rfl) dX6_drop_2 (fun μ H locs X hR hf => ?_)
  by_cases g2 : rReg x
  · rw [show rIsReg x = 1 from bZ_t g2]
    refine lv_iconst (v := iv 1) hx hb dX6_drop_5 rfl ?_
    refine r_call hC X hR hf (k_X6_good (x := 1) (y := 1) hR hI (by omega) (by omega)) VX6_120 rfl ⟨by decide, by decide⟩ ⟨by decide, by decide⟩ hL.1 rfl (Nat.le_of_ble_eq_true rfl) dX6_drop_6 (fun μ H locs X hR hf => ?_)
    have hR : RR (up A 0 0 0) μ := hR
    have hI : RI (up A 0 0 0) := hI.u0 0 (v := 0) ⟨by omega, by omega⟩
    rw [show bZ (rThr 1 1 = 0) = 1 by decide]
    refine m_if_ne (tgt := 14) hx hb dX6_drop_9 (by decide) (by omega) (fun c9 => ?_) (fun c9 => absurd c9 (by omega))
    refine m_aload_n hx hb hL dX6_drop_14 rfl ?_
    refine r_geta hC X hR FX6_41 rfl rfl dX6_drop_15 ?_
    refine m_iload_n hx hb hL dX6_drop_18 rfl ?_
    refine r_iald (x := x) (w := (A 14 (x : Int).toNat)) hC X hR 14 rfl rfl (by omega) (by change _ < ((10 : Nat) : Int); omega) rfl dX6_drop_19 ?_
    have q1 : (-1 : Int) ≤ (A 14 (x : Int).toNat) ∧ (A 14 (x : Int).toNat) ≤ 619 := hI.b14 (x : Int).toNat
    refine lv_iconst (v := iv (-1)) hx hb dX6_drop_20 rfl ?_
    refine m_icmp_eq (tgt := 28) hx hb dX6_drop_21 (by decide) (by omega) (by omega) (fun c21 => ?_) (fun c21 => ?_)
    · refine lv_iconst (v := iv 0) hx hb dX6_drop_28 rfl ?_
      refine m_istore_n hx hb hL dX6_drop_29 (Nat.le_of_ble_eq_true rfl) (fun ls hL => ?_)
      refine m_aload_n hx hb hL dX6_drop_30 rfl ?_
      refine r_geta hC X hR FX6_41 rfl rfl dX6_drop_31 ?_
      refine m_iload_n hx hb hL dX6_drop_34 rfl ?_
      refine lv_iconst (v := iv (-1)) hx hb dX6_drop_35 rfl ?_
      refine r_iast (x := x) (v := (-1)) hC X hR 14 rfl rfl (by omega) (by change _ < ((10 : Nat) : Int); omega) dX6_drop_36 (fun H locs X hR => ?_)
      have hf := hf.a 14 (x : Int).toNat (iv (-1))
      have hI := hI.u14 (x : Int).toNat (v := (-1)) ⟨by omega, by omega⟩
      refine m_iload_n hx hb hL dX6_drop_37 rfl ?_
      exact r_zret hC X hR hf hr hlk (by simp [rDrop, up_up, up_s, up_k, g2, c21]) (by simp [rDropV, bZ, up_up, up_s, up_k, g2, c21]) (by omega) dX6_drop_38
    · refine lv_iconst (v := iv 1) hx hb dX6_drop_24 rfl ?_
      refine lv_goto (tgt := 29) hx hb dX6_drop_25 (by decide) ?_
      refine m_istore_n hx hb hL dX6_drop_29 (Nat.le_of_ble_eq_true rfl) (fun ls hL => ?_)
      refine m_aload_n hx hb hL dX6_drop_30 rfl ?_
      refine r_geta hC X hR FX6_41 rfl rfl dX6_drop_31 ?_
      refine m_iload_n hx hb hL dX6_drop_34 rfl ?_
      refine lv_iconst (v := iv (-1)) hx hb dX6_drop_35 rfl ?_
      refine r_iast (x := x) (v := (-1)) hC X hR 14 rfl rfl (by omega) (by change _ < ((10 : Nat) : Int); omega) dX6_drop_36 (fun H locs X hR => ?_)
      have hf := hf.a 14 (x : Int).toNat (iv (-1))
      have hI := hI.u14 (x : Int).toNat (v := (-1)) ⟨by omega, by omega⟩
      refine m_iload_n hx hb hL dX6_drop_37 rfl ?_
      exact r_zret hC X hR hf hr hlk (by simp [rDrop, up_up, up_s, up_k, g2, c21]) (by simp [rDropV, bZ, up_up, up_s, up_k, g2, c21]) (by omega) dX6_drop_38
  · rw [show rIsReg x = 0 from bZ_f g2]
    refine lv_iconst (v := iv 1) hx hb dX6_drop_5 rfl ?_
    refine r_call hC X hR hf (k_X6_good (x := 0) (y := 1) hR hI (by omega) (by omega)) VX6_120 rfl ⟨by decide, by decide⟩ ⟨by decide, by decide⟩ hL.1 rfl (Nat.le_of_ble_eq_true rfl) dX6_drop_6 (fun μ H locs X hR hf => ?_)
    have hR : RR (up A 0 0 1) μ := hR
    have hI : RI (up A 0 0 1) := hI.u0 0 (v := 1) ⟨by omega, by omega⟩
    rw [show bZ (rThr 0 1 = 0) = 0 by decide]
    refine m_if_ne (tgt := 14) hx hb dX6_drop_9 (by decide) (by omega) (fun c9 => absurd c9 (by omega)) (fun c9 => ?_)
    refine lv_iconst (v := iv 0) hx hb dX6_drop_12 rfl ?_
    exact r_zret hC X hR hf hr hlk (by simp [rDrop, up_up, up_s, up_k, g2]) (by simp [rDropV, bZ, up_up, up_s, up_k, g2]) (by omega) dX6_drop_13

set_option maxHeartbeats 4000000 in
theorem k_X6_tagOf {G : mG} {l : Launch} {z : Nat} {ρ : Nat → Nat} {μ0 : mM} {A : rS} {x : Int} (hR : RR A μ0) (hI : RI A) (hx1 : -1 ≤ x ∧ x < 620) : MR G l yX6_tagOf cX6_tagOf 2 (some .int) 0 0 z ρ [.ref (ρ 6), .int (iv x)] μ0 (some (.int (iv (rTagOf A x)))) A := by
  refine MR.of hR (by decide) (by simp [Value.category]) (Nat.le_of_ble_eq_true rfl) (Nat.le_of_ble_eq_true rfl) ?_
  intro p e s m args below meth c ls H locs μ hC hx hb hr hlk X hR hf hL
  refine m_iload_n hx hb hL dX6_tagOf_0 rfl ?_
  refine lv_iconst (v := iv (-1)) hx hb dX6_tagOf_1 rfl ?_
  refine m_icmp_ne (tgt := 9) hx hb dX6_tagOf_2 (by decide) (by omega) (by omega) (fun c2 => ?_) (fun c2 => ?_)
  · refine m_aload_n hx hb hL dX6_tagOf_9 rfl ?_
    refine r_geta hC X hR FX6_29 rfl rfl dX6_tagOf_10 ?_
    refine m_iload_n hx hb hL dX6_tagOf_13 rfl ?_
    refine r_iald (x := x) (w := (A 10 (x : Int).toNat)) hC X hR 10 rfl rfl (by omega) (by change _ < ((620 : Nat) : Int); omega) rfl dX6_tagOf_14 ?_
    have q1 : (-2147483648 : Int) ≤ (A 10 (x : Int).toNat) ∧ (A 10 (x : Int).toNat) ≤ 2147483647 := hI.b10 (x : Int).toNat
    exact r_iret hC X hR hf hr hlk rfl (by simp [rTagOf, up_up, up_s, up_k, c2]) dX6_tagOf_15
  · refine lv_iconst (v := iv 0) hx hb dX6_tagOf_5 rfl ?_
    refine lv_goto (tgt := 15) hx hb dX6_tagOf_6 (by decide) ?_
    exact r_iret hC X hR hf hr hlk rfl (by simp [rTagOf, up_up, up_s, up_k, c2]) dX6_tagOf_15

set_option maxHeartbeats 4000000 in
theorem k_X6_hasField {G : mG} {l : Launch} {z : Nat} {ρ : Nat → Nat} {μ0 : mM} {A : rS} {a : Int} {b : Int} {r : Int} {i : Int} (hR : RR A μ0) (hI : RI A) (ha1 : rng a) (hb1 : rng b) (hr1 : r = a ∨ r = b) (hi1 : rng i) : MR G l yX6_hasField cX6_hasField 5 (some .boolean) 1 22 z ρ [.ref (ρ 6), .int (iv a), .int (iv b), .int (iv r), .int (iv i)] μ0 (some (.int (iv (bZ (rHF A a b r i = 0))))) (up A 0 0 (rHF A a b r i)) := by
  refine MR.of hR (by decide) (by simp [Value.category]) (Nat.le_of_ble_eq_true rfl) (Nat.le_of_ble_eq_true rfl) ?_
  intro p e s m args below meth c ls H locs μ hC hx hb hr hlk X hR hf hL
  refine m_aload_n hx hb hL dX6_hasField_0 rfl ?_
  refine m_iload_n hx hb hL dX6_hasField_1 rfl ?_
  refine r_callS hC X hR hf (k_X6_isRegister (x := a) hR hI (by omega)) VX6_117 rfl ⟨by decide, by decide⟩ ⟨by decide, by decide⟩ hL.1 rfl (Nat.le_of_ble_eq_true rfl) dX6_hasField_2 (fun μ H locs X hR hf => ?_)
  by_cases g2 : rReg a
  · rw [show rIsReg a = 1 from bZ_t g2]
    refine m_if_eq (tgt := 19) hx hb dX6_hasField_5 (by decide) (by omega) (fun c5 => absurd c5 (by omega)) (fun c5 => ?_)
    refine m_iload_n hx hb hL dX6_hasField_8 rfl ?_
    refine r_callS hC X hR hf (k_X6_isRegister (x := b) hR hI (by omega)) VX6_117 rfl ⟨by decide, by decide⟩ ⟨by decide, by decide⟩ hL.1 rfl (Nat.le_of_ble_eq_true rfl) dX6_hasField_9 (fun μ H locs X hR hf => ?_)
    by_cases g9 : rReg b
    · rw [show rIsReg b = 1 from bZ_t g9]
      refine m_if_eq (tgt := 19) hx hb dX6_hasField_12 (by decide) (by omega) (fun c12 => absurd c12 (by omega)) (fun c12 => ?_)
      refine lv_iconst (v := iv 1) hx hb dX6_hasField_15 rfl ?_
      refine lv_goto (tgt := 20) hx hb dX6_hasField_16 (by decide) ?_
      refine lv_iconst (v := iv 1) hx hb dX6_hasField_20 rfl ?_
      refine r_call hC X hR hf (k_X6_good (x := 1) (y := 1) hR hI (by omega) (by omega)) VX6_120 rfl ⟨by decide, by decide⟩ ⟨by decide, by decide⟩ hL.1 rfl (Nat.le_of_ble_eq_true rfl) dX6_hasField_21 (fun μ H locs X hR hf => ?_)
      have hR : RR (up A 0 0 0) μ := hR
      have hI : RI (up A 0 0 0) := hI.u0 0 (v := 0) ⟨by omega, by omega⟩
      rw [show bZ (rThr 1 1 = 0) = 1 by decide]
      refine m_if_eq (tgt := 50) hx hb dX6_hasField_24 (by decide) (by omega) (fun c24 => absurd c24 (by omega)) (fun c24 => ?_)
      refine m_aload_n hx hb hL dX6_hasField_27 rfl ?_
      refine lv_iconst (v := iv 1) hx hb dX6_hasField_28 rfl ?_
      refine m_aload_n hx hb hL dX6_hasField_29 rfl ?_
      refine r_geta hC X hR FX6_41 rfl rfl dX6_hasField_30 ?_
      refine m_iload_n hx hb hL dX6_hasField_33 rfl ?_
      refine r_iald (x := r) (w := (A 14 (r : Int).toNat)) hC X hR 14 rfl rfl (by omega) (by change _ < ((10 : Nat) : Int); omega) rfl dX6_hasField_34 ?_
      have q1 : (-1 : Int) ≤ (A 14 (r : Int).toNat) ∧ (A 14 (r : Int).toNat) ≤ 619 := hI.b14 (r : Int).toNat
      refine lv_iconst (v := iv (-1)) hx hb dX6_hasField_35 rfl ?_
      refine m_icmp_eq (tgt := 43) hx hb dX6_hasField_36 (by decide) (by omega) (by omega) (fun c36 => ?_) (fun c36 => ?_)
      · refine lv_iconst (v := iv 0) hx hb dX6_hasField_43 rfl ?_
        refine r_call hC X hR hf (k_X6_good (x := 1) (y := 0) hR hI (by omega) (by omega)) VX6_120 rfl ⟨by decide, by decide⟩ ⟨by decide, by decide⟩ hL.1 rfl (Nat.le_of_ble_eq_true rfl) dX6_hasField_44 (fun μ H locs X hR hf => ?_)
        have hR : RR (up (up A 0 0 0) 0 0 2) μ := hR
        have hI : RI (up (up A 0 0 0) 0 0 2) := hI.u0 0 (v := 2) ⟨by omega, by omega⟩
        rw [show bZ (rThr 1 0 = 0) = 0 by decide]
        refine m_if_ne (tgt := 52) hx hb dX6_hasField_47 (by decide) (by omega) (fun c47 => absurd c47 (by omega)) (fun c47 => ?_)
        refine lv_iconst (v := iv 0) hx hb dX6_hasField_50 rfl ?_
        exact r_zret hC X hR hf hr hlk (by rw [(show rHF A a b r i = 2 by (unfold rHF; (first | rw [if_pos (by omega)] | rw [if_neg (by omega)]); (try (first | rw [if_pos (by omega)] | rw [if_neg (by omega)])); (try (first | rw [if_pos (by omega)] | rw [if_neg (by omega)]))))]; (try simp [up_up])) (by rw [(show rHF A a b r i = 2 by (unfold rHF; (first | rw [if_pos (by omega)] | rw [if_neg (by omega)]); (try (first | rw [if_pos (by omega)] | rw [if_neg (by omega)])); (try (first | rw [if_pos (by omega)] | rw [if_neg (by omega)]))))]; decide) (by omega) dX6_hasField_51
      · refine lv_iconst (v := iv 1) hx hb dX6_hasField_39 rfl ?_
        refine lv_goto (tgt := 44) hx hb dX6_hasField_40 (by decide) ?_
        refine r_call hC X hR hf (k_X6_good (x := 1) (y := 1) hR hI (by omega) (by omega)) VX6_120 rfl ⟨by decide, by decide⟩ ⟨by decide, by decide⟩ hL.1 rfl (Nat.le_of_ble_eq_true rfl) dX6_hasField_44 (fun μ H locs X hR hf => ?_)
        have hR : RR (up (up A 0 0 0) 0 0 0) μ := hR
        have hI : RI (up (up A 0 0 0) 0 0 0) := hI.u0 0 (v := 0) ⟨by omega, by omega⟩
        rw [show bZ (rThr 1 1 = 0) = 1 by decide]
        refine m_if_ne (tgt := 52) hx hb dX6_hasField_47 (by decide) (by omega) (fun c47 => ?_) (fun c47 => absurd c47 (by omega))
        refine m_aload_n hx hb hL dX6_hasField_52 rfl ?_
        refine m_iload hx hb hL dX6_hasField_53 rfl ?_
        refine m_if_lt (tgt := 80) hx hb dX6_hasField_55 (by decide) (by omega) (fun c55 => ?_) (fun c55 => ?_)
        · refine lv_iconst (v := iv 0) hx hb dX6_hasField_80 rfl ?_
          refine lv_iconst (v := iv 1) hx hb dX6_hasField_81 rfl ?_
          refine r_call hC X hR hf (k_X6_good (x := 0) (y := 1) hR hI (by omega) (by omega)) VX6_120 rfl ⟨by decide, by decide⟩ ⟨by decide, by decide⟩ hL.1 rfl (Nat.le_of_ble_eq_true rfl) dX6_hasField_82 (fun μ H locs X hR hf => ?_)
          have hR : RR (up (up (up A 0 0 0) 0 0 0) 0 0 1) μ := hR
          have hI : RI (up (up (up A 0 0 0) 0 0 0) 0 0 1) := hI.u0 0 (v := 1) ⟨by omega, by omega⟩
          rw [show bZ (rThr 0 1 = 0) = 0 by decide]
          exact r_zret hC X hR hf hr hlk (by rw [(show rHF A a b r i = 1 by (unfold rHF; (first | rw [if_pos (by omega)] | rw [if_neg (by omega)]); (try (first | rw [if_pos (by omega)] | rw [if_neg (by omega)])); (try (first | rw [if_pos (by omega)] | rw [if_neg (by omega)]))))]; (try simp [up_up])) (by rw [(show rHF A a b r i = 1 by (unfold rHF; (first | rw [if_pos (by omega)] | rw [if_neg (by omega)]); (try (first | rw [if_pos (by omega)] | rw [if_neg (by omega)])); (try (first | rw [if_pos (by omega)] | rw [if_neg (by omega)]))))]; decide) (by omega) dX6_hasField_85
        · refine m_iload hx hb hL dX6_hasField_58 rfl ?_
          refine m_aload_n hx hb hL dX6_hasField_60 rfl ?_
          refine r_geta hC X hR FX6_26 rfl rfl dX6_hasField_61 ?_
          refine m_aload_n hx hb hL dX6_hasField_64 rfl ?_
          refine r_geta hC X hR FX6_41 rfl rfl dX6_hasField_65 ?_
          refine m_iload_n hx hb hL dX6_hasField_68 rfl ?_
          refine r_iald (x := r) (w := (A 14 (r : Int).toNat)) hC X hR 14 rfl rfl (by omega) (by change _ < ((10 : Nat) : Int); omega) rfl dX6_hasField_69 ?_
          have q2 : (-1 : Int) ≤ (A 14 (r : Int).toNat) ∧ (A 14 (r : Int).toNat) ≤ 619 := hI.b14 (r : Int).toNat
          refine r_iald (x := (A 14 (r : Int).toNat)) (w := (A 9 ((A 14 (r : Int).toNat) : Int).toNat)) hC X hR 9 rfl rfl (by omega) (by change _ < ((620 : Nat) : Int); omega) rfl dX6_hasField_70 ?_
          have q3 : (0 : Int) ≤ (A 9 ((A 14 (r : Int).toNat) : Int).toNat) ∧ (A 9 ((A 14 (r : Int).toNat) : Int).toNat) ≤ 22 := hI.b9 ((A 14 (r : Int).toNat) : Int).toNat
          refine lv_iconst (v := iv 2) hx hb dX6_hasField_71 rfl ?_
          refine m_isub hx hb dX6_hasField_72 ?_
          refine m_icmp_ge (tgt := 80) hx hb dX6_hasField_73 (by decide) (by omega) (by omega) (fun c73 => ?_) (fun c73 => ?_)
          · refine lv_iconst (v := iv 0) hx hb dX6_hasField_80 rfl ?_
            refine lv_iconst (v := iv 1) hx hb dX6_hasField_81 rfl ?_
            refine r_call hC X hR hf (k_X6_good (x := 0) (y := 1) hR hI (by omega) (by omega)) VX6_120 rfl ⟨by decide, by decide⟩ ⟨by decide, by decide⟩ hL.1 rfl (Nat.le_of_ble_eq_true rfl) dX6_hasField_82 (fun μ H locs X hR hf => ?_)
            have hR : RR (up (up (up A 0 0 0) 0 0 0) 0 0 1) μ := hR
            have hI : RI (up (up (up A 0 0 0) 0 0 0) 0 0 1) := hI.u0 0 (v := 1) ⟨by omega, by omega⟩
            rw [show bZ (rThr 0 1 = 0) = 0 by decide]
            exact r_zret hC X hR hf hr hlk (by rw [(show rHF A a b r i = 1 by (unfold rHF; (first | rw [if_pos (by omega)] | rw [if_neg (by omega)]); (try (first | rw [if_pos (by omega)] | rw [if_neg (by omega)])); (try (first | rw [if_pos (by omega)] | rw [if_neg (by omega)]))))]; (try simp [up_up])) (by rw [(show rHF A a b r i = 1 by (unfold rHF; (first | rw [if_pos (by omega)] | rw [if_neg (by omega)]); (try (first | rw [if_pos (by omega)] | rw [if_neg (by omega)])); (try (first | rw [if_pos (by omega)] | rw [if_neg (by omega)]))))]; decide) (by omega) dX6_hasField_85
          · refine lv_iconst (v := iv 1) hx hb dX6_hasField_76 rfl ?_
            refine lv_goto (tgt := 81) hx hb dX6_hasField_77 (by decide) ?_
            refine lv_iconst (v := iv 1) hx hb dX6_hasField_81 rfl ?_
            refine r_call hC X hR hf (k_X6_good (x := 1) (y := 1) hR hI (by omega) (by omega)) VX6_120 rfl ⟨by decide, by decide⟩ ⟨by decide, by decide⟩ hL.1 rfl (Nat.le_of_ble_eq_true rfl) dX6_hasField_82 (fun μ H locs X hR hf => ?_)
            have hR : RR (up (up (up A 0 0 0) 0 0 0) 0 0 0) μ := hR
            have hI : RI (up (up (up A 0 0 0) 0 0 0) 0 0 0) := hI.u0 0 (v := 0) ⟨by omega, by omega⟩
            rw [show bZ (rThr 1 1 = 0) = 1 by decide]
            exact r_zret hC X hR hf hr hlk (by rw [(show rHF A a b r i = 0 by (unfold rHF; (first | rw [if_pos (by omega)] | rw [if_neg (by omega)]); (try (first | rw [if_pos (by omega)] | rw [if_neg (by omega)])); (try (first | rw [if_pos (by omega)] | rw [if_neg (by omega)]))))]; (try simp [up_up])) (by rw [(show rHF A a b r i = 0 by (unfold rHF; (first | rw [if_pos (by omega)] | rw [if_neg (by omega)]); (try (first | rw [if_pos (by omega)] | rw [if_neg (by omega)])); (try (first | rw [if_pos (by omega)] | rw [if_neg (by omega)]))))]; decide) (by omega) dX6_hasField_85
    · rw [show rIsReg b = 0 from bZ_f g9]
      refine m_if_eq (tgt := 19) hx hb dX6_hasField_12 (by decide) (by omega) (fun c12 => ?_) (fun c12 => absurd c12 (by omega))
      refine lv_iconst (v := iv 0) hx hb dX6_hasField_19 rfl ?_
      refine lv_iconst (v := iv 1) hx hb dX6_hasField_20 rfl ?_
      refine r_call hC X hR hf (k_X6_good (x := 0) (y := 1) hR hI (by omega) (by omega)) VX6_120 rfl ⟨by decide, by decide⟩ ⟨by decide, by decide⟩ hL.1 rfl (Nat.le_of_ble_eq_true rfl) dX6_hasField_21 (fun μ H locs X hR hf => ?_)
      have hR : RR (up A 0 0 1) μ := hR
      have hI : RI (up A 0 0 1) := hI.u0 0 (v := 1) ⟨by omega, by omega⟩
      rw [show bZ (rThr 0 1 = 0) = 0 by decide]
      refine m_if_eq (tgt := 50) hx hb dX6_hasField_24 (by decide) (by omega) (fun c24 => ?_) (fun c24 => absurd c24 (by omega))
      refine lv_iconst (v := iv 0) hx hb dX6_hasField_50 rfl ?_
      exact r_zret hC X hR hf hr hlk (by rw [(show rHF A a b r i = 1 by (unfold rHF; (first | rw [if_pos (by omega)] | rw [if_neg (by omega)]); (try (first | rw [if_pos (by omega)] | rw [if_neg (by omega)])); (try (first | rw [if_pos (by omega)] | rw [if_neg (by omega)]))))]; (try simp [up_up])) (by rw [(show rHF A a b r i = 1 by (unfold rHF; (first | rw [if_pos (by omega)] | rw [if_neg (by omega)]); (try (first | rw [if_pos (by omega)] | rw [if_neg (by omega)])); (try (first | rw [if_pos (by omega)] | rw [if_neg (by omega)]))))]; decide) (by omega) dX6_hasField_51
  · rw [show rIsReg a = 0 from bZ_f g2]
    refine m_if_eq (tgt := 19) hx hb dX6_hasField_5 (by decide) (by omega) (fun c5 => ?_) (fun c5 => absurd c5 (by omega))
    refine lv_iconst (v := iv 0) hx hb dX6_hasField_19 rfl ?_
    refine lv_iconst (v := iv 1) hx hb dX6_hasField_20 rfl ?_
    refine r_call hC X hR hf (k_X6_good (x := 0) (y := 1) hR hI (by omega) (by omega)) VX6_120 rfl ⟨by decide, by decide⟩ ⟨by decide, by decide⟩ hL.1 rfl (Nat.le_of_ble_eq_true rfl) dX6_hasField_21 (fun μ H locs X hR hf => ?_)
    have hR : RR (up A 0 0 1) μ := hR
    have hI : RI (up A 0 0 1) := hI.u0 0 (v := 1) ⟨by omega, by omega⟩
    rw [show bZ (rThr 0 1 = 0) = 0 by decide]
    refine m_if_eq (tgt := 50) hx hb dX6_hasField_24 (by decide) (by omega) (fun c24 => ?_) (fun c24 => absurd c24 (by omega))
    refine lv_iconst (v := iv 0) hx hb dX6_hasField_50 rfl ?_
    exact r_zret hC X hR hf hr hlk (by rw [(show rHF A a b r i = 1 by (unfold rHF; (first | rw [if_pos (by omega)] | rw [if_neg (by omega)]); (try (first | rw [if_pos (by omega)] | rw [if_neg (by omega)])); (try (first | rw [if_pos (by omega)] | rw [if_neg (by omega)]))))]; (try simp [up_up])) (by rw [(show rHF A a b r i = 1 by (unfold rHF; (first | rw [if_pos (by omega)] | rw [if_neg (by omega)]); (try (first | rw [if_pos (by omega)] | rw [if_neg (by omega)])); (try (first | rw [if_pos (by omega)] | rw [if_neg (by omega)]))))]; decide) (by omega) dX6_hasField_51

set_option maxHeartbeats 4000000 in
theorem k_X6_read {G : mG} {l : Launch} {z : Nat} {ρ : Nat → Nat} {μ0 : mM} {A : rS} {x : Int} {y : Int} {i : Int} (hR : RR A μ0) (hI : RI A) (hx1 : rng x) (hy1 : rng y) (hi1 : rng i) : MR G l yX6_read cX6_read 4 (some .int) 2 46 z ρ [.ref (ρ 6), .int (iv x), .int (iv y), .int (iv i)] μ0 (some (.int (iv (rReadV A x y i)))) (rRead A x y i) := by
  refine MR.of hR (by decide) (by simp [Value.category]) (Nat.le_of_ble_eq_true rfl) (Nat.le_of_ble_eq_true rfl) ?_
  intro p e s m args below meth c ls H locs μ hC hx hb hr hlk X hR hf hL
  refine m_aload_n hx hb hL dX6_read_0 rfl ?_
  refine m_iload_n hx hb hL dX6_read_1 rfl ?_
  refine m_iload_n hx hb hL dX6_read_2 rfl ?_
  refine m_iload_n hx hb hL dX6_read_3 rfl ?_
  refine m_iload_n hx hb hL dX6_read_4 rfl ?_
  refine r_call hC X hR hf (k_X6_hasField (a := x) (b := y) (r := y) (i := i) hR hI (by omega) (by omega) (by omega) (by omega)) VX6_130 rfl ⟨by decide, by decide⟩ ⟨by decide, by decide⟩ hL.1 rfl (Nat.le_of_ble_eq_true rfl) dX6_read_5 (fun μ H locs X hR hf => ?_)
  have q5 := rHF_b A x y y i
  have hI := hI.u0 0 (v := (rHF A x y y i)) ⟨by omega, by omega⟩
  by_cases g5 : (rHF A x y y i) = 0
  · rw [bZ_t g5]
    rw [g5] at hR hI
    obtain ⟨k1, k2, k3, k4⟩ := rHF_0 g5
    have k5 : (0 : Int) ≤ A 9 (A 14 (y : Int).toNat).toNat ∧ A 9 (A 14 (y : Int).toNat).toNat ≤ 22 := hI.b9 (A 14 (y : Int).toNat).toNat
    refine m_if_ne (tgt := 13) hx hb dX6_read_8 (by decide) (by omega) (fun c8 => ?_) (fun c8 => absurd c8 (by omega))
    refine m_aload_n hx hb hL dX6_read_13 rfl ?_
    refine r_geta hC X hR FX6_41 rfl rfl dX6_read_14 ?_
    refine m_iload_n hx hb hL dX6_read_17 rfl ?_
    refine m_aload_n hx hb hL dX6_read_18 rfl ?_
    refine r_geta hC X hR FX6_32 rfl rfl dX6_read_19 ?_
    refine lv_bipush (v := iv 21) hx hb dX6_read_22 (by decide +kernel) ?_
    refine m_aload_n hx hb hL dX6_read_24 rfl ?_
    refine r_geta hC X hR FX6_41 rfl rfl dX6_read_25 ?_
    refine m_iload_n hx hb hL dX6_read_28 rfl ?_
    refine r_iald (x := y) (w := (A 14 (y : Int).toNat)) hC X hR 14 rfl rfl (by omega) (by change _ < ((10 : Nat) : Int); omega) rfl dX6_read_29 ?_
    have q1 : (-1 : Int) ≤ (A 14 (y : Int).toNat) ∧ (A 14 (y : Int).toNat) ≤ 619 := hI.b14 (y : Int).toNat
    refine m_imul hx hb dX6_read_30 ?_
    refine m_iload_n hx hb hL dX6_read_31 rfl ?_
    refine m_iadd hx hb dX6_read_32 ?_
    refine r_iald (x := ((21 * (A 14 (y : Int).toNat)) + i)) (w := (A 11 (((21 * (A 14 (y : Int).toNat)) + i) : Int).toNat)) hC X hR 11 rfl rfl (by omega) (by change _ < ((13020 : Nat) : Int); omega) rfl dX6_read_33 ?_
    have q2 : (-1 : Int) ≤ (A 11 (((21 * (A 14 (y : Int).toNat)) + i) : Int).toNat) ∧ (A 11 (((21 * (A 14 (y : Int).toNat)) + i) : Int).toNat) ≤ 619 := hI.b11 (((21 * (A 14 (y : Int).toNat)) + i) : Int).toNat
    refine r_iast (x := x) (v := (A 11 (((21 * (A 14 (y : Int).toNat)) + i) : Int).toNat)) hC X hR 14 rfl rfl (by omega) (by change _ < ((10 : Nat) : Int); omega) dX6_read_34 (fun H locs X hR => ?_)
    have hf := hf.a 14 (x : Int).toNat (iv (A 11 (((21 * (A 14 (y : Int).toNat)) + i) : Int).toNat))
    have hI := hI.u14 (x : Int).toNat (v := (A 11 (((21 * (A 14 (y : Int).toNat)) + i) : Int).toNat)) ⟨by omega, by omega⟩
    refine m_aload_n hx hb hL dX6_read_35 rfl ?_
    refine m_aload_n hx hb hL dX6_read_36 rfl ?_
    refine r_geta hC X hR FX6_41 rfl rfl dX6_read_37 ?_
    refine m_iload_n hx hb hL dX6_read_40 rfl ?_
    refine r_iald (x := x) (w := (A 11 (((21 * (A 14 (y : Int).toNat)) + i) : Int).toNat)) hC X hR 14 rfl rfl (by omega) (by change _ < ((10 : Nat) : Int); omega) (by simp [up]) dX6_read_41 ?_
    refine r_call hC X hR hf (k_X6_tagOf (x := (A 11 (((21 * (A 14 (y : Int).toNat)) + i) : Int).toNat)) hR hI (by omega)) VX6_134 rfl ⟨by decide, by decide⟩ ⟨by decide, by decide⟩ hL.1 rfl (Nat.le_of_ble_eq_true rfl) dX6_read_42 (fun μ H locs X hR hf => ?_)
    exact r_iret hC X hR hf hr hlk (by unfold rRead; simp [up_up, up_s, up_k, g5]) (by unfold rReadV; simp [up_up, up_s, up_k, rTagOf_u, g5]) dX6_read_45
  · rw [bZ_f g5]
    refine m_if_ne (tgt := 13) hx hb dX6_read_8 (by decide) (by omega) (fun c8 => absurd c8 (by omega)) (fun c8 => ?_)
    refine lv_iconst (v := iv 0) hx hb dX6_read_11 rfl ?_
    exact r_iret hC X hR hf hr hlk (by unfold rRead; simp [up_up, up_s, up_k, g5]) (by unfold rReadV; simp [up_up, up_s, up_k, rTagOf_u, g5]) dX6_read_12

set_option maxHeartbeats 4000000 in
theorem k_X6_tag {G : mG} {l : Launch} {z : Nat} {ρ : Nat → Nat} {μ0 : mM} {A : rS} {x : Int} (hR : RR A μ0) (hI : RI A) (hx1 : rng x) : MR G l yX6_tag cX6_tag 2 (some .int) 1 22 z ρ [.ref (ρ 6), .int (iv x)] μ0 (some (.int (iv (rTagV A x)))) (up A 0 0 (rTagT A x)) := by
  refine MR.of hR (by decide) (by simp [Value.category]) (Nat.le_of_ble_eq_true rfl) (Nat.le_of_ble_eq_true rfl) ?_
  intro p e s m args below meth c ls H locs μ hC hx hb hr hlk X hR hf hL
  refine m_aload_n hx hb hL dX6_tag_0 rfl ?_
  refine m_iload_n hx hb hL dX6_tag_1 rfl ?_
  refine r_callS hC X hR hf (k_X6_isRegister (x := x) hR hI (by omega)) VX6_117 rfl ⟨by decide, by decide⟩ ⟨by decide, by decide⟩ hL.1 rfl (Nat.le_of_ble_eq_true rfl) dX6_tag_2 (fun μ H locs X hR hf => ?_)
  by_cases g2 : rReg x
  · rw [show rIsReg x = 1 from bZ_t g2]
    refine m_iload_n hx hb hL dX6_tag_5 rfl ?_
    refine r_callS hC X hR hf (k_X6_isRegister (x := x) hR hI (by omega)) VX6_117 rfl ⟨by decide, by decide⟩ ⟨by decide, by decide⟩ hL.1 rfl (Nat.le_of_ble_eq_true rfl) dX6_tag_6 (fun μ H locs X hR hf => ?_)
    rw [show rIsReg x = 1 from bZ_t g2]
    refine m_if_eq (tgt := 22) hx hb dX6_tag_9 (by decide) (by omega) (fun c9 => absurd c9 (by omega)) (fun c9 => ?_)
    refine m_aload_n hx hb hL dX6_tag_12 rfl ?_
    refine r_geta hC X hR FX6_41 rfl rfl dX6_tag_13 ?_
    refine m_iload_n hx hb hL dX6_tag_16 rfl ?_
    refine r_iald (x := x) (w := (A 14 (x : Int).toNat)) hC X hR 14 rfl rfl (by omega) (by change _ < ((10 : Nat) : Int); omega) rfl dX6_tag_17 ?_
    have q1 : (-1 : Int) ≤ (A 14 (x : Int).toNat) ∧ (A 14 (x : Int).toNat) ≤ 619 := hI.b14 (x : Int).toNat
    refine lv_iconst (v := iv (-1)) hx hb dX6_tag_18 rfl ?_
    refine m_icmp_eq (tgt := 26) hx hb dX6_tag_19 (by decide) (by omega) (by omega) (fun c19 => ?_) (fun c19 => ?_)
    · refine lv_iconst (v := iv 0) hx hb dX6_tag_26 rfl ?_
      refine r_call hC X hR hf (k_X6_good (x := 1) (y := 0) hR hI (by omega) (by omega)) VX6_120 rfl ⟨by decide, by decide⟩ ⟨by decide, by decide⟩ hL.1 rfl (Nat.le_of_ble_eq_true rfl) dX6_tag_27 (fun μ H locs X hR hf => ?_)
      have hR : RR (up A 0 0 2) μ := hR
      have hI : RI (up A 0 0 2) := hI.u0 0 (v := 2) ⟨by omega, by omega⟩
      rw [show bZ (rThr 1 0 = 0) = 0 by decide]
      refine m_if_eq (tgt := 47) hx hb dX6_tag_30 (by decide) (by omega) (fun c30 => ?_) (fun c30 => absurd c30 (by omega))
      refine lv_iconst (v := iv 0) hx hb dX6_tag_47 rfl ?_
      exact r_iret hC X hR hf hr hlk (by rw [(show rTagT A x = 2 by (unfold rTagT; (first | rw [if_pos (by omega)] | rw [if_neg (by omega)]); (try (first | rw [if_pos (by omega)] | rw [if_neg (by omega)]))))]) (by unfold rTagV; rw [(show rTagT A x = 2 by (unfold rTagT; (first | rw [if_pos (by omega)] | rw [if_neg (by omega)]); (try (first | rw [if_pos (by omega)] | rw [if_neg (by omega)]))))]; simp) dX6_tag_48
    · refine lv_iconst (v := iv 1) hx hb dX6_tag_22 rfl ?_
      refine lv_goto (tgt := 27) hx hb dX6_tag_23 (by decide) ?_
      refine r_call hC X hR hf (k_X6_good (x := 1) (y := 1) hR hI (by omega) (by omega)) VX6_120 rfl ⟨by decide, by decide⟩ ⟨by decide, by decide⟩ hL.1 rfl (Nat.le_of_ble_eq_true rfl) dX6_tag_27 (fun μ H locs X hR hf => ?_)
      have hR : RR (up A 0 0 0) μ := hR
      have hI : RI (up A 0 0 0) := hI.u0 0 (v := 0) ⟨by omega, by omega⟩
      rw [show bZ (rThr 1 1 = 0) = 1 by decide]
      refine m_if_eq (tgt := 47) hx hb dX6_tag_30 (by decide) (by omega) (fun c30 => absurd c30 (by omega)) (fun c30 => ?_)
      refine m_aload_n hx hb hL dX6_tag_33 rfl ?_
      refine r_geta hC X hR FX6_29 rfl rfl dX6_tag_34 ?_
      refine m_aload_n hx hb hL dX6_tag_37 rfl ?_
      refine r_geta hC X hR FX6_41 rfl rfl dX6_tag_38 ?_
      refine m_iload_n hx hb hL dX6_tag_41 rfl ?_
      refine r_iald (x := x) (w := (A 14 (x : Int).toNat)) hC X hR 14 rfl rfl (by omega) (by change _ < ((10 : Nat) : Int); omega) rfl dX6_tag_42 ?_
      have q2 : (-1 : Int) ≤ (A 14 (x : Int).toNat) ∧ (A 14 (x : Int).toNat) ≤ 619 := hI.b14 (x : Int).toNat
      refine r_iald (x := (A 14 (x : Int).toNat)) (w := (A 10 ((A 14 (x : Int).toNat) : Int).toNat)) hC X hR 10 rfl rfl (by omega) (by change _ < ((620 : Nat) : Int); omega) rfl dX6_tag_43 ?_
      have q3 : (-2147483648 : Int) ≤ (A 10 ((A 14 (x : Int).toNat) : Int).toNat) ∧ (A 10 ((A 14 (x : Int).toNat) : Int).toNat) ≤ 2147483647 := hI.b10 ((A 14 (x : Int).toNat) : Int).toNat
      refine lv_goto (tgt := 48) hx hb dX6_tag_44 (by decide) ?_
      exact r_iret hC X hR hf hr hlk (by rw [(show rTagT A x = 0 by (unfold rTagT; (first | rw [if_pos (by omega)] | rw [if_neg (by omega)]); (try (first | rw [if_pos (by omega)] | rw [if_neg (by omega)]))))]) (by unfold rTagV; rw [(show rTagT A x = 0 by (unfold rTagT; (first | rw [if_pos (by omega)] | rw [if_neg (by omega)]); (try (first | rw [if_pos (by omega)] | rw [if_neg (by omega)]))))]; simp) dX6_tag_48
  · rw [show rIsReg x = 0 from bZ_f g2]
    refine m_iload_n hx hb hL dX6_tag_5 rfl ?_
    refine r_callS hC X hR hf (k_X6_isRegister (x := x) hR hI (by omega)) VX6_117 rfl ⟨by decide, by decide⟩ ⟨by decide, by decide⟩ hL.1 rfl (Nat.le_of_ble_eq_true rfl) dX6_tag_6 (fun μ H locs X hR hf => ?_)
    rw [show rIsReg x = 0 from bZ_f g2]
    refine m_if_eq (tgt := 22) hx hb dX6_tag_9 (by decide) (by omega) (fun c9 => ?_) (fun c9 => absurd c9 (by omega))
    refine lv_iconst (v := iv 1) hx hb dX6_tag_22 rfl ?_
    refine lv_goto (tgt := 27) hx hb dX6_tag_23 (by decide) ?_
    refine r_call hC X hR hf (k_X6_good (x := 0) (y := 1) hR hI (by omega) (by omega)) VX6_120 rfl ⟨by decide, by decide⟩ ⟨by decide, by decide⟩ hL.1 rfl (Nat.le_of_ble_eq_true rfl) dX6_tag_27 (fun μ H locs X hR hf => ?_)
    have hR : RR (up A 0 0 1) μ := hR
    have hI : RI (up A 0 0 1) := hI.u0 0 (v := 1) ⟨by omega, by omega⟩
    rw [show bZ (rThr 0 1 = 0) = 0 by decide]
    refine m_if_eq (tgt := 47) hx hb dX6_tag_30 (by decide) (by omega) (fun c30 => ?_) (fun c30 => absurd c30 (by omega))
    refine lv_iconst (v := iv 0) hx hb dX6_tag_47 rfl ?_
    exact r_iret hC X hR hf hr hlk (by rw [(show rTagT A x = 1 by (unfold rTagT; (first | rw [if_pos (by omega)] | rw [if_neg (by omega)]); (try (first | rw [if_pos (by omega)] | rw [if_neg (by omega)]))))]) (by unfold rTagV; rw [(show rTagT A x = 1 by (unfold rTagT; (first | rw [if_pos (by omega)] | rw [if_neg (by omega)]); (try (first | rw [if_pos (by omega)] | rw [if_neg (by omega)]))))]; simp) dX6_tag_48

set_option maxHeartbeats 4000000 in
theorem k_X6_same {G : mG} {l : Launch} {z : Nat} {ρ : Nat → Nat} {μ0 : mM} {A : rS} {x : Int} {y : Int} (hR : RR A μ0) (hI : RI A) (hx1 : rng x) (hy1 : rng y) : MR G l yX6_same cX6_same 3 (some .boolean) 1 22 z ρ [.ref (ρ 6), .int (iv x), .int (iv y)] μ0 (some (.int (iv (rSameV A x y)))) (up A 0 0 (if rReg x ∧ rReg y then 0 else 1)) := by
  refine MR.of hR (by decide) (by simp [Value.category]) (Nat.le_of_ble_eq_true rfl) (Nat.le_of_ble_eq_true rfl) ?_
  intro p e s m args below meth c ls H locs μ hC hx hb hr hlk X hR hf hL
  refine m_aload_n hx hb hL dX6_same_0 rfl ?_
  refine m_iload_n hx hb hL dX6_same_1 rfl ?_
  refine r_callS hC X hR hf (k_X6_isRegister (x := x) hR hI (by omega)) VX6_117 rfl ⟨by decide, by decide⟩ ⟨by decide, by decide⟩ hL.1 rfl (Nat.le_of_ble_eq_true rfl) dX6_same_2 (fun μ H locs X hR hf => ?_)
  by_cases g2 : rReg x
  · rw [show rIsReg x = 1 from bZ_t g2]
    refine m_if_eq (tgt := 19) hx hb dX6_same_5 (by decide) (by omega) (fun c5 => absurd c5 (by omega)) (fun c5 => ?_)
    refine m_iload_n hx hb hL dX6_same_8 rfl ?_
    refine r_callS hC X hR hf (k_X6_isRegister (x := y) hR hI (by omega)) VX6_117 rfl ⟨by decide, by decide⟩ ⟨by decide, by decide⟩ hL.1 rfl (Nat.le_of_ble_eq_true rfl) dX6_same_9 (fun μ H locs X hR hf => ?_)
    by_cases g9 : rReg y
    · rw [show rIsReg y = 1 from bZ_t g9]
      refine m_if_eq (tgt := 19) hx hb dX6_same_12 (by decide) (by omega) (fun c12 => absurd c12 (by omega)) (fun c12 => ?_)
      refine lv_iconst (v := iv 1) hx hb dX6_same_15 rfl ?_
      refine lv_goto (tgt := 20) hx hb dX6_same_16 (by decide) ?_
      refine lv_iconst (v := iv 1) hx hb dX6_same_20 rfl ?_
      refine r_call hC X hR hf (k_X6_good (x := 1) (y := 1) hR hI (by omega) (by omega)) VX6_120 rfl ⟨by decide, by decide⟩ ⟨by decide, by decide⟩ hL.1 rfl (Nat.le_of_ble_eq_true rfl) dX6_same_21 (fun μ H locs X hR hf => ?_)
      have hR : RR (up A 0 0 0) μ := hR
      have hI : RI (up A 0 0 0) := hI.u0 0 (v := 0) ⟨by omega, by omega⟩
      rw [show bZ (rThr 1 1 = 0) = 1 by decide]
      refine m_if_eq (tgt := 46) hx hb dX6_same_24 (by decide) (by omega) (fun c24 => absurd c24 (by omega)) (fun c24 => ?_)
      refine m_aload_n hx hb hL dX6_same_27 rfl ?_
      refine r_geta hC X hR FX6_41 rfl rfl dX6_same_28 ?_
      refine m_iload_n hx hb hL dX6_same_31 rfl ?_
      refine r_iald (x := x) (w := (A 14 (x : Int).toNat)) hC X hR 14 rfl rfl (by omega) (by change _ < ((10 : Nat) : Int); omega) rfl dX6_same_32 ?_
      have q1 : (-1 : Int) ≤ (A 14 (x : Int).toNat) ∧ (A 14 (x : Int).toNat) ≤ 619 := hI.b14 (x : Int).toNat
      refine m_aload_n hx hb hL dX6_same_33 rfl ?_
      refine r_geta hC X hR FX6_41 rfl rfl dX6_same_34 ?_
      refine m_iload_n hx hb hL dX6_same_37 rfl ?_
      refine r_iald (x := y) (w := (A 14 (y : Int).toNat)) hC X hR 14 rfl rfl (by omega) (by change _ < ((10 : Nat) : Int); omega) rfl dX6_same_38 ?_
      have q2 : (-1 : Int) ≤ (A 14 (y : Int).toNat) ∧ (A 14 (y : Int).toNat) ≤ 619 := hI.b14 (y : Int).toNat
      refine m_icmp_ne (tgt := 46) hx hb dX6_same_39 (by decide) (by omega) (by omega) (fun c39 => ?_) (fun c39 => ?_)
      · refine lv_iconst (v := iv 0) hx hb dX6_same_46 rfl ?_
        exact r_zret hC X hR hf hr hlk (by (first | rw [if_pos (by omega)] | rw [if_neg (by omega)])) (by simp [rSameV, bZ, up_up, up_s, up_k, g2, g9, c39]) (by omega) dX6_same_47
      · refine lv_iconst (v := iv 1) hx hb dX6_same_42 rfl ?_
        refine lv_goto (tgt := 47) hx hb dX6_same_43 (by decide) ?_
        exact r_zret hC X hR hf hr hlk (by (first | rw [if_pos (by omega)] | rw [if_neg (by omega)])) (by simp [rSameV, bZ, up_up, up_s, up_k, g2, g9, c39]) (by omega) dX6_same_47
    · rw [show rIsReg y = 0 from bZ_f g9]
      refine m_if_eq (tgt := 19) hx hb dX6_same_12 (by decide) (by omega) (fun c12 => ?_) (fun c12 => absurd c12 (by omega))
      refine lv_iconst (v := iv 0) hx hb dX6_same_19 rfl ?_
      refine lv_iconst (v := iv 1) hx hb dX6_same_20 rfl ?_
      refine r_call hC X hR hf (k_X6_good (x := 0) (y := 1) hR hI (by omega) (by omega)) VX6_120 rfl ⟨by decide, by decide⟩ ⟨by decide, by decide⟩ hL.1 rfl (Nat.le_of_ble_eq_true rfl) dX6_same_21 (fun μ H locs X hR hf => ?_)
      have hR : RR (up A 0 0 1) μ := hR
      have hI : RI (up A 0 0 1) := hI.u0 0 (v := 1) ⟨by omega, by omega⟩
      rw [show bZ (rThr 0 1 = 0) = 0 by decide]
      refine m_if_eq (tgt := 46) hx hb dX6_same_24 (by decide) (by omega) (fun c24 => ?_) (fun c24 => absurd c24 (by omega))
      refine lv_iconst (v := iv 0) hx hb dX6_same_46 rfl ?_
      exact r_zret hC X hR hf hr hlk (by (first | rw [if_pos (by omega)] | rw [if_neg (by omega)])) (by simp [rSameV, bZ, up_up, up_s, up_k, g2, g9]) (by omega) dX6_same_47
  · rw [show rIsReg x = 0 from bZ_f g2]
    refine m_if_eq (tgt := 19) hx hb dX6_same_5 (by decide) (by omega) (fun c5 => ?_) (fun c5 => absurd c5 (by omega))
    refine lv_iconst (v := iv 0) hx hb dX6_same_19 rfl ?_
    refine lv_iconst (v := iv 1) hx hb dX6_same_20 rfl ?_
    refine r_call hC X hR hf (k_X6_good (x := 0) (y := 1) hR hI (by omega) (by omega)) VX6_120 rfl ⟨by decide, by decide⟩ ⟨by decide, by decide⟩ hL.1 rfl (Nat.le_of_ble_eq_true rfl) dX6_same_21 (fun μ H locs X hR hf => ?_)
    have hR : RR (up A 0 0 1) μ := hR
    have hI : RI (up A 0 0 1) := hI.u0 0 (v := 1) ⟨by omega, by omega⟩
    rw [show bZ (rThr 0 1 = 0) = 0 by decide]
    refine m_if_eq (tgt := 46) hx hb dX6_same_24 (by decide) (by omega) (fun c24 => ?_) (fun c24 => absurd c24 (by omega))
    refine lv_iconst (v := iv 0) hx hb dX6_same_46 rfl ?_
    exact r_zret hC X hR hf hr hlk (by (first | rw [if_pos (by omega)] | rw [if_neg (by omega)])) (by simp [rSameV, bZ, up_up, up_s, up_k, g2]) (by omega) dX6_same_47

set_option maxHeartbeats 4000000 in
theorem k_X6_where {G : mG} {l : Launch} {z : Nat} {ρ : Nat → Nat} {μ0 : mM} {A : rS} {x : Int} (hR : RR A μ0) (hI : RI A) (hx1 : rng x) : MR G l yX6_where cX6_where 2 (some .int) 1 22 z ρ [.ref (ρ 6), .int (iv x)] μ0 (some (.int (iv (rWhereV A x)))) (up A 0 0 (if rReg x then 0 else 1)) := by
  refine MR.of hR (by decide) (by simp [Value.category]) (Nat.le_of_ble_eq_true rfl) (Nat.le_of_ble_eq_true rfl) ?_
  intro p e s m args below meth c ls H locs μ hC hx hb hr hlk X hR hf hL
  refine m_aload_n hx hb hL dX6_where_0 rfl ?_
  refine m_iload_n hx hb hL dX6_where_1 rfl ?_
  refine r_callS hC X hR hf (k_X6_isRegister (x := x) hR hI (by omega)) VX6_117 rfl ⟨by decide, by decide⟩ ⟨by decide, by decide⟩ hL.1 rfl (Nat.le_of_ble_eq_true rfl) dX6_where_2 (fun μ H locs X hR hf => ?_)
  by_cases g2 : rReg x
  · rw [show rIsReg x = 1 from bZ_t g2]
    refine lv_iconst (v := iv 1) hx hb dX6_where_5 rfl ?_
    refine r_call hC X hR hf (k_X6_good (x := 1) (y := 1) hR hI (by omega) (by omega)) VX6_120 rfl ⟨by decide, by decide⟩ ⟨by decide, by decide⟩ hL.1 rfl (Nat.le_of_ble_eq_true rfl) dX6_where_6 (fun μ H locs X hR hf => ?_)
    have hR : RR (up A 0 0 0) μ := hR
    have hI : RI (up A 0 0 0) := hI.u0 0 (v := 0) ⟨by omega, by omega⟩
    rw [show bZ (rThr 1 1 = 0) = 1 by decide]
    refine m_if_eq (tgt := 25) hx hb dX6_where_9 (by decide) (by omega) (fun c9 => absurd c9 (by omega)) (fun c9 => ?_)
    refine m_aload_n hx hb hL dX6_where_12 rfl ?_
    refine m_aload_n hx hb hL dX6_where_13 rfl ?_
    refine r_geta hC X hR FX6_41 rfl rfl dX6_where_14 ?_
    refine m_iload_n hx hb hL dX6_where_17 rfl ?_
    refine r_iald (x := x) (w := (A 14 (x : Int).toNat)) hC X hR 14 rfl rfl (by omega) (by change _ < ((10 : Nat) : Int); omega) rfl dX6_where_18 ?_
    have q1 : (-1 : Int) ≤ (A 14 (x : Int).toNat) ∧ (A 14 (x : Int).toNat) ≤ 619 := hI.b14 (x : Int).toNat
    refine r_call hC X hR hf (k_X6_place (x := (A 14 (x : Int).toNat)) hR hI (by omega)) VX6_90 rfl ⟨by decide, by decide⟩ ⟨by decide, by decide⟩ hL.1 rfl (Nat.le_of_ble_eq_true rfl) dX6_where_19 (fun μ H locs X hR hf => ?_)
    have hq19 := rPlace_b hI ((A 14 (x : Int).toNat))
    refine lv_goto (tgt := 26) hx hb dX6_where_22 (by decide) ?_
    exact r_iret hC X hR hf hr hlk (by (first | rw [if_pos (by omega)] | rw [if_neg (by omega)])) (by simp [rWhereV, rPlace_u, up_up, up_s, up_k, g2]) dX6_where_26
  · rw [show rIsReg x = 0 from bZ_f g2]
    refine lv_iconst (v := iv 1) hx hb dX6_where_5 rfl ?_
    refine r_call hC X hR hf (k_X6_good (x := 0) (y := 1) hR hI (by omega) (by omega)) VX6_120 rfl ⟨by decide, by decide⟩ ⟨by decide, by decide⟩ hL.1 rfl (Nat.le_of_ble_eq_true rfl) dX6_where_6 (fun μ H locs X hR hf => ?_)
    have hR : RR (up A 0 0 1) μ := hR
    have hI : RI (up A 0 0 1) := hI.u0 0 (v := 1) ⟨by omega, by omega⟩
    rw [show bZ (rThr 0 1 = 0) = 0 by decide]
    refine m_if_eq (tgt := 25) hx hb dX6_where_9 (by decide) (by omega) (fun c9 => ?_) (fun c9 => absurd c9 (by omega))
    refine lv_iconst (v := iv 0) hx hb dX6_where_25 rfl ?_
    exact r_iret hC X hR hf hr hlk (by (first | rw [if_pos (by omega)] | rw [if_neg (by omega)])) (by simp [rWhereV, rPlace_u, up_up, up_s, up_k, g2]) dX6_where_26

set_option maxHeartbeats 4000000 in
theorem k_X6_region {G : mG} {l : Launch} {z : Nat} {ρ : Nat → Nat} {μ0 : mM} {A : rS} {x : Int} {y : Int} (hR : RR A μ0) (hI : RI A) (hx1 : rng x) (hy1 : rng y) : MR G l yX6_region cX6_region 3 (some .int) 1 23 z ρ [.ref (ρ 6), .int (iv x), .int (iv y)] μ0 (some (.int (iv (rRegionV A x y)))) (up A 0 0 (if 0 ≤ x ∧ x < A 1 0 then 0 else 1)) := by
  refine MR.of hR (by decide) (by simp [Value.category]) (Nat.le_of_ble_eq_true rfl) (Nat.le_of_ble_eq_true rfl) ?_
  intro p e s m args below meth c ls H locs μ hC hx hb hr hlk X hR hf hL
  refine m_aload_n hx hb hL dX6_region_0 rfl ?_
  refine m_iload_n hx hb hL dX6_region_1 rfl ?_
  refine m_if_lt (tgt := 17) hx hb dX6_region_2 (by decide) (by omega) (fun c2 => ?_) (fun c2 => ?_)
  · refine lv_iconst (v := iv 0) hx hb dX6_region_17 rfl ?_
    refine lv_iconst (v := iv 1) hx hb dX6_region_18 rfl ?_
    refine r_call hC X hR hf (k_X6_good (x := 0) (y := 1) hR hI (by omega) (by omega)) VX6_120 rfl ⟨by decide, by decide⟩ ⟨by decide, by decide⟩ hL.1 rfl (Nat.le_of_ble_eq_true rfl) dX6_region_19 (fun μ H locs X hR hf => ?_)
    have hR : RR (up A 0 0 1) μ := hR
    have hI : RI (up A 0 0 1) := hI.u0 0 (v := 1) ⟨by omega, by omega⟩
    rw [show bZ (rThr 0 1 = 0) = 0 by decide]
    refine m_if_ne (tgt := 27) hx hb dX6_region_22 (by decide) (by omega) (fun c22 => absurd c22 (by omega)) (fun c22 => ?_)
    refine lv_iconst (v := iv 0) hx hb dX6_region_25 rfl ?_
    exact r_iret hC X hR hf hr hlk (by (first | rw [if_pos (by omega)] | rw [if_neg (by omega)])) (by unfold rRegionV; (first | rw [if_pos (by omega)] | rw [if_neg (by omega)]); (try (first | rw [if_pos (by omega)] | rw [if_neg (by omega)])); (try (first | rw [if_pos (by omega)] | rw [if_neg (by omega)])); (try (first | rw [if_pos (by omega)] | rw [if_neg (by omega)])); (try rw [rSeenIn_u])) dX6_region_26
  · refine m_iload_n hx hb hL dX6_region_5 rfl ?_
    refine m_aload_n hx hb hL dX6_region_6 rfl ?_
    refine r_gets (w := (A 1 0)) hC X hR FX6_47 rfl rfl rfl dX6_region_7 ?_
    have q1 : (3 : Int) ≤ (A 1 0) ∧ (A 1 0) ≤ 16 := hI.b1 0
    refine m_icmp_ge (tgt := 17) hx hb dX6_region_10 (by decide) (by omega) (by omega) (fun c10 => ?_) (fun c10 => ?_)
    · refine lv_iconst (v := iv 0) hx hb dX6_region_17 rfl ?_
      refine lv_iconst (v := iv 1) hx hb dX6_region_18 rfl ?_
      refine r_call hC X hR hf (k_X6_good (x := 0) (y := 1) hR hI (by omega) (by omega)) VX6_120 rfl ⟨by decide, by decide⟩ ⟨by decide, by decide⟩ hL.1 rfl (Nat.le_of_ble_eq_true rfl) dX6_region_19 (fun μ H locs X hR hf => ?_)
      have hR : RR (up A 0 0 1) μ := hR
      have hI : RI (up A 0 0 1) := hI.u0 0 (v := 1) ⟨by omega, by omega⟩
      rw [show bZ (rThr 0 1 = 0) = 0 by decide]
      refine m_if_ne (tgt := 27) hx hb dX6_region_22 (by decide) (by omega) (fun c22 => absurd c22 (by omega)) (fun c22 => ?_)
      refine lv_iconst (v := iv 0) hx hb dX6_region_25 rfl ?_
      exact r_iret hC X hR hf hr hlk (by (first | rw [if_pos (by omega)] | rw [if_neg (by omega)])) (by unfold rRegionV; (first | rw [if_pos (by omega)] | rw [if_neg (by omega)]); (try (first | rw [if_pos (by omega)] | rw [if_neg (by omega)])); (try (first | rw [if_pos (by omega)] | rw [if_neg (by omega)])); (try (first | rw [if_pos (by omega)] | rw [if_neg (by omega)])); (try rw [rSeenIn_u])) dX6_region_26
    · refine lv_iconst (v := iv 1) hx hb dX6_region_13 rfl ?_
      refine lv_goto (tgt := 18) hx hb dX6_region_14 (by decide) ?_
      refine lv_iconst (v := iv 1) hx hb dX6_region_18 rfl ?_
      refine r_call hC X hR hf (k_X6_good (x := 1) (y := 1) hR hI (by omega) (by omega)) VX6_120 rfl ⟨by decide, by decide⟩ ⟨by decide, by decide⟩ hL.1 rfl (Nat.le_of_ble_eq_true rfl) dX6_region_19 (fun μ H locs X hR hf => ?_)
      have hR : RR (up A 0 0 0) μ := hR
      have hI : RI (up A 0 0 0) := hI.u0 0 (v := 0) ⟨by omega, by omega⟩
      rw [show bZ (rThr 1 1 = 0) = 1 by decide]
      refine m_if_ne (tgt := 27) hx hb dX6_region_22 (by decide) (by omega) (fun c22 => ?_) (fun c22 => absurd c22 (by omega))
      refine m_iload_n hx hb hL dX6_region_27 rfl ?_
      refine m_if_ne (tgt := 40) hx hb dX6_region_28 (by decide) (by omega) (fun c28 => ?_) (fun c28 => ?_)
      · refine m_iload_n hx hb hL dX6_region_40 rfl ?_
        refine lv_iconst (v := iv 1) hx hb dX6_region_41 rfl ?_
        refine m_icmp_ne (tgt := 54) hx hb dX6_region_42 (by decide) (by omega) (by omega) (fun c42 => ?_) (fun c42 => ?_)
        · refine m_iload_n hx hb hL dX6_region_54 rfl ?_
          refine lv_iconst (v := iv 2) hx hb dX6_region_55 rfl ?_
          refine m_icmp_ne (tgt := 67) hx hb dX6_region_56 (by decide) (by omega) (by omega) (fun c56 => ?_) (fun c56 => ?_)
          · refine lv_iconst (v := iv (-1)) hx hb dX6_region_67 rfl ?_
            exact r_iret hC X hR hf hr hlk (by (first | rw [if_pos (by omega)] | rw [if_neg (by omega)])) (by unfold rRegionV; (first | rw [if_pos (by omega)] | rw [if_neg (by omega)]); (try (first | rw [if_pos (by omega)] | rw [if_neg (by omega)])); (try (first | rw [if_pos (by omega)] | rw [if_neg (by omega)])); (try (first | rw [if_pos (by omega)] | rw [if_neg (by omega)])); (try rw [rSeenIn_u])) dX6_region_68
          · refine m_aload_n hx hb hL dX6_region_59 rfl ?_
            refine m_iload_n hx hb hL dX6_region_60 rfl ?_
            refine r_call hC X hR hf (k_X6_seenIn (x := x) hR hI (by omega)) VX6_73 rfl ⟨by decide, by decide⟩ ⟨by decide, by decide⟩ hL.1 rfl (Nat.le_of_ble_eq_true rfl) dX6_region_61 (fun μ H locs X hR hf => ?_)
            have hq61 := rSeenIn_b hI x
            refine lv_goto (tgt := 68) hx hb dX6_region_64 (by decide) ?_
            exact r_iret hC X hR hf hr hlk (by (first | rw [if_pos (by omega)] | rw [if_neg (by omega)])) (by unfold rRegionV; (first | rw [if_pos (by omega)] | rw [if_neg (by omega)]); (try (first | rw [if_pos (by omega)] | rw [if_neg (by omega)])); (try (first | rw [if_pos (by omega)] | rw [if_neg (by omega)])); (try (first | rw [if_pos (by omega)] | rw [if_neg (by omega)])); (try rw [rSeenIn_u])) dX6_region_68
        · refine m_aload_n hx hb hL dX6_region_45 rfl ?_
          refine r_geta hC X hR FX6_13 rfl rfl dX6_region_46 ?_
          refine m_iload_n hx hb hL dX6_region_49 rfl ?_
          refine r_iald (x := x) (w := (A 4 (x : Int).toNat)) hC X hR 4 rfl rfl (by omega) (by change _ < ((16 : Nat) : Int); omega) rfl dX6_region_50 ?_
          have q2 : (0 : Int) ≤ (A 4 (x : Int).toNat) ∧ (A 4 (x : Int).toNat) ≤ 128 := hI.b4 (x : Int).toNat
          refine lv_goto (tgt := 68) hx hb dX6_region_51 (by decide) ?_
          exact r_iret hC X hR hf hr hlk (by (first | rw [if_pos (by omega)] | rw [if_neg (by omega)])) (by unfold rRegionV; (first | rw [if_pos (by omega)] | rw [if_neg (by omega)]); (try (first | rw [if_pos (by omega)] | rw [if_neg (by omega)])); (try (first | rw [if_pos (by omega)] | rw [if_neg (by omega)])); (try (first | rw [if_pos (by omega)] | rw [if_neg (by omega)])); (try rw [rSeenIn_u])) dX6_region_68
      · refine m_aload_n hx hb hL dX6_region_31 rfl ?_
        refine r_geta hC X hR FX6_7 rfl rfl dX6_region_32 ?_
        refine m_iload_n hx hb hL dX6_region_35 rfl ?_
        refine r_iald (x := x) (w := (A 3 (x : Int).toNat)) hC X hR 3 rfl rfl (by omega) (by change _ < ((16 : Nat) : Int); omega) rfl dX6_region_36 ?_
        have q3 : (0 : Int) ≤ (A 3 (x : Int).toNat) ∧ (A 3 (x : Int).toNat) ≤ 4 := hI.b3 (x : Int).toNat
        refine lv_goto (tgt := 68) hx hb dX6_region_37 (by decide) ?_
        exact r_iret hC X hR hf hr hlk (by (first | rw [if_pos (by omega)] | rw [if_neg (by omega)])) (by unfold rRegionV; (first | rw [if_pos (by omega)] | rw [if_neg (by omega)]); (try (first | rw [if_pos (by omega)] | rw [if_neg (by omega)])); (try (first | rw [if_pos (by omega)] | rw [if_neg (by omega)])); (try (first | rw [if_pos (by omega)] | rw [if_neg (by omega)])); (try rw [rSeenIn_u])) dX6_region_68

set_option maxHeartbeats 4000000 in
theorem k_X6_count {G : mG} {l : Launch} {z : Nat} {ρ : Nat → Nat} {μ0 : mM} {A : rS} {x : Int} (hR : RR A μ0) (hI : RI A) (hx1 : rng x) : MR G l yX6_count cX6_count 2 (some .int) 0 0 z ρ [.ref (ρ 6), .int (iv x)] μ0 (some (.int (iv (rCountV A x)))) (up A 0 0 0) := by
  refine MR.of hR (by decide) (by simp [Value.category]) (Nat.le_of_ble_eq_true rfl) (Nat.le_of_ble_eq_true rfl) ?_
  intro p e s m args below meth c ls H locs μ hC hx hb hr hlk X hR hf hL
  refine m_aload_n hx hb hL dX6_count_0 rfl ?_
  refine lv_iconst (v := iv 0) hx hb dX6_count_1 rfl ?_
  refine r_puts (v := 0) hC X hR FwX6_54 rfl rfl dX6_count_2 (fun H locs X hR => ?_)
  have hf := hf.s 0 (iv 0)
  have hI := hI.u0 0 (v := 0) ⟨by omega, by omega⟩
  refine m_iload_n hx hb hL dX6_count_5 rfl ?_
  refine m_if_ne (tgt := 16) hx hb dX6_count_6 (by decide) (by omega) (fun c6 => ?_) (fun c6 => ?_)
  · refine m_iload_n hx hb hL dX6_count_16 rfl ?_
    refine lv_iconst (v := iv 1) hx hb dX6_count_17 rfl ?_
    refine m_icmp_ne (tgt := 28) hx hb dX6_count_18 (by decide) (by omega) (by omega) (fun c18 => ?_) (fun c18 => ?_)
    · refine m_iload_n hx hb hL dX6_count_28 rfl ?_
      refine lv_iconst (v := iv 2) hx hb dX6_count_29 rfl ?_
      refine m_icmp_ne (tgt := 57) hx hb dX6_count_30 (by decide) (by omega) (by omega) (fun c30 => ?_) (fun c30 => ?_)
      · refine lv_iconst (v := iv (-1)) hx hb dX6_count_57 rfl ?_
        exact r_iret hC X hR hf hr hlk rfl (by simp [rCountV, up_up, up_s, up_k, c6, c18, c30]) dX6_count_58
      · refine m_aload_n hx hb hL dX6_count_33 rfl ?_
        refine r_gets (w := (A 18 0)) hC X hR FX6_70 rfl rfl rfl dX6_count_34 ?_
        have q1 : (0 : Int) ≤ (A 18 0) ∧ (A 18 0) ≤ 3 := hI.b18 0
        refine lv_iconst (v := iv 1) hx hb dX6_count_37 rfl ?_
        refine m_icmp_ne (tgt := 53) hx hb dX6_count_38 (by decide) (by omega) (by omega) (fun c38 => ?_) (fun c38 => ?_)
        · refine lv_iconst (v := iv 0) hx hb dX6_count_53 rfl ?_
          refine lv_goto (tgt := 58) hx hb dX6_count_54 (by decide) ?_
          exact r_iret hC X hR hf hr hlk rfl (by simp [rCountV, up_up, up_s, up_k, c6, c18, c30, c38]) dX6_count_58
        · refine m_aload_n hx hb hL dX6_count_41 rfl ?_
          refine r_gets (w := (A 17 0)) hC X hR FX6_60 rfl rfl rfl dX6_count_42 ?_
          have q2 : (0 : Int) ≤ (A 17 0) ∧ (A 17 0) ≤ 620 := hI.b17 0
          refine m_aload_n hx hb hL dX6_count_45 rfl ?_
          refine r_gets (w := (A 16 0)) hC X hR FX6_63 rfl rfl rfl dX6_count_46 ?_
          have q3 : (0 : Int) ≤ (A 16 0) ∧ (A 16 0) ≤ 620 := hI.b16 0
          refine m_isub hx hb dX6_count_49 ?_
          refine lv_goto (tgt := 58) hx hb dX6_count_50 (by decide) ?_
          exact r_iret hC X hR hf hr hlk rfl (by simp [rCountV, up_up, up_s, up_k, c6, c18, c30, c38]) dX6_count_58
    · refine m_aload_n hx hb hL dX6_count_21 rfl ?_
      refine r_gets (w := (A 21 0)) hC X hR FX6_80 rfl rfl rfl dX6_count_22 ?_
      refine lv_goto (tgt := 58) hx hb dX6_count_25 (by decide) ?_
      exact r_iret hC X hR hf hr hlk rfl (by simp [rCountV, up_up, up_s, up_k, c6, c18]) dX6_count_58
  · refine m_aload_n hx hb hL dX6_count_9 rfl ?_
    refine r_gets (w := (A 20 0)) hC X hR FX6_83 rfl rfl rfl dX6_count_10 ?_
    refine lv_goto (tgt := 58) hx hb dX6_count_13 (by decide) ?_
    exact r_iret hC X hR hf hr hlk rfl (by simp [rCountV, up_up, up_s, up_k, c6]) dX6_count_58

set_option maxHeartbeats 4000000 in
theorem k_X6_write {G : mG} {l : Launch} {z : Nat} {ρ : Nat → Nat} {μ0 : mM} {A : rS} {x : Int} {i : Int} {y : Int} (hR : RR A μ0) (hI : RI A) (hx1 : rng x) (hi1 : rng i) (hy1 : rng y) (h17 : A 17 0 < 620) : MR G l yX6_write cX6_write 6 (some .int) 2 46 z ρ [.ref (ρ 6), .int (iv x), .int (iv i), .int (iv y)] μ0 (some (.int (iv (rWriteV A x i y)))) (rWrite A x i y) := by
  refine MR.of hR (by decide) (by simp [Value.category]) (Nat.le_of_ble_eq_true rfl) (Nat.le_of_ble_eq_true rfl) ?_
  intro p e s m args below meth c ls H locs μ hC hx hb hr hlk X hR hf hL
  refine m_aload_n hx hb hL dX6_write_0 rfl ?_
  refine m_iload_n hx hb hL dX6_write_1 rfl ?_
  refine m_iload_n hx hb hL dX6_write_2 rfl ?_
  refine m_iload_n hx hb hL dX6_write_3 rfl ?_
  refine m_iload_n hx hb hL dX6_write_4 rfl ?_
  refine r_call hC X hR hf (k_X6_hasField (a := x) (b := y) (r := x) (i := i) hR hI (by omega) (by omega) (by omega) (by omega)) VX6_130 rfl ⟨by decide, by decide⟩ ⟨by decide, by decide⟩ hL.1 rfl (Nat.le_of_ble_eq_true rfl) dX6_write_5 (fun μ H locs X hR hf => ?_)
  have q5 := rHF_b A x y x i
  have hI := hI.u0 0 (v := (rHF A x y x i)) ⟨by omega, by omega⟩
  by_cases g5 : (rHF A x y x i) = 0
  · rw [bZ_t g5]
    rw [g5] at hR hI
    obtain ⟨k1, k2, k3, k4⟩ := rHF_0 g5
    have k5 : (0 : Int) ≤ A 9 (A 14 (x : Int).toNat).toNat ∧ A 9 (A 14 (x : Int).toNat).toNat ≤ 22 := hI.b9 (A 14 (x : Int).toNat).toNat
    refine m_if_ne (tgt := 13) hx hb dX6_write_8 (by decide) (by omega) (fun c8 => ?_) (fun c8 => absurd c8 (by omega))
    refine m_aload_n hx hb hL dX6_write_13 rfl ?_
    refine r_geta hC X hR FX6_41 rfl rfl dX6_write_14 ?_
    refine m_iload_n hx hb hL dX6_write_17 rfl ?_
    refine r_iald (x := x) (w := (A 14 (x : Int).toNat)) hC X hR 14 rfl rfl (by omega) (by change _ < ((10 : Nat) : Int); omega) rfl dX6_write_18 ?_
    have q1 : (-1 : Int) ≤ (A 14 (x : Int).toNat) ∧ (A 14 (x : Int).toNat) ≤ 619 := hI.b14 (x : Int).toNat
    refine m_istore hx hb hL dX6_write_19 (Nat.le_of_ble_eq_true rfl) (fun ls hL => ?_)
    refine m_aload_n hx hb hL dX6_write_21 rfl ?_
    refine r_geta hC X hR FX6_32 rfl rfl dX6_write_22 ?_
    refine lv_bipush (v := iv 21) hx hb dX6_write_25 (by decide +kernel) ?_
    refine m_iload hx hb hL dX6_write_27 rfl ?_
    refine m_imul hx hb dX6_write_29 ?_
    refine m_iload_n hx hb hL dX6_write_30 rfl ?_
    refine m_iadd hx hb dX6_write_31 ?_
    refine r_iald (x := ((21 * (A 14 (x : Int).toNat)) + i)) (w := (A 11 (((21 * (A 14 (x : Int).toNat)) + i) : Int).toNat)) hC X hR 11 rfl rfl (by omega) (by change _ < ((13020 : Nat) : Int); omega) rfl dX6_write_32 ?_
    have q2 : (-1 : Int) ≤ (A 11 (((21 * (A 14 (x : Int).toNat)) + i) : Int).toNat) ∧ (A 11 (((21 * (A 14 (x : Int).toNat)) + i) : Int).toNat) ≤ 619 := hI.b11 (((21 * (A 14 (x : Int).toNat)) + i) : Int).toNat
    refine m_istore hx hb hL dX6_write_33 (Nat.le_of_ble_eq_true rfl) (fun ls hL => ?_)
    refine m_aload_n hx hb hL dX6_write_35 rfl ?_
    refine r_gets (w := (A 18 0)) hC X hR FX6_70 rfl rfl rfl dX6_write_36 ?_
    have q3 : (0 : Int) ≤ (A 18 0) ∧ (A 18 0) ≤ 3 := hI.b18 0
    refine lv_iconst (v := iv 1) hx hb dX6_write_39 rfl ?_
    refine m_icmp_ne (tgt := 49) hx hb dX6_write_40 (by decide) (by omega) (by omega) (fun c40 => ?_) (fun c40 => ?_)
    · refine m_aload_n hx hb hL dX6_write_49 rfl ?_
      refine r_gets (w := (A 18 0)) hC X hR FX6_70 rfl rfl rfl dX6_write_50 ?_
      have q4 : (0 : Int) ≤ (A 18 0) ∧ (A 18 0) ≤ 3 := hI.b18 0
      refine lv_iconst (v := iv 2) hx hb dX6_write_53 rfl ?_
      refine m_icmp_ne (tgt := 72) hx hb dX6_write_54 (by decide) (by omega) (by omega) (fun c54 => ?_) (fun c54 => ?_)
      · refine m_aload_n hx hb hL dX6_write_72 rfl ?_
        refine r_geta hC X hR FX6_32 rfl rfl dX6_write_73 ?_
        refine lv_bipush (v := iv 21) hx hb dX6_write_76 (by decide +kernel) ?_
        refine m_iload hx hb hL dX6_write_78 rfl ?_
        refine m_imul hx hb dX6_write_80 ?_
        refine m_iload_n hx hb hL dX6_write_81 rfl ?_
        refine m_iadd hx hb dX6_write_82 ?_
        refine m_aload_n hx hb hL dX6_write_83 rfl ?_
        refine r_geta hC X hR FX6_41 rfl rfl dX6_write_84 ?_
        refine m_iload_n hx hb hL dX6_write_87 rfl ?_
        refine r_iald (x := y) (w := (A 14 (y : Int).toNat)) hC X hR 14 rfl rfl (by omega) (by change _ < ((10 : Nat) : Int); omega) rfl dX6_write_88 ?_
        have q5 : (-1 : Int) ≤ (A 14 (y : Int).toNat) ∧ (A 14 (y : Int).toNat) ≤ 619 := hI.b14 (y : Int).toNat
        refine r_iast (x := ((21 * (A 14 (x : Int).toNat)) + i)) (v := (A 14 (y : Int).toNat)) hC X hR 11 rfl rfl (by omega) (by change _ < ((13020 : Nat) : Int); omega) dX6_write_89 (fun H locs X hR => ?_)
        have hf := hf.a 11 (((21 * (A 14 (x : Int).toNat)) + i) : Int).toNat (iv (A 14 (y : Int).toNat))
        have hI := hI.u11 (((21 * (A 14 (x : Int).toNat)) + i) : Int).toNat (v := (A 14 (y : Int).toNat)) ⟨by omega, by omega⟩
        refine m_aload_n hx hb hL dX6_write_90 rfl ?_
        refine m_iload hx hb hL dX6_write_91 rfl ?_
        refine r_call hC X hR hf (k_X6_tagOf (x := (A 11 (((21 * (A 14 (x : Int).toNat)) + i) : Int).toNat)) hR hI (by omega)) VX6_134 rfl ⟨by decide, by decide⟩ ⟨by decide, by decide⟩ hL.1 rfl (Nat.le_of_ble_eq_true rfl) dX6_write_93 (fun μ H locs X hR hf => ?_)
        exact r_iret hC X hR hf hr hlk (by first | (exfalso; omega) | (unfold rWrite; (first | rw [if_pos (by omega)] | rw [if_neg (by omega)]); (try (unfold rPrep; rw [show (up A 0 0 0) 18 0 = A 18 0 from rfl]; (try (first | rw [if_pos (by omega)] | rw [if_neg (by omega)])); (try (first | rw [if_pos (by omega)] | rw [if_neg (by omega)])))))) (by first | (exfalso; omega) | (unfold rWriteV; (first | rw [if_pos (by omega)] | rw [if_neg (by omega)]); (try simp [rTagOf_u, rTagOf_see, rTagOf_carry]))) dX6_write_96
      · refine m_aload_n hx hb hL dX6_write_57 rfl ?_
        refine m_iload hx hb hL dX6_write_58 rfl ?_
        refine r_call hC X hR hf (k_X6_isToMove (x := (A 14 (x : Int).toNat)) hR hI (by omega)) VX6_86 rfl ⟨by decide, by decide⟩ ⟨by decide, by decide⟩ hL.1 rfl (Nat.le_of_ble_eq_true rfl) dX6_write_60 (fun μ H locs X hR hf => ?_)
        have hq60 := rToMove_b (up A 0 0 0) ((A 14 (x : Int).toNat))
        refine m_if_eq (tgt := 72) hx hb dX6_write_63 (by decide) (by omega) (fun c63 => ?_) (fun c63 => ?_)
        · refine m_aload_n hx hb hL dX6_write_72 rfl ?_
          refine r_geta hC X hR FX6_32 rfl rfl dX6_write_73 ?_
          refine lv_bipush (v := iv 21) hx hb dX6_write_76 (by decide +kernel) ?_
          refine m_iload hx hb hL dX6_write_78 rfl ?_
          refine m_imul hx hb dX6_write_80 ?_
          refine m_iload_n hx hb hL dX6_write_81 rfl ?_
          refine m_iadd hx hb dX6_write_82 ?_
          refine m_aload_n hx hb hL dX6_write_83 rfl ?_
          refine r_geta hC X hR FX6_41 rfl rfl dX6_write_84 ?_
          refine m_iload_n hx hb hL dX6_write_87 rfl ?_
          refine r_iald (x := y) (w := (A 14 (y : Int).toNat)) hC X hR 14 rfl rfl (by omega) (by change _ < ((10 : Nat) : Int); omega) rfl dX6_write_88 ?_
          have q6 : (-1 : Int) ≤ (A 14 (y : Int).toNat) ∧ (A 14 (y : Int).toNat) ≤ 619 := hI.b14 (y : Int).toNat
          refine r_iast (x := ((21 * (A 14 (x : Int).toNat)) + i)) (v := (A 14 (y : Int).toNat)) hC X hR 11 rfl rfl (by omega) (by change _ < ((13020 : Nat) : Int); omega) dX6_write_89 (fun H locs X hR => ?_)
          have hf := hf.a 11 (((21 * (A 14 (x : Int).toNat)) + i) : Int).toNat (iv (A 14 (y : Int).toNat))
          have hI := hI.u11 (((21 * (A 14 (x : Int).toNat)) + i) : Int).toNat (v := (A 14 (y : Int).toNat)) ⟨by omega, by omega⟩
          refine m_aload_n hx hb hL dX6_write_90 rfl ?_
          refine m_iload hx hb hL dX6_write_91 rfl ?_
          refine r_call hC X hR hf (k_X6_tagOf (x := (A 11 (((21 * (A 14 (x : Int).toNat)) + i) : Int).toNat)) hR hI (by omega)) VX6_134 rfl ⟨by decide, by decide⟩ ⟨by decide, by decide⟩ hL.1 rfl (Nat.le_of_ble_eq_true rfl) dX6_write_93 (fun μ H locs X hR hf => ?_)
          exact r_iret hC X hR hf hr hlk (by first | (exfalso; omega) | (unfold rWrite; (first | rw [if_pos (by omega)] | rw [if_neg (by omega)]); (try (unfold rPrep; rw [show (up A 0 0 0) 18 0 = A 18 0 from rfl]; (try (first | rw [if_pos (by omega)] | rw [if_neg (by omega)])); (try (first | rw [if_pos (by omega)] | rw [if_neg (by omega)])))))) (by first | (exfalso; omega) | (unfold rWriteV; (first | rw [if_pos (by omega)] | rw [if_neg (by omega)]); (try simp [rTagOf_u, rTagOf_see, rTagOf_carry]))) dX6_write_96
        · refine m_aload_n hx hb hL dX6_write_66 rfl ?_
          refine m_iload hx hb hL dX6_write_67 rfl ?_
          refine r_call hC X hR hf (k_X6_carry (x := (A 14 (x : Int).toNat)) hR hI (by omega)) VX6_93 rfl ⟨by decide, by decide⟩ ⟨by decide, by decide⟩ hL.1 rfl (Nat.le_of_ble_eq_true rfl) dX6_write_69 (fun μ H locs X hR hf => ?_)
          have hI := rCarry_I hI (o := (A 14 (x : Int).toNat))
          refine m_aload_n hx hb hL dX6_write_72 rfl ?_
          refine r_geta hC X hR FX6_32 rfl rfl dX6_write_73 ?_
          refine lv_bipush (v := iv 21) hx hb dX6_write_76 (by decide +kernel) ?_
          refine m_iload hx hb hL dX6_write_78 rfl ?_
          refine m_imul hx hb dX6_write_80 ?_
          refine m_iload_n hx hb hL dX6_write_81 rfl ?_
          refine m_iadd hx hb dX6_write_82 ?_
          refine m_aload_n hx hb hL dX6_write_83 rfl ?_
          refine r_geta hC X hR FX6_41 rfl rfl dX6_write_84 ?_
          refine m_iload_n hx hb hL dX6_write_87 rfl ?_
          refine r_iald (x := y) (w := (A 14 (y : Int).toNat)) hC X hR 14 rfl rfl (by omega) (by change _ < ((10 : Nat) : Int); omega) (rCarry_k (by decide) (by decide) (by decide) (by decide) (by decide) (by decide) (by decide) (by decide)) dX6_write_88 ?_
          have q7 : (-1 : Int) ≤ (A 14 (y : Int).toNat) ∧ (A 14 (y : Int).toNat) ≤ 619 := by have hz := hI.b14 (y : Int).toNat; have he : (rCarry (up A 0 0 0) (A 14 (x : Int).toNat)) 14 (y : Int).toNat = (A 14 (y : Int).toNat) := (rCarry_k (by decide) (by decide) (by decide) (by decide) (by decide) (by decide) (by decide) (by decide)); rw [he] at hz; exact hz
          refine r_iast (x := ((21 * (A 14 (x : Int).toNat)) + i)) (v := (A 14 (y : Int).toNat)) hC X hR 11 rfl rfl (by omega) (by change _ < ((13020 : Nat) : Int); omega) dX6_write_89 (fun H locs X hR => ?_)
          have hf := hf.a 11 (((21 * (A 14 (x : Int).toNat)) + i) : Int).toNat (iv (A 14 (y : Int).toNat))
          have hI := hI.u11 (((21 * (A 14 (x : Int).toNat)) + i) : Int).toNat (v := (A 14 (y : Int).toNat)) ⟨by omega, by omega⟩
          refine m_aload_n hx hb hL dX6_write_90 rfl ?_
          refine m_iload hx hb hL dX6_write_91 rfl ?_
          refine r_call hC X hR hf (k_X6_tagOf (x := (A 11 (((21 * (A 14 (x : Int).toNat)) + i) : Int).toNat)) hR hI (by omega)) VX6_134 rfl ⟨by decide, by decide⟩ ⟨by decide, by decide⟩ hL.1 rfl (Nat.le_of_ble_eq_true rfl) dX6_write_93 (fun μ H locs X hR hf => ?_)
          exact r_iret hC X hR hf hr hlk (by first | (exfalso; omega) | (unfold rWrite; (first | rw [if_pos (by omega)] | rw [if_neg (by omega)]); (try (unfold rPrep; rw [show (up A 0 0 0) 18 0 = A 18 0 from rfl]; (try (first | rw [if_pos (by omega)] | rw [if_neg (by omega)])); (try (first | rw [if_pos (by omega)] | rw [if_neg (by omega)])))))) (by first | (exfalso; omega) | (unfold rWriteV; (first | rw [if_pos (by omega)] | rw [if_neg (by omega)]); (try simp [rTagOf_u, rTagOf_see, rTagOf_carry]))) dX6_write_96
    · refine m_aload_n hx hb hL dX6_write_43 rfl ?_
      refine m_iload hx hb hL dX6_write_44 rfl ?_
      refine r_call hC X hR hf (k_X6_see (x := (A 11 (((21 * (A 14 (x : Int).toNat)) + i) : Int).toNat)) hR hI (by omega) (fun _ _ => h17)) VX6_66 rfl ⟨by decide, by decide⟩ ⟨by decide, by decide⟩ hL.1 rfl (Nat.le_of_ble_eq_true rfl) dX6_write_46 (fun μ H locs X hR hf => ?_)
      have hI := rSee_I hI (x := (A 11 (((21 * (A 14 (x : Int).toNat)) + i) : Int).toNat)) (by omega) h17
      refine m_aload_n hx hb hL dX6_write_49 rfl ?_
      refine r_gets (w := (A 18 0)) hC X hR FX6_70 rfl rfl (rSee_k (by decide) (by decide) (by decide)) dX6_write_50 ?_
      have q8 : (0 : Int) ≤ (A 18 0) ∧ (A 18 0) ≤ 3 := by have hz := hI.b18 0; have he : (rSee (up A 0 0 0) (A 11 (((21 * (A 14 (x : Int).toNat)) + i) : Int).toNat)) 18 0 = (A 18 0) := (rSee_k (by decide) (by decide) (by decide)); rw [he] at hz; exact hz
      refine lv_iconst (v := iv 2) hx hb dX6_write_53 rfl ?_
      refine m_icmp_ne (tgt := 72) hx hb dX6_write_54 (by decide) (by omega) (by omega) (fun c54 => ?_) (fun c54 => ?_)
      · refine m_aload_n hx hb hL dX6_write_72 rfl ?_
        refine r_geta hC X hR FX6_32 rfl rfl dX6_write_73 ?_
        refine lv_bipush (v := iv 21) hx hb dX6_write_76 (by decide +kernel) ?_
        refine m_iload hx hb hL dX6_write_78 rfl ?_
        refine m_imul hx hb dX6_write_80 ?_
        refine m_iload_n hx hb hL dX6_write_81 rfl ?_
        refine m_iadd hx hb dX6_write_82 ?_
        refine m_aload_n hx hb hL dX6_write_83 rfl ?_
        refine r_geta hC X hR FX6_41 rfl rfl dX6_write_84 ?_
        refine m_iload_n hx hb hL dX6_write_87 rfl ?_
        refine r_iald (x := y) (w := (A 14 (y : Int).toNat)) hC X hR 14 rfl rfl (by omega) (by change _ < ((10 : Nat) : Int); omega) (rSee_k (by decide) (by decide) (by decide)) dX6_write_88 ?_
        have q9 : (-1 : Int) ≤ (A 14 (y : Int).toNat) ∧ (A 14 (y : Int).toNat) ≤ 619 := by have hz := hI.b14 (y : Int).toNat; have he : (rSee (up A 0 0 0) (A 11 (((21 * (A 14 (x : Int).toNat)) + i) : Int).toNat)) 14 (y : Int).toNat = (A 14 (y : Int).toNat) := (rSee_k (by decide) (by decide) (by decide)); rw [he] at hz; exact hz
        refine r_iast (x := ((21 * (A 14 (x : Int).toNat)) + i)) (v := (A 14 (y : Int).toNat)) hC X hR 11 rfl rfl (by omega) (by change _ < ((13020 : Nat) : Int); omega) dX6_write_89 (fun H locs X hR => ?_)
        have hf := hf.a 11 (((21 * (A 14 (x : Int).toNat)) + i) : Int).toNat (iv (A 14 (y : Int).toNat))
        have hI := hI.u11 (((21 * (A 14 (x : Int).toNat)) + i) : Int).toNat (v := (A 14 (y : Int).toNat)) ⟨by omega, by omega⟩
        refine m_aload_n hx hb hL dX6_write_90 rfl ?_
        refine m_iload hx hb hL dX6_write_91 rfl ?_
        refine r_call hC X hR hf (k_X6_tagOf (x := (A 11 (((21 * (A 14 (x : Int).toNat)) + i) : Int).toNat)) hR hI (by omega)) VX6_134 rfl ⟨by decide, by decide⟩ ⟨by decide, by decide⟩ hL.1 rfl (Nat.le_of_ble_eq_true rfl) dX6_write_93 (fun μ H locs X hR hf => ?_)
        exact r_iret hC X hR hf hr hlk (by first | (exfalso; omega) | (unfold rWrite; (first | rw [if_pos (by omega)] | rw [if_neg (by omega)]); (try (unfold rPrep; rw [show (up A 0 0 0) 18 0 = A 18 0 from rfl]; (try (first | rw [if_pos (by omega)] | rw [if_neg (by omega)])); (try (first | rw [if_pos (by omega)] | rw [if_neg (by omega)])))))) (by first | (exfalso; omega) | (unfold rWriteV; (first | rw [if_pos (by omega)] | rw [if_neg (by omega)]); (try simp [rTagOf_u, rTagOf_see, rTagOf_carry]))) dX6_write_96
      · refine m_aload_n hx hb hL dX6_write_57 rfl ?_
        refine m_iload hx hb hL dX6_write_58 rfl ?_
        refine r_call hC X hR hf (k_X6_isToMove (x := (A 14 (x : Int).toNat)) hR hI (by omega)) VX6_86 rfl ⟨by decide, by decide⟩ ⟨by decide, by decide⟩ hL.1 rfl (Nat.le_of_ble_eq_true rfl) dX6_write_60 (fun μ H locs X hR hf => ?_)
        have hq60 := rToMove_b (rSee (up A 0 0 0) (A 11 (((21 * (A 14 (x : Int).toNat)) + i) : Int).toNat)) ((A 14 (x : Int).toNat))
        refine m_if_eq (tgt := 72) hx hb dX6_write_63 (by decide) (by omega) (fun c63 => ?_) (fun c63 => ?_)
        · refine m_aload_n hx hb hL dX6_write_72 rfl ?_
          refine r_geta hC X hR FX6_32 rfl rfl dX6_write_73 ?_
          refine lv_bipush (v := iv 21) hx hb dX6_write_76 (by decide +kernel) ?_
          refine m_iload hx hb hL dX6_write_78 rfl ?_
          refine m_imul hx hb dX6_write_80 ?_
          refine m_iload_n hx hb hL dX6_write_81 rfl ?_
          refine m_iadd hx hb dX6_write_82 ?_
          refine m_aload_n hx hb hL dX6_write_83 rfl ?_
          refine r_geta hC X hR FX6_41 rfl rfl dX6_write_84 ?_
          refine m_iload_n hx hb hL dX6_write_87 rfl ?_
          refine r_iald (x := y) (w := (A 14 (y : Int).toNat)) hC X hR 14 rfl rfl (by omega) (by change _ < ((10 : Nat) : Int); omega) (rSee_k (by decide) (by decide) (by decide)) dX6_write_88 ?_
          have q10 : (-1 : Int) ≤ (A 14 (y : Int).toNat) ∧ (A 14 (y : Int).toNat) ≤ 619 := by have hz := hI.b14 (y : Int).toNat; have he : (rSee (up A 0 0 0) (A 11 (((21 * (A 14 (x : Int).toNat)) + i) : Int).toNat)) 14 (y : Int).toNat = (A 14 (y : Int).toNat) := (rSee_k (by decide) (by decide) (by decide)); rw [he] at hz; exact hz
          refine r_iast (x := ((21 * (A 14 (x : Int).toNat)) + i)) (v := (A 14 (y : Int).toNat)) hC X hR 11 rfl rfl (by omega) (by change _ < ((13020 : Nat) : Int); omega) dX6_write_89 (fun H locs X hR => ?_)
          have hf := hf.a 11 (((21 * (A 14 (x : Int).toNat)) + i) : Int).toNat (iv (A 14 (y : Int).toNat))
          have hI := hI.u11 (((21 * (A 14 (x : Int).toNat)) + i) : Int).toNat (v := (A 14 (y : Int).toNat)) ⟨by omega, by omega⟩
          refine m_aload_n hx hb hL dX6_write_90 rfl ?_
          refine m_iload hx hb hL dX6_write_91 rfl ?_
          refine r_call hC X hR hf (k_X6_tagOf (x := (A 11 (((21 * (A 14 (x : Int).toNat)) + i) : Int).toNat)) hR hI (by omega)) VX6_134 rfl ⟨by decide, by decide⟩ ⟨by decide, by decide⟩ hL.1 rfl (Nat.le_of_ble_eq_true rfl) dX6_write_93 (fun μ H locs X hR hf => ?_)
          exact r_iret hC X hR hf hr hlk (by first | (exfalso; omega) | (unfold rWrite; (first | rw [if_pos (by omega)] | rw [if_neg (by omega)]); (try (unfold rPrep; rw [show (up A 0 0 0) 18 0 = A 18 0 from rfl]; (try (first | rw [if_pos (by omega)] | rw [if_neg (by omega)])); (try (first | rw [if_pos (by omega)] | rw [if_neg (by omega)])))))) (by first | (exfalso; omega) | (unfold rWriteV; (first | rw [if_pos (by omega)] | rw [if_neg (by omega)]); (try simp [rTagOf_u, rTagOf_see, rTagOf_carry]))) dX6_write_96
        · refine m_aload_n hx hb hL dX6_write_66 rfl ?_
          refine m_iload hx hb hL dX6_write_67 rfl ?_
          refine r_call hC X hR hf (k_X6_carry (x := (A 14 (x : Int).toNat)) hR hI (by omega)) VX6_93 rfl ⟨by decide, by decide⟩ ⟨by decide, by decide⟩ hL.1 rfl (Nat.le_of_ble_eq_true rfl) dX6_write_69 (fun μ H locs X hR hf => ?_)
          have hI := rCarry_I hI (o := (A 14 (x : Int).toNat))
          refine m_aload_n hx hb hL dX6_write_72 rfl ?_
          refine r_geta hC X hR FX6_32 rfl rfl dX6_write_73 ?_
          refine lv_bipush (v := iv 21) hx hb dX6_write_76 (by decide +kernel) ?_
          refine m_iload hx hb hL dX6_write_78 rfl ?_
          refine m_imul hx hb dX6_write_80 ?_
          refine m_iload_n hx hb hL dX6_write_81 rfl ?_
          refine m_iadd hx hb dX6_write_82 ?_
          refine m_aload_n hx hb hL dX6_write_83 rfl ?_
          refine r_geta hC X hR FX6_41 rfl rfl dX6_write_84 ?_
          refine m_iload_n hx hb hL dX6_write_87 rfl ?_
          refine r_iald (x := y) (w := (A 14 (y : Int).toNat)) hC X hR 14 rfl rfl (by omega) (by change _ < ((10 : Nat) : Int); omega) (Eq.trans (rCarry_k (by decide) (by decide) (by decide) (by decide) (by decide) (by decide) (by decide) (by decide)) (rSee_k (by decide) (by decide) (by decide))) dX6_write_88 ?_
          have q11 : (-1 : Int) ≤ (A 14 (y : Int).toNat) ∧ (A 14 (y : Int).toNat) ≤ 619 := by have hz := hI.b14 (y : Int).toNat; have he : (rCarry (rSee (up A 0 0 0) (A 11 (((21 * (A 14 (x : Int).toNat)) + i) : Int).toNat)) (A 14 (x : Int).toNat)) 14 (y : Int).toNat = (A 14 (y : Int).toNat) := (Eq.trans (rCarry_k (by decide) (by decide) (by decide) (by decide) (by decide) (by decide) (by decide) (by decide)) (rSee_k (by decide) (by decide) (by decide))); rw [he] at hz; exact hz
          refine r_iast (x := ((21 * (A 14 (x : Int).toNat)) + i)) (v := (A 14 (y : Int).toNat)) hC X hR 11 rfl rfl (by omega) (by change _ < ((13020 : Nat) : Int); omega) dX6_write_89 (fun H locs X hR => ?_)
          have hf := hf.a 11 (((21 * (A 14 (x : Int).toNat)) + i) : Int).toNat (iv (A 14 (y : Int).toNat))
          have hI := hI.u11 (((21 * (A 14 (x : Int).toNat)) + i) : Int).toNat (v := (A 14 (y : Int).toNat)) ⟨by omega, by omega⟩
          refine m_aload_n hx hb hL dX6_write_90 rfl ?_
          refine m_iload hx hb hL dX6_write_91 rfl ?_
          refine r_call hC X hR hf (k_X6_tagOf (x := (A 11 (((21 * (A 14 (x : Int).toNat)) + i) : Int).toNat)) hR hI (by omega)) VX6_134 rfl ⟨by decide, by decide⟩ ⟨by decide, by decide⟩ hL.1 rfl (Nat.le_of_ble_eq_true rfl) dX6_write_93 (fun μ H locs X hR hf => ?_)
          exact r_iret hC X hR hf hr hlk (by first | (exfalso; omega) | (unfold rWrite; (first | rw [if_pos (by omega)] | rw [if_neg (by omega)]); (try (unfold rPrep; rw [show (up A 0 0 0) 18 0 = A 18 0 from rfl]; (try (first | rw [if_pos (by omega)] | rw [if_neg (by omega)])); (try (first | rw [if_pos (by omega)] | rw [if_neg (by omega)])))))) (by first | (exfalso; omega) | (unfold rWriteV; (first | rw [if_pos (by omega)] | rw [if_neg (by omega)]); (try simp [rTagOf_u, rTagOf_see, rTagOf_carry]))) dX6_write_96
  · rw [bZ_f g5]
    refine m_if_ne (tgt := 13) hx hb dX6_write_8 (by decide) (by omega) (fun c8 => absurd c8 (by omega)) (fun c8 => ?_)
    refine lv_iconst (v := iv 0) hx hb dX6_write_11 rfl ?_
    exact r_iret hC X hR hf hr hlk (by first | (exfalso; omega) | (unfold rWrite; (first | rw [if_pos (by omega)] | rw [if_neg (by omega)]); (try (unfold rPrep; rw [show (up A 0 0 0) 18 0 = A 18 0 from rfl]; (try (first | rw [if_pos (by omega)] | rw [if_neg (by omega)])); (try (first | rw [if_pos (by omega)] | rw [if_neg (by omega)])))))) (by first | (exfalso; omega) | (unfold rWriteV; (first | rw [if_pos (by omega)] | rw [if_neg (by omega)]); (try simp [rTagOf_u, rTagOf_see, rTagOf_carry]))) dX6_write_12
end
section
/-! the invariant of the reference's state -/
def nn (A : rS) : Nat := (A 6 0).toNat
theorem pig : ∀ (n m : Nat) (f : Nat → Nat), (∀ i, i < m → f i < n) → (∀ i j, i < m → j < m → f i = f j → i = j) → m ≤ n := by
  intro n
  induction n with
  | zero =>
    intro m f h _
    cases m with
    | zero => omega
    | succ m => exact absurd (h 0 (by omega)) (by omega)
  | succ n ih =>
    intro m f h hj
    cases m with
    | zero => omega
    | succ m =>
      have h1 : m ≤ n := by
        refine ih m (fun i => if f i = n then f m else f i) (fun i hi => ?_) (fun i j hi hjm e => ?_)
        · show (if f i = n then f m else f i) < n
          have h2 := h m (by omega)
          have h3 := h i (by omega)
          split
          · rename_i e
            have : f m ≠ n := fun q => by
              have := hj i m (by omega) (by omega) (by omega)
              omega
            omega
          · omega
        · have e : (if f i = n then f m else f i) = (if f j = n then f m else f j) := e
          split at e <;> split at e
          · exact hj i j (by omega) (by omega) (by omega)
          · have := hj m j (by omega) (by omega) e
            omega
          · have := hj i m (by omega) (by omega) e
            omega
          · exact hj i j (by omega) (by omega) e
      omega
/-- the numbers in the arrays name objects and regions -/
def Vd (A : rS) : Prop := RI A ∧ (∀ o, o < nn A → 2 ≤ A 9 o ∧ A 7 o < A 1 0) ∧ (∀ o i : Nat, o < nn A → (i : Int) < A 9 o - 2 → A 11 (21 * o + i) < A 6 0) ∧ (∀ k : Nat, k < 10 → A 14 k < A 6 0) ∧ A 6 0 ≤ 512
/-- the row of those that wait -/
def Rw (A : rS) : Prop := A 16 0 ≤ A 17 0 ∧ (∀ i : Nat, (i : Int) < A 17 0 → A 15 i < A 6 0 ∧ A 12 (A 15 i).toNat = 1) ∧ (∀ i j : Nat, (i : Int) < A 17 0 → (j : Int) < A 17 0 → A 15 i = A 15 j → i = j)
theorem Rw.le {A : rS} (h : Rw A) (hV : Vd A) : A 17 0 ≤ A 6 0 := by
  have h6 := hV.1.b6 0
  have h17 := hV.1.b17 0
  have h1 := pig (nn A) (A 17 0).toNat (fun i => (A 15 i).toNat) (fun i hi => by
    have := (h.2.1 i (by omega)).1
    have := hV.1.b15 i
    show (A 15 i).toNat < (A 6 0).toNat
    omega) (fun i j hi hj e => h.2.2 i j (by omega) (by omega) (by
      have := hV.1.b15 i
      have := hV.1.b15 j
      have e : (A 15 i).toNat = (A 15 j).toNat := e
      omega))
  unfold nn at h1
  omega
/-- the regions -/
def Sg (A : rS) : Prop := (∀ r : Nat, A 3 r = 0 → A 4 r = 0) ∧ (∀ r q : Nat, (r : Int) < A 1 0 → (q : Int) < A 1 0 → A 3 r = 1 → A 3 q = 1 → r = q) ∧ (∀ r q : Nat, (r : Int) < A 1 0 → (q : Int) < A 1 0 → A 3 r = 2 → A 3 q = 2 → r = q)
/-- the phases -/
def Ph (A : rS) : Prop := (A 18 0 ≠ 1 → A 16 0 = A 17 0) ∧ (A 18 0 = 3 → A 19 0 < A 1 0) ∧ (A 18 0 ≤ 1 → ∀ r : Nat, (r : Int) < A 1 0 → A 3 r ≠ 2 ∧ A 3 r ≠ 4) ∧ (A 18 0 = 1 → ∀ o, o < nn A → A 13 o = 0)
  ∧ (2 ≤ A 18 0 → ∀ o, o < nn A → A 13 o = 1 → A 3 (A 7 o).toNat = 4 → A 5 (A 7 o).toNat = 1) ∧ (A 18 0 = 3 → ∀ o, o < nn A → A 12 o = 1 → A 3 (A 7 o).toNat = 4 → A 13 o = 1)
/-- the objects that stand in a region -/
def Pl (A : rS) (P : Nat → Prop) : Prop := (∀ o, P o → o < nn A ∧ A 3 (A 7 o).toNat ≠ 0 ∧ A 8 o + A 9 o ≤ A 4 (A 7 o).toNat) ∧ (∀ o, o < nn A → A 12 o = 1 → P o) ∧ (∀ o q, P o → P q → A 7 o = A 7 q → A 8 o = A 8 q → o = q)
/-- the good objects -/
def Gd (A : rS) (P G : Nat → Prop) : Prop := (∀ o, G o → P o) ∧ (∀ k : Nat, k < 10 → 0 ≤ A 14 k → G (A 14 k).toNat) ∧ (∀ o i : Nat, G o → (i : Int) < A 9 o - 2 → 0 ≤ A 11 (21 * o + i) → G (A 11 (21 * o + i)).toNat)
def gry (A : rS) (x : Nat) : Prop := ∃ i : Nat, A 16 0 ≤ i ∧ (i : Int) < A 17 0 ∧ A 15 i = x
def clo (A : rS) (T : Nat → Prop) : Prop := ∀ x, T x → (A 12 x = 0 ∨ gry A x) → ∀ i : Nat, (i : Int) < A 9 x - 2 → 0 ≤ A 11 (21 * x + i) → T (A 11 (21 * x + i)).toNat
def RG (A : rS) (E : Nat → Prop) (o : Nat) : Prop := ∀ T : Nat → Prop, (∀ x, gry A x → T x) → (∀ x, E x → T x) → clo A T → T o
def TC (A : rS) (G E : Nat → Prop) : Prop := ∀ o, G o → A 12 o = 1 ∨ RG A E o
def Tr (A : rS) (G : Nat → Prop) : Prop := (A 18 0 = 1 → (∀ o, o < nn A → A 12 o = 1 → G o) ∧ TC A G (fun _ => False)) ∧ (2 ≤ A 18 0 → ∀ o, G o → A 12 o = 1)
def KK (A : rS) (P G : Nat → Prop) : Prop := Vd A ∧ Rw A ∧ Sg A ∧ Ph A ∧ Pl A P ∧ Gd A P G ∧ Tr A G
/-! seeing an object -/
theorem rSee_e {A : rS} {x : Int} (h : x ≠ -1) (h12 : A 12 x.toNat = 0) : rSee A x = up (up (up A 12 x.toNat 1) 15 (A 17 0).toNat x) 17 0 (A 17 0 + 1) := by unfold rSee; rw [if_neg h, if_pos h12]
theorem rSee_n {A : rS} {x : Int} (h : x = -1 ∨ A 12 x.toNat ≠ 0) : rSee A x = A := by
  unfold rSee
  rcases h with h | h
  · rw [if_pos h]
  · rw [if_neg h]; split <;> rfl
/-- the two ways of rSee -/
theorem rSee_c {A : rS} (x : Int) : (x ≠ -1 ∧ A 12 x.toNat = 0) ∨ (x = -1 ∨ A 12 x.toNat ≠ 0) := by
  by_cases h : x = -1
  · exact Or.inr (Or.inl h)
  · by_cases h' : A 12 x.toNat = 0
    · exact Or.inl ⟨h, h'⟩
    · exact Or.inr (Or.inr h')
theorem see12 {A : rS} {x : Int} (h : x ≠ -1) (h12 : A 12 x.toNat = 0) (o : Nat) : rSee A x 12 o = if o = x.toNat then 1 else A 12 o := by
  rw [rSee_e h h12, up_k _ _ (by decide), up_k _ _ (by decide)]
  simp [up]
theorem see15 {A : rS} {x : Int} (h : x ≠ -1) (h12 : A 12 x.toNat = 0) (i : Nat) : rSee A x 15 i = if i = (A 17 0).toNat then x else A 15 i := by
  rw [rSee_e h h12, up_k _ _ (by decide)]
  simp [up]
theorem see17 {A : rS} {x : Int} (h : x ≠ -1) (h12 : A 12 x.toNat = 0) : rSee A x 17 0 = A 17 0 + 1 := by
  rw [rSee_e h h12, up_s]
theorem see_k {A : rS} {x : Int} (k i : Nat) (h1 : k ≠ 12) (h2 : k ≠ 15) (h3 : k ≠ 17) : rSee A x k i = A k i := rSee_k h1 h2 h3
theorem see_nn {A : rS} {x : Int} : nn (rSee A x) = nn A := by unfold nn; rw [see_k 6 0 (by decide) (by decide) (by decide)]
theorem see_mono {A : rS} {x : Int} {o : Nat} (h : A 12 o = 1) : rSee A x 12 o = 1 := by
  rcases rSee_c (A := A) x with ⟨h1, h2⟩ | h1
  · rw [see12 h1 h2]; split <;> first | rfl | exact h
  · rw [rSee_n h1]; exact h
theorem see_it {A : rS} (hI : RI A) {x : Int} (h : x ≠ -1) : rSee A x 12 x.toNat = 1 := by
  rcases rSee_c (A := A) x with ⟨h1, h2⟩ | h1
  · rw [see12 h1 h2, if_pos rfl]
  · rw [rSee_n h1]
    have := hI.b12 x.toNat
    rcases h1 with h1 | h1
    · exact absurd h1 h
    · omega
theorem see_Vd {A : rS} {x : Int} (hV : Vd A) (hR : Rw A) (hx : -1 ≤ x ∧ x < A 6 0) : Vd (rSee A x) := by
  have h6 := hV.1.b6 0
  have hle := hR.le hV
  have h5 := hV.2.2.2.2
  refine ⟨rSee_I hV.1 (by omega) (by omega), ?_, ?_, ?_, ?_⟩
  · intro o ho
    rw [see_nn] at ho
    rw [see_k 9 o (by decide) (by decide) (by decide), see_k 7 o (by decide) (by decide) (by decide), see_k 1 0 (by decide) (by decide) (by decide)]
    exact hV.2.1 o ho
  · intro o i ho hi
    rw [see_nn] at ho
    rw [see_k 9 o (by decide) (by decide) (by decide)] at hi
    rw [see_k 11 _ (by decide) (by decide) (by decide), see_k 6 0 (by decide) (by decide) (by decide)]
    exact hV.2.2.1 o i ho hi
  · intro k hk
    rw [see_k 14 _ (by decide) (by decide) (by decide), see_k 6 0 (by decide) (by decide) (by decide)]
    exact hV.2.2.2.1 k hk
  · rw [see_k 6 0 (by decide) (by decide) (by decide)]; exact h5
theorem see_Rw {A : rS} {x : Int} (hV : Vd A) (hR : Rw A) (hx : -1 ≤ x ∧ x < A 6 0) : Rw (rSee A x) := by
  rcases rSee_c (A := A) x with ⟨h1, h2⟩ | h1
  · have h17 := hV.1.b17 0
    refine ⟨?_, ?_, ?_⟩
    · rw [see17 h1 h2, see_k 16 0 (by decide) (by decide) (by decide)]
      have := hR.1
      omega
    · intro i hi
      rw [see17 h1 h2] at hi
      rw [see15 h1 h2, see_k 6 0 (by decide) (by decide) (by decide)]
      split
      · exact ⟨hx.2, see_it hV.1 h1⟩
      · have := hR.2.1 i (by omega)
        exact ⟨this.1, see_mono this.2⟩
    · intro i j hi hj
      rw [see17 h1 h2] at hi hj
      rw [see15 h1 h2, see15 h1 h2]
      have key : ∀ i : Nat, (i : Int) < A 17 0 → A 15 i ≠ x := fun i hi e => by
        have := (hR.2.1 i hi).2
        rw [e, h2] at this
        omega
      split <;> split
      · omega
      · intro e; exact absurd e.symm (key j (by omega))
      · intro e; exact absurd e (key i (by omega))
      · exact hR.2.2 i j (by omega) (by omega)
  · rw [rSee_n h1]; exact hR
theorem see_gry {A : rS} (hI : RI A) {x : Int} (h : x ≠ -1) (h12 : A 12 x.toNat = 0) (hx : 0 ≤ x) (h16 : A 16 0 ≤ A 17 0) (y : Nat) : gry (rSee A x) y ↔ gry A y ∨ y = x.toNat := by
  have h17 := hI.b17 0
  unfold gry
  rw [see17 h h12, see_k 16 0 (by decide) (by decide) (by decide)]
  constructor
  · rintro ⟨i, i1, i2, i3⟩
    rw [see15 h h12] at i3
    split at i3
    · right; omega
    · left; exact ⟨i, i1, by omega, i3⟩
  · rintro (⟨i, i1, i2, i3⟩ | rfl)
    · refine ⟨i, i1, by omega, ?_⟩
      rw [see15 h h12, if_neg (by omega)]
      exact i3
    · refine ⟨(A 17 0).toNat, by omega, by omega, ?_⟩
      rw [see15 h h12, if_pos rfl]
      omega
theorem see_TC {A : rS} (hI : RI A) {x : Int} {G E : Nat → Prop} (hx : 0 ≤ x) (h16 : A 16 0 ≤ A 17 0) (h : TC A G (fun y => E y ∨ y = x.toNat)) : TC (rSee A x) G E := by
  have hx1 : x ≠ -1 := by omega
  rcases rSee_c (A := A) x with ⟨h1, h2⟩ | h1
  · intro o ho
    rcases h o ho with h3 | h3
    · exact Or.inl (see_mono h3)
    · right
      intro T t1 t2 t3
      refine h3 T (fun y hy => t1 y ((see_gry hI h1 h2 hx h16 y).mpr (Or.inl hy))) (fun y hy => ?_) (fun y hy hn i hi hf => ?_)
      · rcases hy with hy | rfl
        · exact t2 y hy
        · exact t1 _ ((see_gry hI h1 h2 hx h16 _).mpr (Or.inr rfl))
      · have t4 := t3 y hy (by
          rcases hn with hn | hn
          · by_cases e : y = x.toNat
            · exact Or.inr ((see_gry hI h1 h2 hx h16 y).mpr (Or.inr e))
            · left
              rw [see12 h1 h2, if_neg e]
              exact hn
          · exact Or.inr ((see_gry hI h1 h2 hx h16 y).mpr (Or.inl hn))) i
        rw [see_k 9 y (by decide) (by decide) (by decide), see_k 11 _ (by decide) (by decide) (by decide)] at t4
        exact t4 hi hf
  · rw [rSee_n h1]
    have h12 : A 12 x.toNat = 1 := by
      have := hI.b12 x.toNat
      rcases h1 with h1 | h1 <;> omega
    intro o ho
    rcases h o ho with h3 | h3
    · exact Or.inl h3
    · by_cases e : o = x.toNat
      · left; rw [e]; exact h12
      · right
        intro T t1 t2 t3
        have h4 := h3 (fun y => T y ∨ y = x.toNat) (fun y hy => Or.inl (t1 y hy)) (fun y hy => by
          rcases hy with hy | hy
          · exact Or.inl (t2 y hy)
          · exact Or.inr hy) (fun y hy hn i hi hf => by
            have hy : T y := by
              rcases hy with hy | rfl
              · exact hy
              · rcases hn with hn | hn
                · omega
                · exact t1 _ hn
            exact Or.inl (t3 y hy hn i hi hf))
        rcases h4 with h4 | h4
        · exact h4
        · exact absurd h4 e
end
section
/-! marking -/
def KM (A : rS) (P G E : Nat → Prop) : Prop := Vd A ∧ Rw A ∧ Sg A ∧ Pl A P ∧ Gd A P G ∧ (∀ o, o < nn A → A 12 o = 1 → G o) ∧ TC A G E
theorem TC.mono {A : rS} {G E E' : Nat → Prop} (h : TC A G E) (he : ∀ x, E x → E' x) : TC A G E' := fun o ho => (h o ho).imp id (fun q T t1 t2 t3 => q T t1 (fun x hx => t2 x (he x hx)) t3)
theorem see_KM {A : rS} {P G E : Nat → Prop} {x : Int} (hx : -1 ≤ x) (hG : 0 ≤ x → G x.toNat) (h : KM A P G (fun y => E y ∨ (0 ≤ x ∧ y = x.toNat))) : KM (rSee A x) P G E := by
  obtain ⟨hV, hR, hS, hP, hg, hs, ht⟩ := h
  rcases (show x < 0 ∨ 0 ≤ x by omega) with h0 | h0
  · have : x = -1 := by omega
    rw [rSee_n (Or.inl this)]
    exact ⟨hV, hR, hS, hP, hg, hs, ht.mono (fun y hy => hy.elim id (fun q => absurd q.1 (by omega)))⟩
  · have gx := hG h0
    have px := hg.1 _ gx
    have xn := (hP.1 _ px).1
    have h6 := hV.1.b6 0
    have xl : x < A 6 0 := by unfold nn at xn; omega
    have e : ∀ k i, k ≠ 12 → k ≠ 15 → k ≠ 17 → rSee A x k i = A k i := fun k i => see_k k i
    have e12 : ∀ o, rSee A x 12 o = 1 → A 12 o = 1 ∨ o = x.toNat := fun o ho => by
      rcases rSee_c (A := A) x with ⟨h1, h2⟩ | h1
      · rw [see12 h1 h2] at ho
        split at ho
        · right; assumption
        · left; exact ho
      · rw [rSee_n h1] at ho
        exact Or.inl ho
    refine ⟨see_Vd hV hR ⟨hx, xl⟩, see_Rw hV hR ⟨hx, xl⟩, ?_, ?_, ?_, ?_, ?_⟩
    · obtain ⟨s1, s2, s3⟩ := hS
      refine ⟨fun r => ?_, fun r q => ?_, fun r q => ?_⟩
      · rw [e 3 r (by decide) (by decide) (by decide), e 4 r (by decide) (by decide) (by decide)]; exact s1 r
      · rw [e 3 r (by decide) (by decide) (by decide), e 3 q (by decide) (by decide) (by decide), e 1 0 (by decide) (by decide) (by decide)]; exact s2 r q
      · rw [e 3 r (by decide) (by decide) (by decide), e 3 q (by decide) (by decide) (by decide), e 1 0 (by decide) (by decide) (by decide)]; exact s3 r q
    · obtain ⟨p1, p2, p3⟩ := hP
      refine ⟨fun o ho => ?_, fun o ho h12 => ?_, fun o q ho hq => ?_⟩
      · rw [see_nn, e 7 o (by decide) (by decide) (by decide), e 3 _ (by decide) (by decide) (by decide), e 8 _ (by decide) (by decide) (by decide), e 9 _ (by decide) (by decide) (by decide), e 4 _ (by decide) (by decide) (by decide)]; exact p1 o ho
      · rw [see_nn] at ho
        rcases e12 o h12 with h3 | rfl
        · exact p2 o ho h3
        · exact px
      · rw [e 7 o (by decide) (by decide) (by decide), e 7 q (by decide) (by decide) (by decide), e 8 _ (by decide) (by decide) (by decide), e 8 _ (by decide) (by decide) (by decide)]; exact p3 o q ho hq
    · obtain ⟨g1, g2, g3⟩ := hg
      refine ⟨g1, fun k hk => ?_, fun o i ho => ?_⟩
      · rw [e 14 _ (by decide) (by decide) (by decide)]; exact g2 k hk
      · rw [e 9 _ (by decide) (by decide) (by decide), e 11 _ (by decide) (by decide) (by decide)]; exact g3 o i ho
    · intro o ho h12
      rw [see_nn] at ho
      rcases e12 o h12 with h3 | rfl
      · exact hs o ho h3
      · exact gx
    · exact see_TC hV.1 h0 hR.1 (ht.mono (fun y hy => hy.imp id (fun q => q.2)))
/-- the fields of o from i on -/
def FE (A : rS) (o : Nat) (i : Int) : Nat → Prop := fun y => ∃ j : Nat, i ≤ j ∧ (j : Int) < A 9 o - 2 ∧ 0 ≤ A 11 (21 * o + j) ∧ y = (A 11 (21 * o + j)).toNat
theorem seeF_KM {P G : Nat → Prop} {o : Int} (ho : 0 ≤ o) (hG : G o.toNat) : ∀ (f : Nat) (x : Int) (A : rS), 0 ≤ x → (f : Int) + x = 30 → KM A P G (FE A o.toNat x) → KM (rSeeF o f x A) P G (fun _ => False) := by
  intro f
  induction f with
  | zero =>
    intro x A hx hf h
    obtain ⟨hV, hR, hS, hP, hg, hs, ht⟩ := h
    have h9 := hV.1.b9 o.toNat
    exact ⟨hV, hR, hS, hP, hg, hs, ht.mono (fun y hy => by obtain ⟨j, j1, j2, -⟩ := hy; omega)⟩
  | succ f ih =>
    intro x A hx hf h
    have hV := h.1
    rw [rSeeF]
    split
    · obtain ⟨hV, hR, hS, hP, hg, hs, ht⟩ := h
      exact ⟨hV, hR, hS, hP, hg, hs, ht.mono (fun y hy => by obtain ⟨j, j1, j2, -⟩ := hy; omega)⟩
    · rename_i hn
      have ex : (21 * o + x).toNat = 21 * o.toNat + x.toNat := by omega
      have h11 := hV.1.b11 (21 * o + x).toNat
      have key : KM (rSee A (A 11 (21 * o + x).toNat)) P G (FE A o.toNat (x + 1)) := by
        refine see_KM h11.1 (fun h0 => ?_) ?_
        · rw [ex] at h0 ⊢
          exact h.2.2.2.2.1.2.2 o.toNat x.toNat hG (by omega) h0
        · obtain ⟨hV, hR, hS, hP, hg, hs, ht⟩ := h
          refine ⟨hV, hR, hS, hP, hg, hs, ht.mono (fun y hy => ?_)⟩
          obtain ⟨j, j1, j2, j3, j4⟩ := hy
          by_cases e : (j : Int) = x
          · right
            have ej : 21 * o.toNat + j = (21 * o + x).toNat := by omega
            rw [ej] at j3 j4
            exact ⟨j3, j4⟩
          · left
            exact ⟨j, by omega, j2, j3, j4⟩
      refine ih (x + 1) _ (by omega) (by omega) ?_
      have e : FE (rSee A (A 11 (21 * o + x).toNat)) o.toNat (x + 1) = FE A o.toNat (x + 1) := by
        funext y
        unfold FE
        rw [see_k 9 _ (by decide) (by decide) (by decide)]
        congr
        funext j
        rw [see_k 11 _ (by decide) (by decide) (by decide)]
      rw [e]
      exact key
/-- the first one that waits is taken out -/
theorem pop_KM {A : rS} {P G : Nat → Prop} (h : KM A P G (fun _ => False)) (hr : A 16 0 < A 17 0) : KM (up A 16 0 (A 16 0 + 1)) P G (FE (up A 16 0 (A 16 0 + 1)) (A 15 (A 16 0).toNat).toNat 0) ∧ 0 ≤ A 15 (A 16 0).toNat ∧ G (A 15 (A 16 0).toNat).toNat := by
  obtain ⟨hV, hR, hS, hP, hg, hs, ht⟩ := h
  have h16 := hV.1.b16 0
  have h17 := hV.1.b17 0
  have h15 := hV.1.b15 (A 16 0).toNat
  have h6 := hV.1.b6 0
  have hrow := hR.2.1 (A 16 0).toNat (by omega)
  have hle := hR.le hV
  have e : ∀ k i, k ≠ 16 → up A 16 0 (A 16 0 + 1) k i = A k i := fun k i hk => up_k A i hk
  have en : nn (up A 16 0 (A 16 0 + 1)) = nn A := by unfold nn; rw [e 6 0 (by decide)]
  refine ⟨⟨⟨hV.1.u16 0 (by omega), ?_⟩, ?_, hS, ?_, hg, ?_, ?_⟩, h15.1, hs _ (by unfold nn; omega) hrow.2⟩
  · exact hV.2
  · refine ⟨?_, hR.2⟩
    rw [up_s, e 17 0 (by decide)]
    omega
  · exact hP
  · exact hs
  · intro o ho
    rcases ht o ho with h1 | h1
    · exact Or.inl h1
    · by_cases eo : o = (A 15 (A 16 0).toNat).toNat
      · left
        show A 12 o = 1
        rw [eo]; exact hrow.2
      · right
        intro T t1 t2 t3
        have gold : ∀ x, gry A x → gry (up A 16 0 (A 16 0 + 1)) x ∨ x = (A 15 (A 16 0).toNat).toNat := by
          rintro x ⟨i, i1, i2, i3⟩
          by_cases ei : (i : Int) = A 16 0
          · right
            have : i = (A 16 0).toNat := by omega
            rw [this] at i3
            omega
          · left
            refine ⟨i, ?_, i2, i3⟩
            rw [up_s]
            omega
        have h2 := h1 (fun y => T y ∨ y = (A 15 (A 16 0).toNat).toNat) (fun x hx => (gold x hx).imp (t1 x) id) (fun _ q => q.elim) (fun x hx hn i hi hf => ?_)
        · exact h2.resolve_right eo
        · left
          by_cases ex : x = (A 15 (A 16 0).toNat).toNat
          · refine t2 _ ⟨i, by omega, ?_, ?_, ?_⟩
            · rw [e 9 _ (by decide), ← ex]; exact hi
            · rw [e 11 _ (by decide), ← ex]; exact hf
            · rw [e 11 _ (by decide), ← ex]
          · have hx : T x := hx.resolve_right ex
            refine t3 x hx ?_ i hi hf
            rcases hn with hn | hn
            · exact Or.inl hn
            · exact Or.inr ((gold x hn).resolve_right ex)
end
section
/-! a unit of marking -/
theorem KM.of {A : rS} {P G : Nat → Prop} (h : KK A P G) (h18 : A 18 0 = 1) : KM A P G (fun _ => False) := ⟨h.1, h.2.1, h.2.2.1, h.2.2.2.2.1, h.2.2.2.2.2.1, (h.2.2.2.2.2.2.1 h18).1, (h.2.2.2.2.2.2.1 h18).2⟩
/-- what marking leaves alone -/
theorem seeF_k {o : Int} : ∀ (f : Nat) (x : Int) (A : rS) (k i : Nat), k ≠ 12 → k ≠ 15 → k ≠ 17 → rSeeF o f x A k i = A k i := by
  intro f
  induction f with
  | zero => intro x A k i _ _ _; rfl
  | succ f ih =>
    intro x A k i h1 h2 h3
    rw [rSeeF]
    split
    · rfl
    · rw [ih _ _ k i h1 h2 h3, see_k k i h1 h2 h3]
theorem mark1_k {A : rS} (k i : Nat) (h0 : k ≠ 16) (h1 : k ≠ 12) (h2 : k ≠ 15) (h3 : k ≠ 17) : rSeeF (A 15 (A 16 0).toNat) 30 0 (up A 16 0 (A 16 0 + 1)) k i = A k i := by rw [seeF_k _ _ _ _ _ h1 h2 h3, up_k _ _ h0]
theorem mark1_KK {A : rS} {P G : Nat → Prop} (h : KK A P G) (h18 : A 18 0 = 1) (hr : A 16 0 < A 17 0) : KK (rMark A) P G := by
  have hm : rMark A = rSeeF (A 15 (A 16 0).toNat) 30 0 (up A 16 0 (A 16 0 + 1)) := by unfold rMark; rw [if_neg (by omega)]
  rw [hm]
  obtain ⟨h1, h2, h3⟩ := pop_KM (KM.of h h18) hr
  obtain ⟨hV, hR, hS, hP, hg, hs, ht⟩ := seeF_KM h2 h3 30 0 _ (by omega) (by omega) h1
  obtain ⟨-, -, -, ⟨-, p2, p3, p4, p5, p6⟩, -, -, -⟩ := h
  have e18 : rSeeF (A 15 (A 16 0).toNat) 30 0 (up A 16 0 (A 16 0 + 1)) 18 0 = 1 := by rw [mark1_k _ _ (by decide) (by decide) (by decide) (by decide)]; exact h18
  refine ⟨hV, hR, hS, ⟨?_, ?_, ?_, ?_, ?_, ?_⟩, hP, hg, ⟨fun _ => ⟨hs, ht⟩, ?_⟩⟩
  · intro q; exact absurd e18 q
  · intro q; rw [e18] at q; omega
  · intro _ r
    rw [mark1_k _ _ (by decide) (by decide) (by decide) (by decide), mark1_k _ _ (by decide) (by decide) (by decide) (by decide)]
    exact p3 (by omega) r
  · intro _ o ho
    unfold nn at ho
    rw [mark1_k _ _ (by decide) (by decide) (by decide) (by decide)] at ho
    rw [mark1_k _ _ (by decide) (by decide) (by decide) (by decide)]
    exact p4 h18 o ho
  · intro q; rw [e18] at q; omega
  · intro q; rw [e18] at q; omega
  · intro q; rw [e18] at q; omega
/-- the set -/
def Ch (A B : rS) : Prop := (∀ k i, k ≠ 3 → k ≠ 5 → B k i = A k i) ∧ (∀ r, B 3 r = A 3 r ∨ (A 3 r = 3 ∧ B 3 r = 4)) ∧ RI B
theorem choose_Ch : ∀ (f : Nat) (x : Int) (A : rS), RI A → Ch A (rChoose f x A) := by
  intro f
  induction f with
  | zero => intro x A h; exact ⟨fun _ _ _ _ => rfl, fun _ => Or.inl rfl, h⟩
  | succ f ih =>
    intro x A h
    rw [rChoose]
    split
    · exact ⟨fun _ _ _ _ => rfl, fun _ => Or.inl rfl, h⟩
    · generalize hv : (if A 3 x.toNat = 3 ∧ A 2 0 < A 4 x.toNat - rSeenIn (up A 5 x.toNat 0) x then (4 : Int) else A 3 x.toNat) = v
      have h3 := h.b3 x.toNat
      have hv1 : v = A 3 x.toNat ∨ (A 3 x.toNat = 3 ∧ v = 4) := by
        rw [← hv]
        split
        · rename_i q; exact Or.inr ⟨q.1, rfl⟩
        · exact Or.inl rfl
      obtain ⟨i1, i2, i3⟩ := ih (x + 1) (up (up A 5 x.toNat 0) 3 x.toNat v) ((h.u5 _ (by omega)).u3 _ (by omega))
      refine ⟨fun k i k3 k5 => ?_, fun r => ?_, i3⟩
      · rw [i1 k i k3 k5, up_k _ _ k3, up_k _ _ k5]
      · rcases i2 r with q | q
        · rw [q]
          by_cases er : r = x.toNat
          · subst er
            rw [up_s]
            exact hv1
          · rw [up_i _ er, up_k _ _ (by decide)]
            exact Or.inl rfl
        · by_cases er : r = x.toNat
          · subst er
            rw [up_s] at q
            rcases hv1 with q1 | q1
            · exact Or.inr ⟨by rw [← q1]; exact q.1, q.2⟩
            · omega
          · rw [up_i _ er, up_k _ _ (by decide)] at q
            exact Or.inr q
theorem mark2_KK {A : rS} {P G : Nat → Prop} (h : KK A P G) (h18 : A 18 0 = 1) (hr : A 17 0 ≤ A 16 0) : KK (rMark A) P G := by
  have hm : rMark A = up (rChoose 20 0 A) 18 0 2 := by unfold rMark; rw [if_pos hr]
  rw [hm]
  obtain ⟨hV, hR, ⟨s1, s2, s3⟩, ⟨p1, p2, p3, p4, p5, p6⟩, ⟨q1, q2, q3⟩, hg, ⟨t1, t2⟩⟩ := h
  obtain ⟨c1, c2, c3⟩ := choose_Ch 20 0 A hV.1
  generalize rChoose 20 0 A = B at c1 c2 c3
  have e : ∀ k i, k ≠ 3 → k ≠ 5 → k ≠ 18 → up B 18 0 2 k i = A k i := fun k i k3 k5 k8 => by rw [up_k _ _ k8, c1 k i k3 k5]
  have e3 : ∀ r, up B 18 0 2 3 r = B 3 r := fun r => up_k _ _ (by decide)
  have en : nn (up B 18 0 2) = nn A := by unfold nn; rw [e 6 0 (by decide) (by decide) (by decide)]
  have gs : ∀ o, G o → A 12 o = 1 := fun o ho => by
    rcases (t1 h18).2 o ho with q | q
    · exact q
    · exact (q (fun _ => False) (fun x hx => by obtain ⟨i, i1, i2, -⟩ := hx; omega) (fun _ q => q) (fun _ q => q.elim)).elim
  have hph := p3 (by omega)
  have h16 := hR.1
  refine ⟨⟨c3.u18 0 (by omega), ?_, ?_, ?_, ?_⟩, ?_, ⟨?_, ?_, ?_⟩, ⟨?_, ?_, ?_, ?_, ?_, ?_⟩, ⟨?_, ?_, ?_⟩, ⟨hg.1, ?_, ?_⟩, ⟨?_, ?_⟩⟩
  · intro o ho
    rw [en] at ho
    rw [e 9 o (by decide) (by decide) (by decide), e 7 o (by decide) (by decide) (by decide), e 1 0 (by decide) (by decide) (by decide)]
    exact hV.2.1 o ho
  · intro o i ho
    rw [en] at ho
    rw [e 9 o (by decide) (by decide) (by decide), e 11 _ (by decide) (by decide) (by decide), e 6 0 (by decide) (by decide) (by decide)]
    exact hV.2.2.1 o i ho
  · intro k
    rw [e 14 _ (by decide) (by decide) (by decide), e 6 0 (by decide) (by decide) (by decide)]
    exact hV.2.2.2.1 k
  · rw [e 6 0 (by decide) (by decide) (by decide)]; exact hV.2.2.2.2
  · refine ⟨?_, ?_, ?_⟩
    · rw [e 16 0 (by decide) (by decide) (by decide), e 17 0 (by decide) (by decide) (by decide)]; exact h16
    · intro i
      rw [e 17 0 (by decide) (by decide) (by decide), e 15 i (by decide) (by decide) (by decide), e 12 _ (by decide) (by decide) (by decide), e 6 0 (by decide) (by decide) (by decide)]
      exact hR.2.1 i
    · intro i j
      rw [e 17 0 (by decide) (by decide) (by decide), e 15 i (by decide) (by decide) (by decide), e 15 j (by decide) (by decide) (by decide)]
      exact hR.2.2 i j
  · intro r
    rw [e3, e 4 r (by decide) (by decide) (by decide)]
    intro q
    exact s1 r (by rcases c2 r with w | w <;> omega)
  · intro r q hr' hq
    rw [e 1 0 (by decide) (by decide) (by decide)] at hr' hq
    rw [e3, e3]
    intro a b
    exact s2 r q hr' hq (by rcases c2 r with w | w <;> omega) (by rcases c2 q with w | w <;> omega)
  · intro r q hr' hq
    rw [e 1 0 (by decide) (by decide) (by decide)] at hr' hq
    rw [e3, e3]
    intro a b
    exact s3 r q hr' hq (by rcases c2 r with w | w <;> omega) (by rcases c2 q with w | w <;> omega)
  · intro _
    rw [e 16 0 (by decide) (by decide) (by decide), e 17 0 (by decide) (by decide) (by decide)]; omega
  · intro q; rw [up_s] at q; omega
  · intro q; rw [up_s] at q; omega
  · intro q; rw [up_s] at q; omega
  · intro _ o ho h13
    rw [en] at ho
    rw [e 13 o (by decide) (by decide) (by decide)] at h13
    have := p4 h18 o ho
    omega
  · intro q; rw [up_s] at q; omega
  · intro o ho
    rw [en, e 7 o (by decide) (by decide) (by decide), e3, e 8 o (by decide) (by decide) (by decide), e 9 o (by decide) (by decide) (by decide), e 4 _ (by decide) (by decide) (by decide)]
    obtain ⟨a, b, c⟩ := q1 o ho
    exact ⟨a, by rcases c2 (A 7 o).toNat with w | w <;> omega, c⟩
  · intro o ho
    rw [en] at ho
    rw [e 12 o (by decide) (by decide) (by decide)]
    exact q2 o ho
  · intro o q
    rw [e 7 o (by decide) (by decide) (by decide), e 7 q (by decide) (by decide) (by decide), e 8 o (by decide) (by decide) (by decide), e 8 q (by decide) (by decide) (by decide)]
    exact q3 o q
  · intro k
    rw [e 14 _ (by decide) (by decide) (by decide)]
    exact hg.2.1 k
  · intro o i
    rw [e 9 o (by decide) (by decide) (by decide), e 11 _ (by decide) (by decide) (by decide)]
    exact hg.2.2 o i
  · intro q; rw [up_s] at q; omega
  · intro _ o ho
    rw [e 12 o (by decide) (by decide) (by decide)]
    exact gs o ho
end
section
/-! a unit of moving -/
theorem rWs_none {A : rS} {st : Int} : ∀ (f : Nat) (x : Int), 0 ≤ x → A 1 0 < (f : Int) + x → rWs A st f x = -1 → ∀ r : Nat, x ≤ r → (r : Int) < A 1 0 → A 3 r ≠ st := by
  intro f
  induction f with
  | zero => intro x hx hf _ r h1 h2; omega
  | succ f ih =>
    intro x hx hf h r h1 h2
    rw [rWs] at h
    split at h
    · omega
    · split at h
      · omega
      · rename_i hn hs
        by_cases e : (r : Int) = x
        · have : r = x.toNat := by omega
          rw [this]; exact hs
        · exact ih (x + 1) (by omega) (by omega) h r (by omega) h2
theorem rWith_none {A : rS} (hI : RI A) {st : Int} (h : rWith A st = -1) (r : Nat) (hr : (r : Int) < A 1 0) : A 3 r ≠ st := by
  have h1 := hI.b1 0
  exact rWs_none 20 0 (by omega) (by omega) h r (by omega) hr
theorem rWith_some {A : rS} {st : Int} (h : rWith A st ≠ -1) : 0 ≤ rWith A st ∧ rWith A st < A 1 0 ∧ A 3 (rWith A st).toNat = st := (rWs_b (A := A) st 20 0 (Int.le_refl 0)).2 h
theorem rWs_least {A : rS} {st : Int} : ∀ (f : Nat) (x : Int), 0 ≤ x → rWs A st f x ≠ -1 → ∀ r : Nat, x ≤ r → (r : Int) < rWs A st f x → A 3 r ≠ st := by
  intro f
  induction f with
  | zero => intro x hx h; exact absurd rfl h
  | succ f ih =>
    intro x hx h r h1 h2
    rw [rWs] at h h2
    split at h
    · exact absurd rfl h
    · rename_i hn
      rw [if_neg hn] at h2
      split at h
      · rename_i hs
        rw [if_pos hs] at h2
        omega
      · rename_i hs
        rw [if_neg hs] at h2
        by_cases e : (r : Int) = x
        · have : r = x.toNat := by omega
          rw [this]; exact hs
        · exact ih (x + 1) (by omega) h r (by omega) h2
theorem into_e {A : rS} {o t : Int} (k i : Nat) (h1 : k ≠ 7) (h2 : k ≠ 8) (h3 : k ≠ 4) (h4 : k ≠ 20) : rInto A o t k i = A k i := rInto_k h1 h2 h3 h4
theorem into7 {A : rS} {o t : Int} (i : Nat) : rInto A o t 7 i = if i = o.toNat then t else A 7 i := by
  unfold rInto
  rw [up_k _ _ (by decide), up_k _ _ (by decide), up_k _ _ (by decide)]
  simp [up]
theorem into8 {A : rS} {o t : Int} (i : Nat) : rInto A o t 8 i = if i = o.toNat then A 4 t.toNat else A 8 i := by
  unfold rInto
  rw [up_k _ _ (by decide), up_k _ _ (by decide)]
  simp [up]
theorem into4 {A : rS} {o t : Int} (i : Nat) : rInto A o t 4 i = if i = t.toNat then A 4 t.toNat + A 9 o.toNat else A 4 i := by
  unfold rInto
  rw [up_k _ _ (by decide)]
  simp [up]
theorem into_KK {A : rS} {P G : Nat → Prop} {o t : Int} (h : KK A P G) (h18 : A 18 0 = 2) (ho : 0 ≤ o ∧ o < A 6 0) (hP : P o.toNat) (ht : 0 ≤ t ∧ t < A 1 0) (h3 : A 3 t.toNat = 2) (hu : A 4 t.toNat + A 9 o.toNat ≤ 128) : KK (rInto A o t) P G := by
  obtain ⟨hV, hR, ⟨s1, s2, s3⟩, ⟨p1, p2, p3, p4, p5, p6⟩, ⟨q1, q2, q3⟩, hg, ⟨t1, t2⟩⟩ := h
  have b1 := hV.1.b1 0
  have b6 := hV.1.b6 0
  have bo := hV.2.1 o.toNat (by unfold nn; omega)
  have e := @into_e A o t
  have e1 := e 1 0 (by decide) (by decide) (by decide) (by decide)
  have e6 := e 6 0 (by decide) (by decide) (by decide) (by decide)
  have e18 := e 18 0 (by decide) (by decide) (by decide) (by decide)
  have e9 : ∀ i, rInto A o t 9 i = A 9 i := fun i => e 9 i (by decide) (by decide) (by decide) (by decide)
  have e11 : ∀ i, rInto A o t 11 i = A 11 i := fun i => e 11 i (by decide) (by decide) (by decide) (by decide)
  have e12 : ∀ i, rInto A o t 12 i = A 12 i := fun i => e 12 i (by decide) (by decide) (by decide) (by decide)
  have e13 : ∀ i, rInto A o t 13 i = A 13 i := fun i => e 13 i (by decide) (by decide) (by decide) (by decide)
  have e14 : ∀ i, rInto A o t 14 i = A 14 i := fun i => e 14 i (by decide) (by decide) (by decide) (by decide)
  have e15 : ∀ i, rInto A o t 15 i = A 15 i := fun i => e 15 i (by decide) (by decide) (by decide) (by decide)
  have e16 := e 16 0 (by decide) (by decide) (by decide) (by decide)
  have e17 := e 17 0 (by decide) (by decide) (by decide) (by decide)
  have e19 := e 19 0 (by decide) (by decide) (by decide) (by decide)
  have e3 : ∀ i, rInto A o t 3 i = A 3 i := fun i => e 3 i (by decide) (by decide) (by decide) (by decide)
  have e5 : ∀ i, rInto A o t 5 i = A 5 i := fun i => e 5 i (by decide) (by decide) (by decide) (by decide)
  have en : nn (rInto A o t) = nn A := by unfold nn; rw [e6]
  have h4 := hV.1.b4 t.toNat
  refine ⟨⟨rInto_I hV.1 (by omega) hu, ?_, ?_, ?_, ?_⟩, ?_, ⟨?_, ?_, ?_⟩, ⟨?_, ?_, ?_, ?_, ?_, ?_⟩, ⟨?_, ?_, ?_⟩, ⟨hg.1, ?_, ?_⟩, ⟨?_, ?_⟩⟩
  · intro q hq
    rw [en] at hq
    rw [e9, into7, e1]
    have := hV.2.1 q hq
    split <;> omega
  · intro q i hq
    rw [en] at hq
    rw [e9, e11, e6]
    exact hV.2.2.1 q i hq
  · intro k
    rw [e14, e6]
    exact hV.2.2.2.1 k
  · rw [e6]; exact hV.2.2.2.2
  · refine ⟨by rw [e16, e17]; exact hR.1, fun i => ?_, fun i j => ?_⟩
    · rw [e17, e15, e12, e6]; exact hR.2.1 i
    · rw [e17, e15, e15]; exact hR.2.2 i j
  · intro r
    rw [e3, into4]
    intro q
    split
    · rename_i w; rw [w] at q; omega
    · exact s1 r q
  · intro r q; rw [e1, e3, e3]; exact s2 r q
  · intro r q; rw [e1, e3, e3]; exact s3 r q
  · rw [e18, e16, e17]; exact p1
  · intro q; rw [e18] at q; omega
  · intro q; rw [e18] at q; omega
  · intro q; rw [e18] at q; omega
  · intro _ q hq h13
    rw [en] at hq
    rw [e13] at h13
    rw [into7, e3, e5]
    split
    · intro w; omega
    · exact p5 (by omega) q hq h13
  · intro q; rw [e18] at q; omega
  · intro q hq
    obtain ⟨a1, a2, a3⟩ := q1 q hq
    rw [en, into7, e3, into8, e9, into4]
    refine ⟨a1, ?_, ?_⟩
    · split
      · omega
      · exact a2
    · by_cases w : q = o.toNat
      · rw [if_pos w, if_pos w, if_pos rfl, w]; omega
      · rw [if_neg w, if_neg w]
        split
        · rename_i w2
          rw [w2] at a3
          omega
        · exact a3
  · intro q hq
    rw [en] at hq
    rw [e12]
    exact q2 q hq
  · intro a b ha hb
    rw [into7, into7, into8, into8]
    have ka := q1 a ha
    have kb := q1 b hb
    have va := hV.2.1 a ka.1
    have vb := hV.2.1 b kb.1
    by_cases wa : a = o.toNat <;> by_cases wb : b = o.toNat
    · intro _ _; omega
    · rw [if_pos wa, if_neg wb, if_pos wa, if_neg wb]
      intro m1 m2
      rw [← m1] at kb
      omega
    · rw [if_neg wa, if_pos wb, if_neg wa, if_pos wb]
      intro m1 m2
      rw [m1] at ka
      omega
    · rw [if_neg wa, if_neg wb, if_neg wa, if_neg wb]
      exact q3 a b ha hb
  · intro k; rw [e14]; exact hg.2.1 k
  · intro a i; rw [e9, e11]; exact hg.2.2 a i
  · intro q; rw [e18] at q; omega
  · intro _ a ha; rw [e12]; exact t2 (by omega) a ha
end
section
/-- a free region becomes the target -/
theorem tgt_KK {A : rS} {P G : Nat → Prop} {f : Int} (h : KK A P G) (h18 : A 18 0 = 2) (hf : 0 ≤ f ∧ f < A 1 0) (h0 : A 3 f.toNat = 0) :
    KK (up (up (if rWith A 2 = -1 then A else up A 3 (rWith A 2).toNat 3) 3 f.toNat 2) 4 f.toNat 0) P G ∧ (up (up (if rWith A 2 = -1 then A else up A 3 (rWith A 2).toNat 3) 3 f.toNat 2) 4 f.toNat 0) 3 f.toNat = 2 ∧ (up (up (if rWith A 2 = -1 then A else up A 3 (rWith A 2).toNat 3) 3 f.toNat 2) 4 f.toNat 0) 4 f.toNat = 0 := by
  obtain ⟨hV, hR, ⟨s1, s2, s3⟩, ⟨p1, p2, p3, p4, p5, p6⟩, ⟨q1, q2, q3⟩, hg, ⟨t1, t2⟩⟩ := h
  have b1 := hV.1.b1 0
  have b2 := rWith_b hV.1 2
  generalize hA1 : (if rWith A 2 = -1 then A else up A 3 (rWith A 2).toNat 3) = A1
  have c1 : ∀ k i, k ≠ 3 → A1 k i = A k i := fun k i hk => by rw [← hA1]; split <;> first | rfl | exact up_k _ _ hk
  have I1 : RI A1 := by rw [← hA1]; split <;> first | exact hV.1 | exact hV.1.u3 _ (by omega)
  have c3 : ∀ r : Nat, (r : Int) < A 1 0 → (A1 3 r = A 3 r ∧ A 3 r ≠ 2) ∨ (A 3 r = 2 ∧ A1 3 r = 3) := fun r hr => by
    rw [← hA1]
    by_cases w : rWith A 2 = -1
    · rw [if_pos w]
      exact Or.inl ⟨rfl, rWith_none hV.1 w r hr⟩
    · rw [if_neg w]
      have hw := rWith_some w
      by_cases er : r = (rWith A 2).toNat
      · right
        rw [er, up_s]
        exact ⟨hw.2.2, rfl⟩
      · left
        rw [up_i _ er]
        exact ⟨rfl, fun q => er (s3 r (rWith A 2).toNat hr (by omega) q hw.2.2)⟩
  have c3' : ∀ r : Nat, A1 3 r = A 3 r ∨ (A 3 r = 2 ∧ A1 3 r = 3) := fun r => by
    rw [← hA1]
    by_cases w : rWith A 2 = -1
    · rw [if_pos w]; exact Or.inl rfl
    · rw [if_neg w]
      have hw := rWith_some w
      by_cases er : r = (rWith A 2).toNat
      · right; rw [er, up_s]; exact ⟨hw.2.2, rfl⟩
      · left; rw [up_i _ er]
  generalize hB : up (up A1 3 f.toNat 2) 4 f.toNat 0 = B
  have e : ∀ k i, k ≠ 3 → k ≠ 4 → B k i = A k i := fun k i k3 k4 => by rw [← hB, up_k _ _ k4, up_k _ _ k3, c1 k i k3]
  have e3 : ∀ r, B 3 r = if r = f.toNat then 2 else A1 3 r := fun r => by rw [← hB, up_k _ _ (by decide)]; simp [up]
  have e4 : ∀ r, B 4 r = A 4 r := fun r => by
    rw [← hB]
    by_cases er : r = f.toNat
    · rw [er, up_s, s1 _ h0]
    · rw [up_i _ er, up_k _ _ (by decide), c1 _ _ (by decide)]
  have en : nn B = nn A := by unfold nn; rw [e 6 0 (by decide) (by decide)]
  have e18 := e 18 0 (by decide) (by decide)
  have e1 := e 1 0 (by decide) (by decide)
  have e6 := e 6 0 (by decide) (by decide)
  have B4 : B 4 f.toNat = 0 := by rw [e4, s1 _ h0]
  refine ⟨⟨⟨?_, ?_, ?_, ?_, ?_⟩, ?_, ⟨?_, ?_, ?_⟩, ⟨?_, ?_, ?_, ?_, ?_, ?_⟩, ⟨?_, ?_, ?_⟩, ⟨hg.1, ?_, ?_⟩, ⟨?_, ?_⟩⟩, by rw [e3, if_pos rfl], B4⟩
  · rw [← hB]; exact (I1.u3 _ (by omega)).u4 _ (by omega)
  · intro o ho
    rw [en] at ho
    rw [e 9 _ (by decide) (by decide), e 7 _ (by decide) (by decide), e1]; exact hV.2.1 o ho
  · intro o i ho
    rw [en] at ho
    rw [e 9 _ (by decide) (by decide), e 11 _ (by decide) (by decide), e6]; exact hV.2.2.1 o i ho
  · intro k; rw [e 14 _ (by decide) (by decide), e6]; exact hV.2.2.2.1 k
  · rw [e6]; exact hV.2.2.2.2
  · refine ⟨by rw [e 16 _ (by decide) (by decide), e 17 _ (by decide) (by decide)]; exact hR.1, fun i => ?_, fun i j => ?_⟩
    · rw [e 17 _ (by decide) (by decide), e 15 _ (by decide) (by decide), e 12 _ (by decide) (by decide), e6]; exact hR.2.1 i
    · rw [e 17 _ (by decide) (by decide), e 15 _ (by decide) (by decide), e 15 _ (by decide) (by decide)]; exact hR.2.2 i j
  · intro r
    rw [e3, e4]
    split
    · intro q; omega
    · intro q
      exact s1 r (by rcases c3' r with w | w <;> omega)
  · intro r q hr hq
    rw [e1] at hr hq
    rw [e3, e3]
    split <;> split
    · intro w; omega
    · intro w; omega
    · intro _ w; omega
    · intro w1 w2
      exact s2 r q hr hq (by rcases c3 r hr with w | w <;> omega) (by rcases c3 q hq with w | w <;> omega)
  · intro r q hr hq
    rw [e1] at hr hq
    rw [e3, e3]
    split <;> split
    · intro _ _; omega
    · intro _ w2
      rcases c3 q hq with w | w <;> omega
    · intro w1 _
      rcases c3 r hr with w | w <;> omega
    · intro w1 _
      rcases c3 r hr with w | w <;> omega
  · rw [e18, e 16 _ (by decide) (by decide), e 17 _ (by decide) (by decide)]; exact p1
  · intro q; rw [e18] at q; omega
  · intro q; rw [e18] at q; omega
  · intro q; rw [e18] at q; omega
  · intro _ o ho h13
    rw [en] at ho
    rw [e 13 _ (by decide) (by decide)] at h13
    rw [e 7 _ (by decide) (by decide), e3, e 5 _ (by decide) (by decide)]
    split
    · intro w; omega
    · intro w
      exact p5 (by omega) o ho h13 (by rcases c3' (A 7 o).toNat with v | v <;> omega)
  · intro q; rw [e18] at q; omega
  · intro o ho
    obtain ⟨a1, a2, a3⟩ := q1 o ho
    rw [en, e 7 _ (by decide) (by decide), e3, e 8 _ (by decide) (by decide), e 9 _ (by decide) (by decide), e4]
    refine ⟨a1, ?_, a3⟩
    split
    · omega
    · rcases c3' (A 7 o).toNat with v | v <;> omega
  · intro o ho
    rw [en] at ho
    rw [e 12 _ (by decide) (by decide)]; exact q2 o ho
  · intro a b; rw [e 7 _ (by decide) (by decide), e 7 _ (by decide) (by decide), e 8 _ (by decide) (by decide), e 8 _ (by decide) (by decide)]; exact q3 a b
  · intro k; rw [e 14 _ (by decide) (by decide)]; exact hg.2.1 k
  · intro a i; rw [e 9 _ (by decide) (by decide), e 11 _ (by decide) (by decide)]; exact hg.2.2 a i
  · intro q; rw [e18] at q; omega
  · intro _ a ha; rw [e 12 _ (by decide) (by decide)]; exact t2 (by omega) a ha
/-- an object fails -/
theorem fail_KK {A : rS} {P G : Nat → Prop} {o : Int} (h : KK A P G) (h18 : A 18 0 = 2) : KK (up (up (up A 13 o.toNat 1) 5 (A 7 o.toNat).toNat 1) 21 0 (A 21 0 + 1)) P G := by
  obtain ⟨hV, hR, ⟨s1, s2, s3⟩, ⟨p1, p2, p3, p4, p5, p6⟩, ⟨q1, q2, q3⟩, hg, ⟨t1, t2⟩⟩ := h
  have I1 : RI (up (up (up A 13 o.toNat 1) 5 (A 7 o.toNat).toNat 1) 21 0 (A 21 0 + 1)) := ((hV.1.u13 _ (by omega)).u5 _ (by omega)).u21 _
  generalize hB : up (up (up A 13 o.toNat 1) 5 (A 7 o.toNat).toNat 1) 21 0 (A 21 0 + 1) = B at I1 ⊢
  have e : ∀ k i, k ≠ 13 → k ≠ 5 → k ≠ 21 → B k i = A k i := fun k i k1 k2 k3 => by rw [← hB, up_k _ _ k3, up_k _ _ k2, up_k _ _ k1]
  have e5 : ∀ r, B 5 r = if r = (A 7 o.toNat).toNat then 1 else A 5 r := fun r => by rw [← hB, up_k _ _ (by decide)]; simp [up]
  have e13 : ∀ i, B 13 i = if i = o.toNat then 1 else A 13 i := fun i => by rw [← hB, up_k _ _ (by decide), up_k _ _ (by decide)]; simp [up]
  have e18 := e 18 0 (by decide) (by decide) (by decide)
  have e1 := e 1 0 (by decide) (by decide) (by decide)
  have e6 := e 6 0 (by decide) (by decide) (by decide)
  have en : nn B = nn A := by unfold nn; rw [e6]
  refine ⟨⟨I1, ?_, ?_, ?_, ?_⟩, ?_, ⟨?_, ?_, ?_⟩, ⟨?_, ?_, ?_, ?_, ?_, ?_⟩, ⟨?_, ?_, ?_⟩, ⟨hg.1, ?_, ?_⟩, ⟨?_, ?_⟩⟩
  · intro q hq
    rw [en] at hq
    rw [e 9 _ (by decide) (by decide) (by decide), e 7 _ (by decide) (by decide) (by decide), e1]; exact hV.2.1 q hq
  · intro q i hq
    rw [en] at hq
    rw [e 9 _ (by decide) (by decide) (by decide), e 11 _ (by decide) (by decide) (by decide), e6]; exact hV.2.2.1 q i hq
  · intro k; rw [e 14 _ (by decide) (by decide) (by decide), e6]; exact hV.2.2.2.1 k
  · rw [e6]; exact hV.2.2.2.2
  · refine ⟨by rw [e 16 _ (by decide) (by decide) (by decide), e 17 _ (by decide) (by decide) (by decide)]; exact hR.1, fun i => ?_, fun i j => ?_⟩
    · rw [e 17 _ (by decide) (by decide) (by decide), e 15 _ (by decide) (by decide) (by decide), e 12 _ (by decide) (by decide) (by decide), e6]; exact hR.2.1 i
    · rw [e 17 _ (by decide) (by decide) (by decide), e 15 _ (by decide) (by decide) (by decide), e 15 _ (by decide) (by decide) (by decide)]; exact hR.2.2 i j
  · intro r; rw [e 3 _ (by decide) (by decide) (by decide), e 4 _ (by decide) (by decide) (by decide)]; exact s1 r
  · intro r q; rw [e1, e 3 _ (by decide) (by decide) (by decide), e 3 _ (by decide) (by decide) (by decide)]; exact s2 r q
  · intro r q; rw [e1, e 3 _ (by decide) (by decide) (by decide), e 3 _ (by decide) (by decide) (by decide)]; exact s3 r q
  · rw [e18, e 16 _ (by decide) (by decide) (by decide), e 17 _ (by decide) (by decide) (by decide)]; exact p1
  · intro q; rw [e18] at q; omega
  · intro q; rw [e18] at q; omega
  · intro q; rw [e18] at q; omega
  · intro _ q hq h13
    rw [en] at hq
    rw [e13] at h13
    rw [e 7 _ (by decide) (by decide) (by decide), e 3 _ (by decide) (by decide) (by decide), e5]
    intro w
    split
    · rfl
    · rename_i w2
      by_cases w3 : q = o.toNat
      · rw [w3] at w2; exact absurd rfl w2
      · rw [if_neg w3] at h13
        exact p5 (by omega) q hq h13 w
  · intro q; rw [e18] at q; omega
  · intro q hq
    rw [en, e 7 _ (by decide) (by decide) (by decide), e 3 _ (by decide) (by decide) (by decide), e 8 _ (by decide) (by decide) (by decide), e 9 _ (by decide) (by decide) (by decide), e 4 _ (by decide) (by decide) (by decide)]; exact q1 q hq
  · intro q hq
    rw [en] at hq
    rw [e 12 _ (by decide) (by decide) (by decide)]; exact q2 q hq
  · intro a b; rw [e 7 _ (by decide) (by decide) (by decide), e 7 _ (by decide) (by decide) (by decide), e 8 _ (by decide) (by decide) (by decide), e 8 _ (by decide) (by decide) (by decide)]; exact q3 a b
  · intro k; rw [e 14 _ (by decide) (by decide) (by decide)]; exact hg.2.1 k
  · intro a i; rw [e 9 _ (by decide) (by decide) (by decide), e 11 _ (by decide) (by decide) (by decide)]; exact hg.2.2 a i
  · intro q; rw [e18] at q; omega
  · intro _ a ha; rw [e 12 _ (by decide) (by decide) (by decide)]; exact t2 (by omega) a ha
theorem carry_KK {A : rS} {P G : Nat → Prop} {o : Int} (h : KK A P G) (h18 : A 18 0 = 2) (ho : 0 ≤ o ∧ o < A 6 0) (hs : A 12 o.toNat = 1) : KK (rCarry A o) P G := by
  have hV := h.1
  have b1 := hV.1.b1 0
  have b6 := hV.1.b6 0
  have b9 := hV.1.b9 o.toNat
  have hP : P o.toNat := h.2.2.2.2.1.2.1 o.toNat (by unfold nn; omega) hs
  unfold rCarry
  split
  · split
    · exact fail_KK h h18
    · rename_i w
      have hw := rWith_some w
      obtain ⟨k1, k2, k3⟩ := tgt_KK h h18 ⟨hw.1, hw.2.1⟩ hw.2.2
      have e : ∀ k i, k ≠ 3 → k ≠ 4 → (up (up (if rWith A 2 = -1 then A else up A 3 (rWith A 2).toNat 3) 3 (rWith A 0).toNat 2) 4 (rWith A 0).toNat 0) k i = A k i := fun k i k3 k4 => by
        rw [up_k _ _ k4, up_k _ _ k3]
        split
        · rfl
        · exact up_k _ _ k3
      refine into_KK k1 ?_ ?_ hP ?_ k2 ?_
      · rw [e _ _ (by decide) (by decide)]; exact h18
      · rw [e _ _ (by decide) (by decide)]; exact ho
      · rw [e _ _ (by decide) (by decide)]; exact ⟨hw.1, hw.2.1⟩
      · rw [k3, e _ _ (by decide) (by decide)]; omega
  · rename_i w
    have w1 : rWith A 2 ≠ -1 := fun q => w (Or.inl q)
    have hw := rWith_some w1
    exact into_KK h h18 ho hP ⟨hw.1, hw.2.1⟩ hw.2.2 (by omega)
end
section
/-! which object is moved; the ends of phases -/
theorem toMove_iff {A : rS} {x : Int} : rToMove A x = 1 ↔ A 12 x.toNat ≠ 0 ∧ A 13 x.toNat = 0 ∧ A 3 (A 7 x.toNat).toNat = 4 := by
  unfold rToMove
  constructor
  · intro h
    by_cases w : A 12 x.toNat ≠ 0 ∧ A 13 x.toNat = 0 ∧ A 3 (A 7 x.toNat).toNat = 4
    · exact w
    · rw [bZ_f w] at h; omega
  · intro h; exact bZ_t h
theorem rBest_spec {A : rS} : ∀ (f : Nat) (x b : Int), 0 ≤ x → A 6 0 < (f : Int) + x → -1 ≤ b →
    (rBest A f x b = b ∨ (x ≤ rBest A f x b ∧ rBest A f x b < A 6 0 ∧ rToMove A (rBest A f x b) = 1)) ∧ (b ≠ -1 → rBest A f x b ≠ -1 ∧ rPlace A (rBest A f x b) ≤ rPlace A b) ∧ (∀ o : Int, x ≤ o → o < A 6 0 → rToMove A o = 1 → rBest A f x b ≠ -1 ∧ rPlace A (rBest A f x b) ≤ rPlace A o) := by
  intro f
  induction f with
  | zero =>
    intro x b hx hf hb
    exact ⟨Or.inl rfl, fun h => ⟨h, Int.le_refl _⟩, fun o h1 h2 => by omega⟩
  | succ f ih =>
    intro x b hx hf hb
    rw [rBest]
    split
    · exact ⟨Or.inl rfl, fun h => ⟨h, Int.le_refl _⟩, fun o h1 h2 => by omega⟩
    · rename_i hn
      by_cases w : rToMove A x = 1 ∧ (b = -1 ∨ rPlace A x < rPlace A b)
      · rw [if_pos w]
        obtain ⟨i1, i2, i3⟩ := ih (x + 1) x (by omega) (by omega) (by omega)
        have i2' := i2 (by omega)
        refine ⟨?_, fun h => ⟨i2'.1, ?_⟩, fun o h1 h2 h3 => ?_⟩
        · rcases i1 with q | q
          · right; rw [q]; exact ⟨Int.le_refl _, by omega, w.1⟩
          · right; exact ⟨by omega, q.2⟩
        · rcases w.2 with q | q
          · exact absurd q h
          · omega
        · by_cases e : o = x
          · rw [e]; exact i2'
          · exact i3 o (by omega) h2 h3
      · rw [if_neg w]
        obtain ⟨i1, i2, i3⟩ := ih (x + 1) b (by omega) (by omega) hb
        refine ⟨?_, i2, fun o h1 h2 h3 => ?_⟩
        · rcases i1 with q | q
          · exact Or.inl q
          · right; exact ⟨by omega, q.2⟩
        · by_cases e : o = x
          · rw [e] at h3 ⊢
            have wb : b ≠ -1 := fun q => w ⟨h3, Or.inl q⟩
            have := i2 wb
            exact ⟨this.1, by
              have : ¬ rPlace A x < rPlace A b := fun q => w ⟨h3, Or.inr q⟩
              omega⟩
          · exact i3 o (by omega) h2 h3
theorem rBst_none {A : rS} (hI : RI A) (h : rBst A = -1) (o : Int) (ho : 0 ≤ o ∧ o < A 6 0) : rToMove A o ≠ 1 := by
  have h6 := hI.b6 0
  intro q
  exact ((rBest_spec (A := A) 700 0 (-1) (by omega) (by omega) (by omega)).2.2 o ho.1 ho.2 q).1 h
theorem rBst_some {A : rS} (hI : RI A) (h : rBst A ≠ -1) : 0 ≤ rBst A ∧ rBst A < A 6 0 ∧ rToMove A (rBst A) = 1 ∧ ∀ o : Int, 0 ≤ o → o < A 6 0 → rToMove A o = 1 → rPlace A (rBst A) ≤ rPlace A o := by
  have h6 := hI.b6 0
  obtain ⟨i1, -, i3⟩ := rBest_spec (A := A) 700 0 (-1) (by omega) (by omega) (by omega)
  rcases i1 with q | q
  · exact absurd q h
  · exact ⟨q.1, q.2.1, q.2.2, fun o h1 h2 h3 => (i3 o h1 h2 h3).2⟩
theorem moveEnd_KK {A : rS} {P G : Nat → Prop} (h : KK A P G) (h18 : A 18 0 = 2) (hb : rBst A = -1) : KK (up (up A 18 0 3) 19 0 0) P G := by
  obtain ⟨hV, hR, hS, ⟨p1, p2, p3, p4, p5, p6⟩, hP, hg, ⟨t1, t2⟩⟩ := h
  have b1 := hV.1.b1 0
  have b6 := hV.1.b6 0
  have hI : RI (up (up A 18 0 3) 19 0 0) := (hV.1.u18 0 (by omega)).u19 0 (by omega)
  refine ⟨⟨hI, hV.2⟩, hR, hS, ⟨fun _ => p1 (by omega), fun _ => ?_, fun q => ?_, fun q => ?_, fun _ => p5 (by omega), fun _ o ho h12 h3 => ?_⟩, hP, hg, ⟨fun q => ?_, fun _ => t2 (by omega)⟩⟩
  · rw [up_s]; show (0 : Int) < A 1 0; omega
  · have : (up (up A 18 0 3) 19 0 0) 18 0 = 3 := rfl
    omega
  · have : (up (up A 18 0 3) 19 0 0) 18 0 = 3 := rfl
    omega
  · have ho : o < nn A := ho
    have h12 : A 12 o = 1 := h12
    have h3 : A 3 (A 7 o).toNat = 4 := h3
    show A 13 o = 1
    unfold nn at ho
    have b13 := hV.1.b13 o
    have := rBst_none hV.1 hb (o : Int) (by omega)
    rw [ne_eq, toMove_iff] at this
    simp only [Int.toNat_natCast] at this
    by_cases w : A 13 o = 0
    · exact absurd ⟨by omega, w, h3⟩ this
    · omega
  · have : (up (up A 18 0 3) 19 0 0) 18 0 = 3 := rfl
    omega
theorem moveOne_KK {A : rS} {P G : Nat → Prop} (h : KK A P G) (h18 : A 18 0 = 2) : KK (rMoveOne A) P G := by
  unfold rMoveOne
  split
  · rename_i hb; exact moveEnd_KK h h18 hb
  · rename_i hb
    obtain ⟨b1, b2, b3, -⟩ := rBst_some h.1.1 hb
    have b12 := h.1.1.b12 (rBst A).toNat
    exact carry_KK h h18 ⟨b1, b2⟩ (by have := (toMove_iff.mp b3).1; omega)
/-- what a region is behind a cycle -/
def fin3 (s f : Int) : Int := if s = 4 then (if f = 0 then 0 else 3) else if s = 2 then 3 else s
theorem end_k {A : rS} {x : Int} (k i : Nat) (h3 : k ≠ 3) (h4 : k ≠ 4) : rEnd2 (rEnd1 A x) x k i = A k i := by
  unfold rEnd2 rEnd1
  rw [up_k _ _ h3]
  split
  · rw [up_k _ _ h4, up_k _ _ h3]
  · rfl
theorem end_3 {A : rS} {x : Int} (i : Nat) : rEnd2 (rEnd1 A x) x 3 i = if i = x.toNat then fin3 (A 3 i) (A 5 i) else A 3 i := by
  unfold rEnd2 rEnd1 fin3
  by_cases e : i = x.toNat
  · subst e
    rw [if_pos rfl, up_s]
    by_cases c1 : A 3 x.toNat = 4 ∧ A 5 x.toNat = 0
    · rw [if_pos c1, up_k _ _ (by decide), up_s, if_pos c1.1, if_pos c1.2]
      rfl
    · rw [if_neg c1]
      by_cases c4 : A 3 x.toNat = 4
      · rw [if_pos (Or.inl c4), if_pos c4, if_neg (fun q => c1 ⟨c4, q⟩)]
      · rw [if_neg (c := A 3 x.toNat = 4) c4]
        by_cases c2 : A 3 x.toNat = 2
        · rw [if_pos (Or.inr c2), if_pos c2]
        · rw [if_neg (fun q => q.elim c4 c2), if_neg c2]
  · rw [if_neg (c := i = x.toNat) e, up_i _ e]
    split
    · rw [up_k _ _ (by decide), up_i _ e]
    · rfl
theorem end_4 {A : rS} {x : Int} (i : Nat) : rEnd2 (rEnd1 A x) x 4 i = if i = x.toNat ∧ A 3 i = 4 ∧ A 5 i = 0 then 0 else A 4 i := by
  unfold rEnd2 rEnd1
  rw [up_k _ _ (by decide)]
  by_cases e : i = x.toNat
  · subst e
    by_cases c1 : A 3 x.toNat = 4 ∧ A 5 x.toNat = 0
    · rw [if_pos c1, if_pos ⟨rfl, c1⟩, up_s]
    · rw [if_neg c1, if_neg (fun q => c1 q.2)]
  · rw [if_neg (c := i = x.toNat ∧ A 3 i = 4 ∧ A 5 i = 0) (fun q => e q.1)]
    split
    · rw [up_i _ e, up_k _ _ (by decide)]
    · rfl
theorem rEnd_k : ∀ (f : Nat) (x : Int) (A : rS) (k i : Nat), k ≠ 3 → k ≠ 4 → rEnd f x A k i = A k i := by
  intro f
  induction f with
  | zero => intro x A k i _ _; rfl
  | succ f ih =>
    intro x A k i h3 h4
    rw [rEnd]
    split
    · rfl
    · rw [ih _ _ _ _ h3 h4, end_k k i h3 h4]
theorem rEnd_3 : ∀ (f : Nat) (x : Int) (A : rS), 0 ≤ x → A 1 0 < (f : Int) + x → ∀ i : Nat, rEnd f x A 3 i = if x ≤ i ∧ (i : Int) < A 1 0 then fin3 (A 3 i) (A 5 i) else A 3 i := by
  intro f
  induction f with
  | zero =>
    intro x A hx hf i
    rw [if_neg (by omega)]
    rfl
  | succ f ih =>
    intro x A hx hf i
    rw [rEnd]
    split
    · rw [if_neg (by omega)]
    · have e1 : rEnd2 (rEnd1 A x) x 1 0 = A 1 0 := end_k 1 0 (by decide) (by decide)
      rw [ih (x + 1) _ (by omega) (by rw [e1]; omega), e1, end_3, end_k 5 i (by decide) (by decide)]
      by_cases e : i = x.toNat
      · rw [if_neg (by omega), if_pos e, if_pos (by omega)]
      · rw [if_neg (c := i = x.toNat) e]
        by_cases c : x ≤ i ∧ (i : Int) < A 1 0
        · rw [if_pos (by omega), if_pos c]
        · rw [if_neg (by omega), if_neg c]
theorem rEnd_4 : ∀ (f : Nat) (x : Int) (A : rS), 0 ≤ x → A 1 0 < (f : Int) + x → ∀ i : Nat, rEnd f x A 4 i = if (x ≤ i ∧ (i : Int) < A 1 0) ∧ A 3 i = 4 ∧ A 5 i = 0 then 0 else A 4 i := by
  intro f
  induction f with
  | zero =>
    intro x A hx hf i
    rw [if_neg (by omega)]
    rfl
  | succ f ih =>
    intro x A hx hf i
    rw [rEnd]
    split
    · rw [if_neg (by omega)]
    · have e1 : rEnd2 (rEnd1 A x) x 1 0 = A 1 0 := end_k 1 0 (by decide) (by decide)
      rw [ih (x + 1) _ (by omega) (by rw [e1]; omega), e1, end_4, end_3, end_k 5 i (by decide) (by decide)]
      by_cases e : i = x.toNat
      · rw [if_neg (c := (x + 1 ≤ (i : Int) ∧ (i : Int) < A 1 0) ∧ _) (by omega)]
        by_cases c : A 3 i = 4 ∧ A 5 i = 0
        · rw [if_pos ⟨e, c⟩, if_pos ⟨by omega, c⟩]
        · rw [if_neg (fun q => c q.2), if_neg (fun q => c q.2)]
      · rw [if_neg (c := i = x.toNat) e, if_neg (c := i = x.toNat ∧ _) (fun q => e q.1)]
        by_cases c : (x ≤ i ∧ (i : Int) < A 1 0) ∧ A 3 i = 4 ∧ A 5 i = 0
        · rw [if_pos ⟨by omega, c.2⟩, if_pos c]
        · rw [if_neg (fun q => c ⟨by omega, q.2⟩), if_neg c]
end
section
/-! a unit of updating; a cycle begins -/
/-- the objects that stand behind a cycle -/
def pEnd (A : rS) (P : Nat → Prop) : Nat → Prop := fun o => P o ∧ ¬ (A 3 (A 7 o).toNat = 4 ∧ A 5 (A 7 o).toNat = 0)
/-- .. behind a unit -/
def pUnit (A : rS) (P : Nat → Prop) : Nat → Prop := fun o => P o ∧ ¬ (A 18 0 = 3 ∧ A 1 0 ≤ A 19 0 + 1 ∧ A 3 (A 7 o).toNat = 4 ∧ A 5 (A 7 o).toNat = 0)
theorem RI_of {A B : rS} (h : RI A) (h' : ∀ k i, k < 20 → B k i = A k i ∨ (slo k ≤ B k i ∧ B k i ≤ shi k)) : RI B := fun k i hk => by
  rcases h' k i hk with e | e
  · rw [e]; exact h k i hk
  · exact e
theorem fin3_b {s f : Int} (hs : 0 ≤ s ∧ s ≤ 4) : 0 ≤ fin3 s f ∧ fin3 s f ≤ 4 := by unfold fin3; repeat' split <;> omega
theorem update_KK {A : rS} {P G : Nat → Prop} (h : KK A P G) (h18 : A 18 0 = 3) : KK (rUpdate A) (pUnit A P) G := by
  obtain ⟨hV, hR, ⟨s1, s2, s3⟩, ⟨p1, p2, p3, p4, p5, p6⟩, ⟨q1, q2, q3⟩, hg, ⟨t1, t2⟩⟩ := h
  have b1 := hV.1.b1 0
  have b19 := hV.1.b19 0
  have n19 := p2 h18
  unfold rUpdate
  split
  · rename_i hn
    have eP : pUnit A P = P := by
      funext o
      exact propext ⟨fun q => q.1, fun q => ⟨q, fun w => by omega⟩⟩
    rw [eP]
    have e : ∀ k i, k ≠ 19 → up A 19 0 (A 19 0 + 1) k i = A k i := fun k i hk => up_k _ _ hk
    refine ⟨⟨hV.1.u19 0 (by omega), hV.2⟩, hR, ⟨s1, s2, s3⟩, ⟨p1, fun _ => ?_, p3, p4, p5, p6⟩, ⟨q1, q2, q3⟩, hg, ⟨t1, t2⟩⟩
    rw [up_s]
    exact hn
  · rename_i hn
    have eP : pUnit A P = pEnd A P := by
      funext o
      exact propext ⟨fun q => ⟨q.1, fun w => q.2 ⟨h18, by omega, w⟩⟩, fun q => ⟨q.1, fun w => q.2 w.2.2⟩⟩
    rw [eP]
    generalize hB : up (rEnd 20 0 (up A 19 0 (A 19 0 + 1))) 18 0 0 = B
    have f1 : (up A 19 0 (A 19 0 + 1)) 1 0 = A 1 0 := rfl
    have e : ∀ k i, k ≠ 3 → k ≠ 4 → k ≠ 18 → k ≠ 19 → B k i = A k i := fun k i k3 k4 k8 k9 => by rw [← hB, up_k _ _ k8, rEnd_k _ _ _ _ _ k3 k4, up_k _ _ k9]
    have e3 : ∀ r : Nat, (r : Int) < A 1 0 → B 3 r = fin3 (A 3 r) (A 5 r) := fun r hr => by
      rw [← hB, up_k _ _ (by decide), rEnd_3 _ _ _ (by omega) (by rw [f1]; omega), f1, if_pos ⟨by omega, hr⟩]
      rfl
    have e3' : ∀ r : Nat, B 3 r = fin3 (A 3 r) (A 5 r) ∨ B 3 r = A 3 r := fun r => by
      rw [← hB, up_k _ _ (by decide), rEnd_3 _ _ _ (by omega) (by rw [f1]; omega), f1]
      split
      · exact Or.inl rfl
      · exact Or.inr rfl
    have e4 : ∀ r : Nat, B 4 r = if ((0 : Int) ≤ r ∧ (r : Int) < A 1 0) ∧ A 3 r = 4 ∧ A 5 r = 0 then 0 else A 4 r := fun r => by
      rw [← hB, up_k _ _ (by decide), rEnd_4 _ _ _ (by omega) (by rw [f1]; omega), f1]
      rfl
    have e18 : B 18 0 = 0 := by rw [← hB, up_s]
    have e19 : B 19 0 = A 19 0 + 1 := by rw [← hB, up_k _ _ (by decide), rEnd_k _ _ _ _ _ (by decide) (by decide), up_s]
    have e19' : ∀ i, B 19 i = A 19 i ∨ B 19 i = A 19 0 + 1 := fun i => by
      rw [← hB, up_k _ _ (by decide), rEnd_k _ _ _ _ _ (by decide) (by decide)]
      unfold up
      split
      · exact Or.inr rfl
      · exact Or.inl rfl
    have e18' : ∀ i, B 18 i = A 18 i ∨ B 18 i = 0 := fun i => by
      rw [← hB]
      unfold up
      split
      · exact Or.inr rfl
      · rw [rEnd_k _ _ _ _ _ (by decide) (by decide)]
        exact Or.inl rfl
    have e1 := e 1 0 (by decide) (by decide) (by decide) (by decide)
    have e6 := e 6 0 (by decide) (by decide) (by decide) (by decide)
    have en : nn B = nn A := by unfold nn; rw [e6]
    have hI : RI B := by
      refine RI_of hV.1 (fun k i hk => ?_)
      by_cases k3 : k = 3
      · subst k3
        rcases e3' i with w | w
        · right; rw [w]; exact fin3_b (hV.1.b3 i)
        · exact Or.inl w
      · by_cases k4 : k = 4
        · subst k4
          rw [e4]
          split
          · exact Or.inr (by decide)
          · exact Or.inl rfl
        · by_cases k8 : k = 18
          · subst k8
            rcases e18' i with w | w
            · exact Or.inl w
            · right; rw [w]; decide
          · by_cases k9 : k = 19
            · subst k9
              rcases e19' i with w | w
              · exact Or.inl w
              · right; rw [w]; show (0 : Int) ≤ _ ∧ _ ≤ (16 : Int); omega
            · exact Or.inl (e k i k3 k4 k8 k9)
    have hm : ∀ o, o < nn A → (A 7 o).toNat < 16 ∧ ((A 7 o).toNat : Int) < A 1 0 := fun o ho => by
      have := hV.2.1 o ho
      have := hV.1.b7 o
      omega
    have keep : ∀ o, o < nn A → A 12 o = 1 → P o → pEnd A P o := fun o ho h12 hp => ⟨hp, fun w => by
      have h13 := p6 h18 o ho h12 w.1
      have h5 := p5 (by omega) o ho h13 w.1
      omega⟩
    refine ⟨⟨hI, ?_, ?_, ?_, ?_⟩, ?_, ⟨?_, ?_, ?_⟩, ⟨?_, ?_, ?_, ?_, ?_, ?_⟩, ⟨?_, ?_, ?_⟩, ⟨?_, ?_, ?_⟩, ⟨?_, ?_⟩⟩
    · intro o ho
      rw [en] at ho
      rw [e 9 _ (by decide) (by decide) (by decide) (by decide), e 7 _ (by decide) (by decide) (by decide) (by decide), e1]; exact hV.2.1 o ho
    · intro o i ho
      rw [en] at ho
      rw [e 9 _ (by decide) (by decide) (by decide) (by decide), e 11 _ (by decide) (by decide) (by decide) (by decide), e6]; exact hV.2.2.1 o i ho
    · intro k; rw [e 14 _ (by decide) (by decide) (by decide) (by decide), e6]; exact hV.2.2.2.1 k
    · rw [e6]; exact hV.2.2.2.2
    · refine ⟨by rw [e 16 _ (by decide) (by decide) (by decide) (by decide), e 17 _ (by decide) (by decide) (by decide) (by decide)]; exact hR.1, fun i => ?_, fun i j => ?_⟩
      · rw [e 17 _ (by decide) (by decide) (by decide) (by decide), e 15 _ (by decide) (by decide) (by decide) (by decide), e 12 _ (by decide) (by decide) (by decide) (by decide), e6]; exact hR.2.1 i
      · rw [e 17 _ (by decide) (by decide) (by decide) (by decide), e 15 _ (by decide) (by decide) (by decide) (by decide), e 15 _ (by decide) (by decide) (by decide) (by decide)]; exact hR.2.2 i j
    · intro r hr
      rw [e4]
      split
      · rfl
      · rename_i w
        by_cases rl : (r : Int) < A 1 0
        · rw [e3 r rl] at hr
          unfold fin3 at hr
          split at hr
          · split at hr
            · rename_i w1 w2
              exact absurd ⟨⟨by omega, rl⟩, w1, w2⟩ w
            · omega
          · split at hr
            · omega
            · exact s1 r hr
        · have e9 : B 3 r = A 3 r := by
            rw [← hB, up_k _ _ (by decide), rEnd_3 _ _ _ (by omega) (by rw [f1]; omega), f1, if_neg (by omega)]
            rfl
          rw [e9] at hr
          exact s1 r hr
    · intro r q hr hq
      rw [e1] at hr hq
      rw [e3 r hr, e3 q hq]
      intro w1 w2
      have k : ∀ s f : Int, fin3 s f = 1 → s = 1 := fun s f => by unfold fin3; repeat' split <;> omega
      exact s2 r q hr hq (k _ _ w1) (k _ _ w2)
    · intro r q hr hq
      rw [e1] at hr hq
      rw [e3 r hr, e3 q hq]
      intro w1
      have k : ∀ s f : Int, fin3 s f ≠ 2 := fun s f => by unfold fin3; repeat' split <;> omega
      exact absurd w1 (k _ _)
    · intro _
      rw [e 16 _ (by decide) (by decide) (by decide) (by decide), e 17 _ (by decide) (by decide) (by decide) (by decide)]; exact p1 (by omega)
    · intro q; rw [e18] at q; omega
    · intro _ r hr
      rw [e1] at hr
      rw [e3 r hr]
      unfold fin3
      repeat' split <;> omega
    · intro q; rw [e18] at q; omega
    · intro q; rw [e18] at q; omega
    · intro q; rw [e18] at q; omega
    · rintro o ⟨ho, hw⟩
      obtain ⟨a1, a2, a3⟩ := q1 o ho
      obtain ⟨m1, m2⟩ := hm o a1
      rw [en, e 7 _ (by decide) (by decide) (by decide) (by decide), e3 _ m2, e 8 _ (by decide) (by decide) (by decide) (by decide), e 9 _ (by decide) (by decide) (by decide) (by decide), e4, if_neg (fun w => hw w.2)]
      refine ⟨a1, ?_, a3⟩
      unfold fin3
      split
      · rename_i w; rw [if_neg (fun w2 => hw ⟨w, w2⟩)]; omega
      · split <;> omega
    · intro o ho h12
      rw [en] at ho
      rw [e 12 _ (by decide) (by decide) (by decide) (by decide)] at h12
      exact keep o ho h12 (q2 o ho h12)
    · rintro a b ⟨ha, -⟩ ⟨hb, -⟩
      rw [e 7 _ (by decide) (by decide) (by decide) (by decide), e 7 _ (by decide) (by decide) (by decide) (by decide), e 8 _ (by decide) (by decide) (by decide) (by decide), e 8 _ (by decide) (by decide) (by decide) (by decide)]; exact q3 a b ha hb
    · intro o ho
      have hp := hg.1 o ho
      exact keep o (q1 o hp).1 (t2 (by omega) o ho) hp
    · intro k; rw [e 14 _ (by decide) (by decide) (by decide) (by decide)]; exact hg.2.1 k
    · intro a i; rw [e 9 _ (by decide) (by decide) (by decide) (by decide), e 11 _ (by decide) (by decide) (by decide) (by decide)]; exact hg.2.2 a i
    · intro q; rw [e18] at q; omega
    · intro q; rw [e18] at q; omega
theorem unit_KK {A : rS} {P G : Nat → Prop} (h : KK A P G) : KK (rUnit A) (pUnit A P) G := by
  have b18 := h.1.1.b18 0
  have h16 := h.2.1.1
  have eP : A 18 0 ≠ 3 → pUnit A P = P := fun q => by
    funext o
    exact propext ⟨fun w => w.1, fun w => ⟨w, fun v => q v.1⟩⟩
  unfold rUnit
  split
  · rename_i w
    rw [eP (by omega)]
    by_cases hr : A 16 0 < A 17 0
    · exact mark1_KK h w hr
    · exact mark2_KK h w (by omega)
  · split
    · rename_i w; rw [eP (by omega)]; exact moveOne_KK h w
    · split
      · rename_i w; exact update_KK h w
      · rw [eP (by assumption)]; exact h
end
section
/-! a cycle begins -/
theorem rClr_k : ∀ (f : Nat) (x : Int) (A : rS) (k i : Nat), k ≠ 12 → k ≠ 13 → rClr f x A k i = A k i := by
  intro f
  induction f with
  | zero => intro x A k i _ _; rfl
  | succ f ih =>
    intro x A k i h3 h4
    rw [rClr]
    split
    · rfl
    · rw [ih _ _ _ _ h3 h4, up_k _ _ h4, up_k _ _ h3]
theorem rClr_z : ∀ (f : Nat) (x : Int) (A : rS) (k : Nat), (k = 12 ∨ k = 13) → 0 ≤ x → A 6 0 < (f : Int) + x → ∀ i : Nat, rClr f x A k i = if x ≤ i ∧ (i : Int) < A 6 0 then 0 else A k i := by
  intro f
  induction f with
  | zero =>
    intro x A k hk hx hf i
    rw [if_neg (by omega)]
    rfl
  | succ f ih =>
    intro x A k hk hx hf i
    rw [rClr]
    split
    · rw [if_neg (by omega)]
    · have e6 : (up (up A 12 x.toNat 0) 13 x.toNat 0) 6 0 = A 6 0 := rfl
      rw [ih (x + 1) _ k hk (by omega) (by rw [e6]; omega), e6]
      by_cases e : i = x.toNat
      · rw [if_neg (by omega), if_pos (by omega)]
        rcases hk with rfl | rfl
        · rw [up_k _ _ (by decide), e, up_s]
        · rw [e, up_s]
      · rw [up_i _ e, up_i _ e]
        by_cases c : x ≤ i ∧ (i : Int) < A 6 0
        · rw [if_pos (by omega), if_pos c]
        · rw [if_neg (by omega), if_neg c]
/-- the registers from k on -/
def GE (A : rS) (k : Int) : Nat → Prop := fun y => ∃ j : Nat, k ≤ j ∧ j < 10 ∧ 0 ≤ A 14 j ∧ y = (A 14 j).toNat
theorem seeR_KM {P G : Nat → Prop} : ∀ (f : Nat) (x : Int) (A : rS), 0 ≤ x → (f : Int) + x = 20 → KM A P G (GE A x) → KM (rSeeR f x A) P G (fun _ => False) := by
  intro f
  induction f with
  | zero =>
    intro x A hx hf h
    obtain ⟨hV, hR, hS, hP, hg, hs, ht⟩ := h
    exact ⟨hV, hR, hS, hP, hg, hs, ht.mono (fun y hy => by obtain ⟨j, j1, j2, -⟩ := hy; omega)⟩
  | succ f ih =>
    intro x A hx hf h
    have hV := h.1
    rw [rSeeR]
    split
    · obtain ⟨hV, hR, hS, hP, hg, hs, ht⟩ := h
      exact ⟨hV, hR, hS, hP, hg, hs, ht.mono (fun y hy => by obtain ⟨j, j1, j2, -⟩ := hy; omega)⟩
    · rename_i hn
      have h14 := hV.1.b14 x.toNat
      have key : KM (rSee A (A 14 x.toNat)) P G (GE A (x + 1)) := by
        refine see_KM h14.1 (fun h0 => ?_) ?_
        · exact h.2.2.2.2.1.2.1 x.toNat (by omega) h0
        · obtain ⟨hV, hR, hS, hP, hg, hs, ht⟩ := h
          refine ⟨hV, hR, hS, hP, hg, hs, ht.mono (fun y hy => ?_)⟩
          obtain ⟨j, j1, j2, j3, j4⟩ := hy
          by_cases e : (j : Int) = x
          · right
            have ej : j = x.toNat := by omega
            rw [ej] at j3 j4
            exact ⟨j3, j4⟩
          · left
            exact ⟨j, by omega, j2, j3, j4⟩
      refine ih (x + 1) _ (by omega) (by omega) ?_
      have e : GE (rSee A (A 14 x.toNat)) (x + 1) = GE A (x + 1) := by
        funext y
        unfold GE
        congr
        funext j
        rw [see_k 14 _ (by decide) (by decide) (by decide)]
      rw [e]
      exact key
theorem seeR_k : ∀ (f : Nat) (x : Int) (A : rS) (k i : Nat), k ≠ 12 → k ≠ 15 → k ≠ 17 → rSeeR f x A k i = A k i := by
  intro f
  induction f with
  | zero => intro x A k i _ _ _; rfl
  | succ f ih =>
    intro x A k i h1 h2 h3
    rw [rSeeR]
    split
    · rfl
    · rw [ih _ _ k i h1 h2 h3, see_k k i h1 h2 h3]
/-- what registers reach -/
def rch (A : rS) : Nat → Prop := fun o => ∀ T : Nat → Prop, (∀ k : Nat, k < 10 → 0 ≤ A 14 k → T (A 14 k).toNat) → (∀ x i : Nat, T x → (i : Int) < A 9 x - 2 → 0 ≤ A 11 (21 * x + i) → T (A 11 (21 * x + i)).toNat) → T o
theorem start_e {A : rS} (k i : Nat) (h1 : k ≠ 12) (h2 : k ≠ 13) (h3 : k ≠ 15) (h4 : k ≠ 16) (h5 : k ≠ 17) (h6 : k ≠ 18) : rStart A k i = A k i := by
  unfold rStart
  rw [up_k _ _ h6, seeR_k _ _ _ _ _ h1 h3 h5, up_k _ _ h5, up_k _ _ h4, rClr_k _ _ _ _ _ h1 h2]
theorem start_KK {A : rS} {P G : Nat → Prop} (h : KK A P G) (h18 : A 18 0 = 0) : KK (rStart A) P (rch A) := by
  obtain ⟨hV, hR, ⟨s1, s2, s3⟩, ⟨p1, p2, p3, p4, p5, p6⟩, ⟨q1, q2, q3⟩, hg, ⟨t1, t2⟩⟩ := h
  have b6 := hV.1.b6 0
  have hle := hR.le hV
  generalize hB : up (up (rClr 700 0 A) 16 0 0) 17 0 0 = B
  have e : ∀ k i, k ≠ 12 → k ≠ 13 → k ≠ 16 → k ≠ 17 → B k i = A k i := fun k i k1 k2 k3 k4 => by rw [← hB, up_k _ _ k4, up_k _ _ k3, rClr_k _ _ _ _ _ k1 k2]
  have e12 : ∀ o, o < nn A → B 12 o = 0 := fun o ho => by
    unfold nn at ho
    rw [← hB, up_k _ _ (by decide), up_k _ _ (by decide), rClr_z 700 0 A 12 (Or.inl rfl) (by omega) (by omega), if_pos (by omega)]
  have e13 : ∀ o, o < nn A → B 13 o = 0 := fun o ho => by
    unfold nn at ho
    rw [← hB, up_k _ _ (by decide), up_k _ _ (by decide), rClr_z 700 0 A 13 (Or.inr rfl) (by omega) (by omega), if_pos (by omega)]
  have e16 : B 16 0 = 0 := by rw [← hB, up_k _ _ (by decide), up_s]
  have e17 : B 17 0 = 0 := by rw [← hB, up_s]
  have e1 := e 1 0 (by decide) (by decide) (by decide) (by decide)
  have e6 := e 6 0 (by decide) (by decide) (by decide) (by decide)
  have en : nn B = nn A := by unfold nn; rw [e6]
  have hI : RI B := by
    have h1 : RI (rClr 700 0 A) := by
      refine RI_of hV.1 (fun k i hk => ?_)
      by_cases w : k = 12 ∨ k = 13
      · rw [rClr_z 700 0 A k w (by omega) (by omega)]
        split
        · right; rcases w with rfl | rfl <;> decide
        · exact Or.inl rfl
      · exact Or.inl (rClr_k _ _ _ _ _ (fun q => w (Or.inl q)) (fun q => w (Or.inr q)))
    rw [← hB]
    exact (h1.u16 0 (by omega)).u17 0 (by omega)
  have sub : ∀ o, rch A o → G o := fun o ho => ho G hg.2.1 (fun x i hx hi hf => hg.2.2 x i hx hi hf)
  have rregs : ∀ k : Nat, k < 10 → 0 ≤ A 14 k → rch A (A 14 k).toNat := fun k hk h0 T c1 c2 => c1 k hk h0
  have rcl : ∀ o i : Nat, rch A o → (i : Int) < A 9 o - 2 → 0 ≤ A 11 (21 * o + i) → rch A (A 11 (21 * o + i)).toNat := fun o i ho hi hf T c1 c2 => c2 o i (ho T c1 c2) hi hf
  have hM : KM B P (rch A) (GE B 0) := by
    refine ⟨⟨hI, ?_, ?_, ?_, ?_⟩, ⟨?_, ?_, ?_⟩, ⟨?_, ?_, ?_⟩, ⟨?_, ?_, ?_⟩, ⟨?_, ?_, ?_⟩, ?_, ?_⟩
    · intro o ho
      rw [en] at ho
      rw [e 9 _ (by decide) (by decide) (by decide) (by decide), e 7 _ (by decide) (by decide) (by decide) (by decide), e1]; exact hV.2.1 o ho
    · intro o i ho
      rw [en] at ho
      rw [e 9 _ (by decide) (by decide) (by decide) (by decide), e 11 _ (by decide) (by decide) (by decide) (by decide), e6]; exact hV.2.2.1 o i ho
    · intro k; rw [e 14 _ (by decide) (by decide) (by decide) (by decide), e6]; exact hV.2.2.2.1 k
    · rw [e6]; exact hV.2.2.2.2
    · rw [e16, e17]; omega
    · intro i hi; rw [e17] at hi; omega
    · intro i j hi; rw [e17] at hi; omega
    · intro r; rw [e 3 _ (by decide) (by decide) (by decide) (by decide), e 4 _ (by decide) (by decide) (by decide) (by decide)]; exact s1 r
    · intro r q; rw [e1, e 3 _ (by decide) (by decide) (by decide) (by decide), e 3 _ (by decide) (by decide) (by decide) (by decide)]; exact s2 r q
    · intro r q; rw [e1, e 3 _ (by decide) (by decide) (by decide) (by decide), e 3 _ (by decide) (by decide) (by decide) (by decide)]; exact s3 r q
    · intro o ho
      rw [en, e 7 _ (by decide) (by decide) (by decide) (by decide), e 3 _ (by decide) (by decide) (by decide) (by decide), e 8 _ (by decide) (by decide) (by decide) (by decide), e 9 _ (by decide) (by decide) (by decide) (by decide), e 4 _ (by decide) (by decide) (by decide) (by decide)]; exact q1 o ho
    · intro o ho h12
      rw [en] at ho
      rw [e12 o ho] at h12
      omega
    · intro a b; rw [e 7 _ (by decide) (by decide) (by decide) (by decide), e 7 _ (by decide) (by decide) (by decide) (by decide), e 8 _ (by decide) (by decide) (by decide) (by decide), e 8 _ (by decide) (by decide) (by decide) (by decide)]; exact q3 a b
    · intro o ho; exact hg.1 o (sub o ho)
    · intro k; rw [e 14 _ (by decide) (by decide) (by decide) (by decide)]; exact rregs k
    · intro o i; rw [e 9 _ (by decide) (by decide) (by decide) (by decide), e 11 _ (by decide) (by decide) (by decide) (by decide)]; exact rcl o i
    · intro o ho h12
      rw [en] at ho
      rw [e12 o ho] at h12
      omega
    · intro o ho
      right
      intro T c1 c2 c3
      refine (ho (fun x => T x ∧ G x) (fun k hk h0 => ⟨c2 _ ⟨k, by omega, hk, ?_, ?_⟩, hg.2.1 k hk h0⟩) (fun x i hx hi hf => ⟨?_, hg.2.2 x i hx.2 hi hf⟩)).1
      · rw [e 14 _ (by decide) (by decide) (by decide) (by decide)]; exact h0
      · rw [e 14 _ (by decide) (by decide) (by decide) (by decide)]
      · have c4 := c3 x hx.1 (Or.inl (e12 x (q1 x (hg.1 x hx.2)).1)) i
        rw [e 9 _ (by decide) (by decide) (by decide) (by decide), e 11 _ (by decide) (by decide) (by decide) (by decide)] at c4
        exact c4 hi hf
  have hS : rStart A = up (rSeeR 20 0 B) 18 0 1 := by rw [← hB]; rfl
  rw [hS]
  obtain ⟨hV', hR', hS', hP', hg', hs', ht'⟩ := seeR_KM 20 0 B (by omega) (by omega) hM
  have k : ∀ k i, k ≠ 12 → k ≠ 15 → k ≠ 17 → rSeeR 20 0 B k i = B k i := fun k i => seeR_k 20 0 B k i
  have k18 : (up (rSeeR 20 0 B) 18 0 1) 18 0 = 1 := up_s _ _ _ _
  refine ⟨⟨hV'.1.u18 0 (by omega), hV'.2⟩, hR', hS', ⟨?_, ?_, ?_, ?_, ?_, ?_⟩, hP', hg', ⟨fun _ => ⟨hs', ht'⟩, ?_⟩⟩
  · intro q; exact absurd k18 q
  · intro q; rw [k18] at q; omega
  · intro _ r hr
    rw [up_k _ _ (by decide), k 3 r (by decide) (by decide) (by decide), e 3 _ (by decide) (by decide) (by decide) (by decide)]
    rw [up_k _ _ (by decide), k 1 0 (by decide) (by decide) (by decide), e1] at hr
    exact p3 (by omega) r hr
  · intro _ o ho
    have ho : o < nn (rSeeR 20 0 B) := ho
    unfold nn at ho
    rw [k 6 0 (by decide) (by decide) (by decide), e6] at ho
    rw [up_k _ _ (by decide), k 13 o (by decide) (by decide) (by decide)]
    exact e13 o ho
  · intro q; rw [k18] at q; omega
  · intro q; rw [k18] at q; omega
  · intro q; rw [k18] at q; omega
end
section
/-! units come to an end -/
def cmv (A : rS) : Nat → Int
  | 0 => 0
  | m + 1 => cmv A m + (if rToMove A (m : Int) = 1 then 1 else 0)
theorem cmv_b (A : rS) : ∀ m : Nat, 0 ≤ cmv A m ∧ cmv A m ≤ m := by
  intro m
  induction m with
  | zero => simp [cmv]
  | succ m ih =>
    rw [cmv]
    split <;> omega
theorem cmv_le {A B : rS} : ∀ m : Nat, (∀ o : Nat, o < m → rToMove B (o : Int) = 1 → rToMove A (o : Int) = 1) → cmv B m ≤ cmv A m := by
  intro m
  induction m with
  | zero => intro _; exact Int.le_refl _
  | succ m ih =>
    intro h
    have h1 := ih (fun o ho => h o (by omega))
    have h2 := h m (by omega)
    rw [cmv, cmv]
    by_cases w : rToMove B (m : Int) = 1
    · rw [if_pos w, if_pos (h2 w)]; omega
    · rw [if_neg w]; split <;> omega
theorem cmv_lt {A B : rS} (o0 : Nat) (ha : rToMove A (o0 : Int) = 1) (hb : rToMove B (o0 : Int) ≠ 1) : ∀ m : Nat, o0 < m → (∀ o : Nat, o < m → rToMove B (o : Int) = 1 → rToMove A (o : Int) = 1) → cmv B m + 1 ≤ cmv A m := by
  intro m
  induction m with
  | zero => intro h; omega
  | succ m ih =>
    intro ho h
    rw [cmv, cmv]
    by_cases e : o0 = m
    · subst e
      rw [if_neg hb, if_pos ha]
      have := cmv_le (A := A) (B := B) o0 (fun o ho => h o (by omega))
      omega
    · have h1 := ih (by omega) (fun o ho => h o (by omega))
      have h2 := h m (by omega)
      by_cases w : rToMove B (m : Int) = 1
      · rw [if_pos w, if_pos (h2 w)]; omega
      · rw [if_neg w]; split <;> omega
/-- who is moved has no longer to be moved, and nobody else has now -/
theorem carry_toMove {A : rS} {o : Int} (hI : RI A) (ho : 0 ≤ o) (q : Nat) (h : rToMove (rCarry A o) (q : Int) = 1) : rToMove A (q : Int) = 1 ∧ (q : Int) ≠ o := by
  rw [toMove_iff] at h ⊢
  simp only [Int.toNat_natCast] at h ⊢
  obtain ⟨h1, h2, h3⟩ := h
  rw [rCarry_k (k := 12) (by decide) (by decide) (by decide) (by decide) (by decide) (by decide) (by decide) (by decide)] at h1
  unfold rCarry at h2 h3
  have b2 := rWith_b hI 2
  have b0 := rWith_b hI 0
  split at h2
  · rename_i c1
    rw [if_pos c1] at h3
    split at h2
    · rename_i c2
      rw [if_pos c2] at h3
      rw [up_k _ _ (by decide), up_k _ _ (by decide)] at h2
      rw [up_k _ _ (by decide), up_k _ _ (by decide), up_k _ _ (by decide), up_k _ _ (by decide), up_k _ _ (by decide), up_k _ _ (by decide)] at h3
      by_cases e : q = o.toNat
      · rw [e, up_s] at h2; omega
      · rw [up_i _ e] at h2
        exact ⟨⟨h1, h2, h3⟩, by omega⟩
    · rename_i c2
      rw [if_neg c2] at h3
      have hw := rWith_some c2
      rw [rInto_k (by decide) (by decide) (by decide) (by decide), up_k _ _ (by decide), up_k _ _ (by decide)] at h2
      have h2 : A 13 q = 0 := by
        split at h2
        · exact h2
        · rw [up_k _ _ (by decide)] at h2; exact h2
      rw [into7, rInto_k (by decide) (by decide) (by decide) (by decide), up_k _ _ (by decide)] at h3
      by_cases e : q = o.toNat
      · rw [if_pos e, up_s] at h3; omega
      · have h7 : (up (up (if rWith A 2 = -1 then A else up A 3 (rWith A 2).toNat 3) 3 (rWith A 0).toNat 2) 4 (rWith A 0).toNat 0) 7 q = A 7 q := by
          rw [up_k _ _ (by decide), up_k _ _ (by decide)]
          split
          · rfl
          · rw [up_k _ _ (by decide)]
        rw [if_neg e, h7] at h3
        refine ⟨⟨h1, h2, ?_⟩, by omega⟩
        by_cases e2 : (A 7 q).toNat = (rWith A 0).toNat
        · rw [e2, up_s] at h3; omega
        · rw [up_i _ e2] at h3
          split at h3
          · exact h3
          · by_cases e3 : (A 7 q).toNat = (rWith A 2).toNat
            · rw [e3, up_s] at h3; omega
            · rw [up_i _ e3] at h3; exact h3
  · rename_i c1
    rw [if_neg c1] at h3
    have c2 : rWith A 2 ≠ -1 := fun w => c1 (Or.inl w)
    have hw := rWith_some c2
    rw [rInto_k (by decide) (by decide) (by decide) (by decide)] at h2
    rw [into7, rInto_k (by decide) (by decide) (by decide) (by decide)] at h3
    by_cases e : q = o.toNat
    · rw [if_pos e] at h3; omega
    · rw [if_neg e] at h3
      exact ⟨⟨h1, h2, h3⟩, by omega⟩
def ms (A : rS) : Int := if A 18 0 = 1 then 2 * A 6 0 - A 16 0 + A 1 0 + 4 else if A 18 0 = 2 then cmv A (nn A) + A 1 0 + 2 else if A 18 0 = 3 then A 1 0 - A 19 0 else 0
theorem ms_b {A : rS} {P G : Nat → Prop} (h : KK A P G) : 0 ≤ ms A ∧ ms A ≤ 1100 ∧ (A 18 0 ≠ 0 → 1 ≤ ms A) := by
  have hV := h.1
  have b1 := hV.1.b1 0
  have b6 := hV.1.b6 0
  have b16 := hV.1.b16 0
  have b18 := hV.1.b18 0
  have b19 := hV.1.b19 0
  have b5 := hV.2.2.2.2
  have hle := h.2.1.le hV
  have h16 := h.2.1.1
  have hn := h.2.2.2.1.2.1
  have hc := cmv_b A (nn A)
  have hnn : ((nn A : Nat) : Int) = A 6 0 := by unfold nn; omega
  unfold ms
  split
  · omega
  · split
    · omega
    · split
      · rename_i w; have := hn w; omega
      · omega
theorem unit_ms {A : rS} {P G : Nat → Prop} (h : KK A P G) (h0 : A 18 0 ≠ 0) : ms (rUnit A) < ms A := by
  have hV := h.1
  have b1 := hV.1.b1 0
  have b6 := hV.1.b6 0
  have b16 := hV.1.b16 0
  have b18 := hV.1.b18 0
  have hle := h.2.1.le hV
  have h16 := h.2.1.1
  unfold rUnit
  split
  · rename_i w
    have hA : ms A = 2 * A 6 0 - A 16 0 + A 1 0 + 4 := by unfold ms; rw [if_pos w]
    rw [hA]
    by_cases hr : A 17 0 ≤ A 16 0
    · have hm : rMark A = up (rChoose 20 0 A) 18 0 2 := by unfold rMark; rw [if_pos hr]
      obtain ⟨c1, -, -⟩ := choose_Ch 20 0 A hV.1
      have hm2 : ms (rMark A) = cmv (rMark A) (nn (rMark A)) + rMark A 1 0 + 2 := by
        unfold ms
        rw [if_neg (by rw [hm, up_s]; omega), if_pos (by rw [hm, up_s])]
      have hc := cmv_b (rMark A) (nn (rMark A))
      have e1 : rMark A 1 0 = A 1 0 := by rw [hm, up_k _ _ (by decide), c1 _ _ (by decide) (by decide)]
      have e6 : nn (rMark A) = nn A := by unfold nn; rw [hm, up_k _ _ (by decide), c1 _ _ (by decide) (by decide)]
      rw [hm2, e1]
      rw [e6] at hc ⊢
      unfold nn at hc ⊢
      omega
    · have hm : rMark A = rSeeF (A 15 (A 16 0).toNat) 30 0 (up A 16 0 (A 16 0 + 1)) := by unfold rMark; rw [if_neg hr]
      unfold ms
      rw [hm, if_pos (by rw [mark1_k _ _ (by decide) (by decide) (by decide) (by decide)]; exact w), mark1_k _ _ (by decide) (by decide) (by decide) (by decide), mark1_k 1 0 (by decide) (by decide) (by decide) (by decide), seeF_k _ _ _ _ _ (by decide) (by decide) (by decide), up_s]
      omega
  · rename_i w1
    split
    · rename_i w
      have hA : ms A = cmv A (nn A) + A 1 0 + 2 := by unfold ms; rw [if_neg w1, if_pos w]
      have hc := cmv_b A (nn A)
      rw [hA]
      unfold rMoveOne
      split
      · unfold ms
        rw [if_neg (by show ¬ ((3 : Int) = 1); omega), if_neg (by show ¬ ((3 : Int) = 2); omega), if_pos (by rfl), up_s]
        show A 1 0 - 0 < _
        omega
      · rename_i hb
        obtain ⟨c1, c2, c3, -⟩ := rBst_some hV.1 hb
        have e18 : rCarry A (rBst A) 18 0 = A 18 0 := rCarry_k (by decide) (by decide) (by decide) (by decide) (by decide) (by decide) (by decide) (by decide)
        have e1 : rCarry A (rBst A) 1 0 = A 1 0 := rCarry_k (by decide) (by decide) (by decide) (by decide) (by decide) (by decide) (by decide) (by decide)
        have e6 : nn (rCarry A (rBst A)) = nn A := by unfold nn; rw [rCarry_k (by decide) (by decide) (by decide) (by decide) (by decide) (by decide) (by decide) (by decide)]
        have eo : (((rBst A).toNat : Nat) : Int) = rBst A := by omega
        have hlt := cmv_lt (A := A) (B := rCarry A (rBst A)) (rBst A).toNat (by rw [eo]; exact c3) (fun q => (carry_toMove hV.1 c1 _ q).2 eo) (nn A) (by unfold nn; omega) (fun o _ q => (carry_toMove hV.1 c1 o q).1)
        unfold ms
        rw [e18, if_neg w1, if_pos w, e6, e1]
        omega
    · rename_i w2
      split
      · rename_i w
        have hn := h.2.2.2.1.2.1 w
        have hA : ms A = A 1 0 - A 19 0 := by unfold ms; rw [if_neg w1, if_neg w2, if_pos w]
        rw [hA]
        unfold rUpdate
        split
        · unfold ms
          rw [if_neg (by show ¬ (A 18 0 = 1); omega), if_neg (by show ¬ (A 18 0 = 2); omega), if_pos (by show A 18 0 = 3; omega), up_s]
          show A 1 0 - _ < _
          omega
        · unfold ms
          rw [up_s, if_neg (by decide), if_neg (by decide), if_neg (by decide)]
          omega
      · omega
def rRun : Nat → rS → rS
  | 0, A => A
  | f + 1, A => if A 18 0 ≤ 0 then A else rRun f (rUnit A)
def pRun : Nat → rS → (Nat → Prop) → Nat → Prop
  | 0, _, P => P
  | f + 1, A, P => if A 18 0 ≤ 0 then P else pRun f (rUnit A) (pUnit A P)
theorem run_KK : ∀ (f : Nat) {A : rS} {P G : Nat → Prop}, KK A P G → KK (rRun f A) (pRun f A P) G := by
  intro f
  induction f with
  | zero => intro A P G h; exact h
  | succ f ih =>
    intro A P G h
    rw [rRun, pRun]
    split
    · exact h
    · exact ih (unit_KK h)
theorem run_end : ∀ (f : Nat) {A : rS} {P G : Nat → Prop}, KK A P G → ms A ≤ f → rRun f A 18 0 = 0 := by
  intro f
  induction f with
  | zero =>
    intro A P G h hm
    have b18 := h.1.1.b18 0
    have := (ms_b h).2.2
    rw [rRun]
    by_cases w : A 18 0 = 0
    · exact w
    · have := this w; omega
  | succ f ih =>
    intro A P G h hm
    have b18 := h.1.1.b18 0
    rw [rRun]
    split
    · omega
    · have := unit_ms h (by omega)
      exact ih (unit_KK h) (by omega)
theorem run_stab : ∀ (f f' : Nat) {A : rS} {P G : Nat → Prop}, KK A P G → ms A ≤ f → f ≤ f' → rRun f' A = rRun f A ∧ pRun f' A P = pRun f A P := by
  intro f
  induction f with
  | zero =>
    intro f' A P G h hm hf
    have b18 := h.1.1.b18 0
    have := (ms_b h).2.2
    have w : A 18 0 ≤ 0 := by
      by_cases w : A 18 0 = 0
      · omega
      · have := this w; omega
    cases f' with
    | zero => exact ⟨rfl, rfl⟩
    | succ f' =>
      have e1 : rRun (f' + 1) A = A := by rw [rRun, if_pos w]
      have e2 : pRun (f' + 1) A P = P := by rw [pRun, if_pos w]
      exact ⟨e1, e2⟩
  | succ f ih =>
    intro f' A P G h hm hf
    cases f' with
    | zero => omega
    | succ f' =>
      rw [rRun, pRun, rRun, pRun]
      by_cases w : A 18 0 ≤ 0
      · rw [if_pos w, if_pos w, if_pos w, if_pos w]; exact ⟨rfl, rfl⟩
      · rw [if_neg w, if_neg w, if_neg w, if_neg w]
        have b18 := h.1.1.b18 0
        have := unit_ms h (by omega)
        exact ih f' (unit_KK h) (by omega) (by omega)
def rFin (A : rS) : rS := rRun 1100 A
def pFin (A : rS) (P : Nat → Prop) : Nat → Prop := pRun 1100 A P
theorem fin_KK {A : rS} {P G : Nat → Prop} (h : KK A P G) : KK (rFin A) (pFin A P) G ∧ rFin A 18 0 = 0 := ⟨run_KK 1100 h, run_end 1100 h (ms_b h).2.1⟩
/-- a whole collection -/
def rWhole (A : rS) : rS := rFin (rStart (rFin A))
def pWhole (A : rS) (P : Nat → Prop) : Nat → Prop := pFin (rStart (rFin A)) (pFin A P)
theorem whole_KK {A : rS} {P G : Nat → Prop} (h : KK A P G) : KK (rWhole A) (pWhole A P) (rch (rFin A)) ∧ rWhole A 18 0 = 0 := by
  obtain ⟨h1, h2⟩ := fin_KK h
  exact fin_KK (start_KK h1 h2)
end
section
/-! runs of units, a new object: functions and what they keep -/
theorem KK_0 {A : rS} {P G : Nat → Prop} {v : Int} (h : KK A P G) (hv : 0 ≤ v ∧ v ≤ 2) : KK (up A 0 0 v) P G := ⟨⟨h.1.1.u0 0 hv, h.1.2⟩, h.2⟩
theorem KK_17 {A : rS} {P G : Nat → Prop} (h : KK A P G) : A 17 0 < 590 := by have := h.2.1.le h.1; have := h.1.2.2.2.2; omega
theorem KK_19 {A : rS} {P G : Nat → Prop} (h : KK A P G) (h18 : A 18 0 = 3) : A 19 0 < 16 := by have := h.2.2.2.1.2.1 h18; have := h.1.1.b1 0; omega
theorem run_0 {B : rS} (h : B 18 0 ≤ 0) : ∀ f : Nat, rRun f B = B := by
  intro f
  cases f with
  | zero => rfl
  | succ f => rw [rRun, if_pos h]
theorem run_s {B : rS} {f : Nat} (hf : 0 < f) (h : ¬ B 18 0 ≤ 0) : rRun f B = rRun (f - 1) (rUnit B) := by
  cases f with
  | zero => omega
  | succ f => rw [rRun, if_neg h]; rfl
def rBegin (A : rS) : rS := if A 18 0 ≤ 0 then rStart (up A 0 0 0) else up A 0 0 0
def rBeginV (A : rS) : Int := bZ (A 18 0 ≤ 0)
def rWork (A : rS) (n : Int) : rS := if 0 ≤ n ∧ n ≤ 10000 then rRun n.toNat (up A 0 0 0) else up A 0 0 1
def rWorkV (A : rS) (n : Int) : Int := if 0 ≤ n ∧ n ≤ 10000 then rRun n.toNat (up A 0 0 0) 18 0 else 0
def rFr (A : rS) : Nat → Int → Int → Int
  | 0, _, n => n
  | f + 1, x, n => if A 1 0 ≤ x then n else rFr A f (x + 1) (if A 3 x.toNat = 0 then n + 1 else n)
def rFree (A : rS) : Int := rFr A 20 0 0
def rCollect (A : rS) : rS := rWhole (up A 0 0 0)
/-- the fields of a new object -/
def rFld (o c : Int) : Nat → Int → rS → rS
  | 0, _, A => A
  | f + 1, x, A => if c ≤ x then A else rFld o c f (x + 1) (up A 11 (21 * o + x).toNat (-1))
def rPut1 (B : rS) (c t : Int) : rS := up (up (up (up (up (up B 6 0 (B 6 0 + 1)) 7 (B 6 0).toNat (rWith B 1)) 8 (B 6 0).toNat (B 4 (rWith B 1).toNat)) 9 (B 6 0).toNat (c + 2)) 4 (rWith B 1).toNat (B 4 (rWith B 1).toNat + (c + 2))) 10 (B 6 0).toNat t
def rPut (B : rS) (r c t : Int) : rS := up (up (up (rFld (B 6 0) c 30 0 (rPut1 B c t)) 12 (B 6 0).toNat (bZ (0 < B 18 0))) 13 (B 6 0).toNat 0) 14 r.toNat (B 6 0)
abbrev rAllocOk (r c : Int) : Prop := rReg r ∧ 0 ≤ c ∧ c ≤ 20
/-- the state in which room was looked for the last time -/
def rAl1 (A : rS) (c : Int) : rS := if rHasV (up A 0 0 0) (c + 2) = 1 then rHas (up A 0 0 0) (c + 2) else rHas (rWhole (rHas (up A 0 0 0) (c + 2))) (c + 2)
def rAlV (A : rS) (c : Int) : Int := if rHasV (up A 0 0 0) (c + 2) = 1 then 1 else rHasV (rWhole (rHas (up A 0 0 0) (c + 2))) (c + 2)
def rAlloc (A : rS) (r c t : Int) : rS := if rAllocOk r c then (if rAlV A c = 1 then rPut (rAl1 A c) r c t else rAl1 A c) else up A 0 0 (if rReg r then 2 else 1)
def rAllocV (A : rS) (r c t : Int) : Int := if rAllocOk r c then (if rAlV A c = 1 then rPlace (rPut (rAl1 A c) r c t) (rAl1 A c 6 0) else -1) else 0
theorem rHasV_b (A : rS) (n : Int) : rHasV A n = 0 ∨ rHasV A n = 1 := by unfold rHasV; repeat' split <;> omega
theorem rFr_b {A : rS} : ∀ (f : Nat) (x n : Int), n ≤ rFr A f x n ∧ rFr A f x n ≤ n + f := by
  intro f
  induction f with
  | zero => intro x n; simp [rFr]
  | succ f ih =>
    intro x n
    rw [rFr]
    split
    · omega
    · generalize hg : (if A 3 x.toNat = 0 then n + 1 else n) = w
      have hw : n ≤ w ∧ w ≤ n + 1 := by rw [← hg]; split <;> omega
      have h1 := ih (x + 1) w
      omega
/-- the state of a region that is free, active or closed becomes another such one -/
theorem st_KK {A : rS} {P G : Nat → Prop} {r : Nat} {v : Int} (h : KK A P G) (hr : (r : Int) < A 1 0) (ho : A 3 r = 0 ∨ A 3 r = 1) (hv : v = 3 ∨ (v = 1 ∧ ∀ q : Nat, (q : Int) < A 1 0 → A 3 q ≠ 1)) (hv3 : v = 3 → A 3 r = 1) : KK (up A 3 r v) P G := by
  obtain ⟨hV, hR, ⟨s1, s2, s3⟩, ⟨p1, p2, p3, p4, p5, p6⟩, ⟨q1, q2, q3⟩, hg, ht⟩ := h
  have e : ∀ k i, k ≠ 3 → up A 3 r v k i = A k i := fun k i hk => up_k _ _ hk
  have e3 : ∀ i, up A 3 r v 3 i = if i = r then v else A 3 i := fun i => by simp [up]
  refine ⟨⟨hV.1.u3 _ (by omega), hV.2⟩, hR, ⟨?_, ?_, ?_⟩, ⟨p1, p2, ?_, p4, ?_, ?_⟩, ⟨?_, q2, q3⟩, hg, ht⟩
  · intro i
    rw [e3, e _ _ (by decide)]
    split
    · intro w; omega
    · exact s1 i
  · intro a b ha hb
    rw [e3, e3]
    rw [e _ _ (by decide)] at ha hb
    split <;> split
    · intro _ _; omega
    · intro w1 w2
      rcases hv with w | w
      · omega
      · exact absurd w2 (w.2 b hb)
    · intro w1 w2
      rcases hv with w | w
      · omega
      · exact absurd w1 (w.2 a ha)
    · exact s2 a b ha hb
  · intro a b ha hb
    rw [e3, e3]
    rw [e _ _ (by decide)] at ha hb
    split <;> split
    · intro _ _; omega
    · intro w1; omega
    · intro _ w1; omega
    · exact s3 a b ha hb
  · intro w a ha
    rw [e3]
    rw [e _ _ (by decide)] at ha w
    split
    · omega
    · exact p3 w a ha
  · intro w o hn h13
    rw [e 7 _ (by decide), e3, e 5 _ (by decide)]
    split
    · intro w1; omega
    · exact p5 w o hn h13
  · intro w o hn h12
    rw [e 7 _ (by decide), e3, e 13 _ (by decide)]
    split
    · intro w1; omega
    · exact p6 w o hn h12
  · intro o hp
    obtain ⟨a1, a2, a3⟩ := q1 o hp
    refine ⟨a1, ?_, a3⟩
    rw [e 7 _ (by decide), e3]
    split
    · omega
    · exact a2
theorem has1_KK {A : rS} {P G : Nat → Prop} {n : Int} (h : KK A P G) (hn : ¬ (rWith A 1 ≠ -1 ∧ A 4 (rWith A 1).toNat + n ≤ 128)) : KK (rHas1 A n) P G ∧ ∀ q : Nat, (q : Int) < rHas1 A n 1 0 → rHas1 A n 3 q ≠ 1 := by
  unfold rHas1
  split
  · rename_i w
    have hw := rWith_some w.1
    refine ⟨st_KK h (by omega) (Or.inr hw.2.2) (Or.inl rfl) (fun _ => hw.2.2), fun q hq => ?_⟩
    rw [up_k _ _ (by decide)] at hq
    by_cases e : q = (rWith A 1).toNat
    · rw [e, up_s]; decide
    · rw [up_i _ e]
      intro w2
      exact e (h.2.2.1.2.1 q (rWith A 1).toNat hq (by omega) w2 hw.2.2)
  · rename_i w
    refine ⟨h, fun q hq => ?_⟩
    by_cases e : rWith A 1 = -1
    · exact rWith_none h.1.1 e q hq
    · exact absurd (⟨e, by omega⟩ : rWith A 1 ≠ -1 ∧ _) (fun w2 => hn ⟨e, by have := fun w3 => w ⟨e, w3⟩; omega⟩)
theorem has_KK {A : rS} {P G : Nat → Prop} {n : Int} (h : KK A P G) : KK (rHas A n) P G := by
  unfold rHas
  split
  · exact h
  · rename_i hn
    obtain ⟨h1, h2⟩ := has1_KK h hn
    unfold rHas2
    split
    · exact h1
    · rename_i w
      have hw := rWith_some w
      exact st_KK h1 (by omega) (Or.inl hw.2.2) (Or.inr ⟨rfl, h2⟩) (fun q => absurd q (by decide))
theorem has_k {A : rS} {n : Int} (k i : Nat) (hk : k ≠ 3) : rHas A n k i = A k i := by
  unfold rHas rHas2 rHas1
  repeat' split
  all_goals first | rfl | (rw [up_k _ _ hk]; done) | (rw [up_k _ _ hk, up_k _ _ hk])
theorem has_act {A : rS} {P G : Nat → Prop} {n : Int} (h : KK A P G) (hn : n ≤ 22) (hv : rHasV A n = 1) : rWith (rHas A n) 1 ≠ -1 ∧ rHas A n 4 (rWith (rHas A n) 1).toNat + n ≤ 128 := by
  unfold rHasV at hv
  unfold rHas
  by_cases w : rWith A 1 ≠ -1 ∧ A 4 (rWith A 1).toNat + n ≤ 128
  · rw [if_pos w]; exact w
  · rw [if_neg w] at hv ⊢
    obtain ⟨h1, h2⟩ := has1_KK h w
    unfold rHas2
    by_cases w2 : rWith (rHas1 A n) 0 = -1
    · rw [if_pos w2] at hv; omega
    · rw [if_neg w2]
      have hw := rWith_some w2
      have hB := st_KK h1 (r := (rWith (rHas1 A n) 0).toNat) (v := 1) (by omega) (Or.inl hw.2.2) (Or.inr ⟨rfl, h2⟩) (fun q => absurd q (by decide))
      have k1 : rWith (up (rHas1 A n) 3 (rWith (rHas1 A n) 0).toNat 1) 1 ≠ -1 := fun q => rWith_none hB.1.1 q (rWith (rHas1 A n) 0).toNat (by rw [up_k _ _ (by decide)]; omega) (up_s _ _ _ _)
      refine ⟨k1, ?_⟩
      have k2 := rWith_some k1
      generalize rWith (up (rHas1 A n) 3 (rWith (rHas1 A n) 0).toNat 1) 1 = y at k2 ⊢
      rw [up_k _ _ (by decide)] at k2 ⊢
      by_cases e : y.toNat = (rWith (rHas1 A n) 0).toNat
      · rw [e, h1.2.2.1.1 _ hw.2.2]; omega
      · rw [up_i _ e] at k2
        exact absurd k2.2.2 (h2 y.toNat (by omega))
/-! what units never touch -/
abbrev fixk (k : Nat) : Prop := k = 0 ∨ k = 1 ∨ k = 2 ∨ k = 6 ∨ k = 9 ∨ k = 10 ∨ k = 11 ∨ k = 14
theorem choose_k : ∀ (f : Nat) (x : Int) (A : rS) (k i : Nat), k ≠ 3 → k ≠ 5 → rChoose f x A k i = A k i := by
  intro f
  induction f with
  | zero => intro x A k i _ _; rfl
  | succ f ih =>
    intro x A k i h3 h5
    rw [rChoose]
    split
    · rfl
    · rw [ih _ _ _ _ h3 h5, up_k _ _ h3, up_k _ _ h5]
theorem unit_fix {A : rS} {k : Nat} (i : Nat) (hk : fixk k) : rUnit A k i = A k i := by
  unfold fixk at hk
  unfold rUnit
  split
  · unfold rMark
    split
    · rw [up_k _ _ (by omega), choose_k _ _ _ _ _ (by omega) (by omega)]
    · exact mark1_k k i (by omega) (by omega) (by omega) (by omega)
  · split
    · unfold rMoveOne
      split
      · rw [up_k _ _ (by omega), up_k _ _ (by omega)]
      · exact rCarry_k (by omega) (by omega) (by omega) (by omega) (by omega) (by omega) (by omega) (by omega)
    · split
      · unfold rUpdate
        split
        · rw [up_k _ _ (by omega)]
        · rw [up_k _ _ (by omega), rEnd_k _ _ _ _ _ (by omega) (by omega), up_k _ _ (by omega)]
      · rfl
theorem run_fix {k : Nat} (i : Nat) (hk : fixk k) : ∀ (f : Nat) (A : rS), rRun f A k i = A k i := by
  intro f
  induction f with
  | zero => intro A; rfl
  | succ f ih =>
    intro A
    rw [rRun]
    split
    · rfl
    · rw [ih, unit_fix i hk]
theorem start_fix {A : rS} {k : Nat} (i : Nat) (hk : fixk k) : rStart A k i = A k i := by
  unfold fixk at hk
  exact start_e k i (by omega) (by omega) (by omega) (by omega) (by omega) (by omega)
theorem whole_fix {A : rS} {k : Nat} (i : Nat) (hk : fixk k) : rWhole A k i = A k i := by
  unfold rWhole rFin
  rw [run_fix i hk, start_fix i hk, run_fix i hk]
theorem al1_6 {A : rS} {c : Int} : rAl1 A c 6 0 = A 6 0 := by
  unfold rAl1
  split
  · rw [has_k _ _ (by decide), up_k _ _ (by decide)]
  · rw [has_k _ _ (by decide), whole_fix 0 (by decide), has_k _ _ (by decide), up_k _ _ (by decide)]
end
section
/-! the state in which a cycle looks at its registers -/
theorem start_KM {A : rS} {P G : Nat → Prop} (h : KK A P G) : KM (up (up (rClr 700 0 A) 16 0 0) 17 0 0) P (rch A) (GE (up (up (rClr 700 0 A) 16 0 0) 17 0 0) 0) := by
  obtain ⟨hV, hR, ⟨s1, s2, s3⟩, ⟨p1, p2, p3, p4, p5, p6⟩, ⟨q1, q2, q3⟩, hg, ⟨t1, t2⟩⟩ := h
  have b6 := hV.1.b6 0
  have hle := hR.le hV
  generalize hB : up (up (rClr 700 0 A) 16 0 0) 17 0 0 = B
  have e : ∀ k i, k ≠ 12 → k ≠ 13 → k ≠ 16 → k ≠ 17 → B k i = A k i := fun k i k1 k2 k3 k4 => by rw [← hB, up_k _ _ k4, up_k _ _ k3, rClr_k _ _ _ _ _ k1 k2]
  have e12 : ∀ o, o < nn A → B 12 o = 0 := fun o ho => by
    unfold nn at ho
    rw [← hB, up_k _ _ (by decide), up_k _ _ (by decide), rClr_z 700 0 A 12 (Or.inl rfl) (by omega) (by omega), if_pos (by omega)]
  have e13 : ∀ o, o < nn A → B 13 o = 0 := fun o ho => by
    unfold nn at ho
    rw [← hB, up_k _ _ (by decide), up_k _ _ (by decide), rClr_z 700 0 A 13 (Or.inr rfl) (by omega) (by omega), if_pos (by omega)]
  have e16 : B 16 0 = 0 := by rw [← hB, up_k _ _ (by decide), up_s]
  have e17 : B 17 0 = 0 := by rw [← hB, up_s]
  have e1 := e 1 0 (by decide) (by decide) (by decide) (by decide)
  have e6 := e 6 0 (by decide) (by decide) (by decide) (by decide)
  have en : nn B = nn A := by unfold nn; rw [e6]
  have hI : RI B := by
    have h1 : RI (rClr 700 0 A) := by
      refine RI_of hV.1 (fun k i hk => ?_)
      by_cases w : k = 12 ∨ k = 13
      · rw [rClr_z 700 0 A k w (by omega) (by omega)]
        split
        · right; rcases w with rfl | rfl <;> decide
        · exact Or.inl rfl
      · exact Or.inl (rClr_k _ _ _ _ _ (fun q => w (Or.inl q)) (fun q => w (Or.inr q)))
    rw [← hB]
    exact (h1.u16 0 (by omega)).u17 0 (by omega)
  have sub : ∀ o, rch A o → G o := fun o ho => ho G hg.2.1 (fun x i hx hi hf => hg.2.2 x i hx hi hf)
  have rregs : ∀ k : Nat, k < 10 → 0 ≤ A 14 k → rch A (A 14 k).toNat := fun k hk h0 T c1 c2 => c1 k hk h0
  have rcl : ∀ o i : Nat, rch A o → (i : Int) < A 9 o - 2 → 0 ≤ A 11 (21 * o + i) → rch A (A 11 (21 * o + i)).toNat := fun o i ho hi hf T c1 c2 => c2 o i (ho T c1 c2) hi hf
  have hM : KM B P (rch A) (GE B 0) := by
    refine ⟨⟨hI, ?_, ?_, ?_, ?_⟩, ⟨?_, ?_, ?_⟩, ⟨?_, ?_, ?_⟩, ⟨?_, ?_, ?_⟩, ⟨?_, ?_, ?_⟩, ?_, ?_⟩
    · intro o ho
      rw [en] at ho
      rw [e 9 _ (by decide) (by decide) (by decide) (by decide), e 7 _ (by decide) (by decide) (by decide) (by decide), e1]; exact hV.2.1 o ho
    · intro o i ho
      rw [en] at ho
      rw [e 9 _ (by decide) (by decide) (by decide) (by decide), e 11 _ (by decide) (by decide) (by decide) (by decide), e6]; exact hV.2.2.1 o i ho
    · intro k; rw [e 14 _ (by decide) (by decide) (by decide) (by decide), e6]; exact hV.2.2.2.1 k
    · rw [e6]; exact hV.2.2.2.2
    · rw [e16, e17]; omega
    · intro i hi; rw [e17] at hi; omega
    · intro i j hi; rw [e17] at hi; omega
    · intro r; rw [e 3 _ (by decide) (by decide) (by decide) (by decide), e 4 _ (by decide) (by decide) (by decide) (by decide)]; exact s1 r
    · intro r q; rw [e1, e 3 _ (by decide) (by decide) (by decide) (by decide), e 3 _ (by decide) (by decide) (by decide) (by decide)]; exact s2 r q
    · intro r q; rw [e1, e 3 _ (by decide) (by decide) (by decide) (by decide), e 3 _ (by decide) (by decide) (by decide) (by decide)]; exact s3 r q
    · intro o ho
      rw [en, e 7 _ (by decide) (by decide) (by decide) (by decide), e 3 _ (by decide) (by decide) (by decide) (by decide), e 8 _ (by decide) (by decide) (by decide) (by decide), e 9 _ (by decide) (by decide) (by decide) (by decide), e 4 _ (by decide) (by decide) (by decide) (by decide)]; exact q1 o ho
    · intro o ho h12
      rw [en] at ho
      rw [e12 o ho] at h12
      omega
    · intro a b; rw [e 7 _ (by decide) (by decide) (by decide) (by decide), e 7 _ (by decide) (by decide) (by decide) (by decide), e 8 _ (by decide) (by decide) (by decide) (by decide), e 8 _ (by decide) (by decide) (by decide) (by decide)]; exact q3 a b
    · intro o ho; exact hg.1 o (sub o ho)
    · intro k; rw [e 14 _ (by decide) (by decide) (by decide) (by decide)]; exact rregs k
    · intro o i; rw [e 9 _ (by decide) (by decide) (by decide) (by decide), e 11 _ (by decide) (by decide) (by decide) (by decide)]; exact rcl o i
    · intro o ho h12
      rw [en] at ho
      rw [e12 o ho] at h12
      omega
    · intro o ho
      right
      intro T c1 c2 c3
      refine (ho (fun x => T x ∧ G x) (fun k hk h0 => ⟨c2 _ ⟨k, by omega, hk, ?_, ?_⟩, hg.2.1 k hk h0⟩) (fun x i hx hi hf => ⟨?_, hg.2.2 x i hx.2 hi hf⟩)).1
      · rw [e 14 _ (by decide) (by decide) (by decide) (by decide)]; exact h0
      · rw [e 14 _ (by decide) (by decide) (by decide) (by decide)]
      · have c4 := c3 x hx.1 (Or.inl (e12 x (q1 x (hg.1 x hx.2)).1)) i
        rw [e 9 _ (by decide) (by decide) (by decide) (by decide), e 11 _ (by decide) (by decide) (by decide) (by decide)] at c4
        exact c4 hi hf
  exact hM
theorem KM_18 {A : rS} {P G E : Nat → Prop} {v : Int} (h : KM A P G E) (hv : 0 ≤ v ∧ v ≤ 3) : KM (up A 18 0 v) P G E := ⟨⟨h.1.1.u18 0 hv, h.1.2⟩, h.2⟩
theorem up_18 (A : rS) (k i : Nat) (v w : Int) (hk : k ≠ 18) : up (up A 18 0 v) k i w = up (up A k i w) 18 0 v := by
  funext k' i'
  unfold up
  by_cases e1 : k' = k ∧ i' = i
  · rw [if_pos e1, if_neg (fun q => hk (by omega)), if_pos e1]
  · rw [if_neg e1, if_neg e1]
theorem see_18 (A : rS) (x v : Int) : rSee (up A 18 0 v) x = up (rSee A x) 18 0 v := by
  unfold rSee
  rw [up_k _ _ (by decide), up_k _ _ (by decide)]
  split
  · rfl
  · split
    · rw [up_18 _ _ _ _ _ (by decide), up_18 _ _ _ _ _ (by decide), up_18 _ _ _ _ _ (by decide)]
    · rfl
theorem seeR_18 (v : Int) : ∀ (f : Nat) (x : Int) (A : rS), rSeeR f x (up A 18 0 v) = up (rSeeR f x A) 18 0 v := by
  intro f
  induction f with
  | zero => intro x A; rfl
  | succ f ih =>
    intro x A
    rw [rSeeR, rSeeR]
    split
    · rfl
    · rw [up_k _ _ (by decide), see_18, ih]
/-- the state behind the first steps of a beginning cycle -/
def rSt0 (A : rS) : rS := up (up (up (rClr 700 0 A) 16 0 0) 17 0 0) 18 0 1
theorem start_eq (A : rS) : rStart A = rSeeR 20 0 (rSt0 A) := by
  unfold rSt0
  rw [seeR_18]
  rfl
theorem st0_KM {A : rS} {P G : Nat → Prop} (h : KK A P G) : KM (rSt0 A) P (rch A) (GE (rSt0 A) 0) := KM_18 (start_KM h) (by omega)
theorem seeR_step {P G : Nat → Prop} {x : Int} {A : rS} (hx : 0 ≤ x ∧ x < 10) (h : KM A P G (GE A x)) : KM (rSee A (A 14 x.toNat)) P G (GE (rSee A (A 14 x.toNat)) (x + 1)) := by
  have hV := h.1
  have h14 := hV.1.b14 x.toNat
  have e : GE (rSee A (A 14 x.toNat)) (x + 1) = GE A (x + 1) := by
    funext y
    unfold GE
    congr
    funext j
    rw [see_k 14 _ (by decide) (by decide) (by decide)]
  rw [e]
  refine see_KM h14.1 (fun h0 => h.2.2.2.2.1.2.1 x.toNat (by omega) h0) ?_
  obtain ⟨hV, hR, hS, hP, hg, hs, ht⟩ := h
  refine ⟨hV, hR, hS, hP, hg, hs, ht.mono (fun y hy => ?_)⟩
  obtain ⟨j, j1, j2, j3, j4⟩ := hy
  by_cases e : (j : Int) = x
  · right
    have ej : j = x.toNat := by omega
    rw [ej] at j3 j4
    exact ⟨j3, j4⟩
  · left
    exact ⟨j, by omega, j2, j3, j4⟩
theorem seeF_step {P G : Nat → Prop} {o x : Int} {A : rS} (ho : 0 ≤ o) (hG : G o.toNat) (hx : 0 ≤ x ∧ x < A 9 o.toNat - 2) (h : KM A P G (FE A o.toNat x)) : KM (rSee A (A 11 (21 * o + x).toNat)) P G (FE (rSee A (A 11 (21 * o + x).toNat)) o.toNat (x + 1)) := by
  have hV := h.1
  have ex : (21 * o + x).toNat = 21 * o.toNat + x.toNat := by omega
  have h11 := hV.1.b11 (21 * o + x).toNat
  have e : FE (rSee A (A 11 (21 * o + x).toNat)) o.toNat (x + 1) = FE A o.toNat (x + 1) := by
    funext y
    unfold FE
    rw [see_k 9 _ (by decide) (by decide) (by decide)]
    congr
    funext j
    rw [see_k 11 _ (by decide) (by decide) (by decide)]
  rw [e]
  refine see_KM h11.1 (fun h0 => ?_) ?_
  · rw [ex] at h0 ⊢
    exact h.2.2.2.2.1.2.2 o.toNat x.toNat hG (by omega) h0
  · obtain ⟨hV, hR, hS, hP, hg, hs, ht⟩ := h
    refine ⟨hV, hR, hS, hP, hg, hs, ht.mono (fun y hy => ?_)⟩
    obtain ⟨j, j1, j2, j3, j4⟩ := hy
    by_cases e : (j : Int) = x
    · right
      have ej : 21 * o.toNat + j = (21 * o + x).toNat := by omega
      rw [ej] at j3 j4
      exact ⟨j3, j4⟩
    · left
      exact ⟨j, by omega, j2, j3, j4⟩
end
section
/-! the Model's methods that run units (printed by wip/tools/ref5.py) -/
set_option maxHeartbeats 4000000 in
theorem k_X6_finish {G : mG} {l : Launch} {z : Nat} {ρ : Nat → Nat} {μ0 : mM} {A : rS} {P Gs : Nat → Prop} (hR : RR A μ0) (hI : RI A) (hK : KK A P Gs) : MR G l yX6_finish cX6_finish 1 none 4 87 z ρ [.ref (ρ 6)] μ0 none (rFin A) := by
  refine MR.of hR (by decide) (by simp [Value.category]) (Nat.le_of_ble_eq_true rfl) (Nat.le_of_ble_eq_true rfl) ?_
  intro p e s m args below meth c ls H locs μ hC hx hb hr hlk X hR hf hL
  have lp : ∀ (f : Nat) (B : rS) (H : Heap) (locs : List Loc) (μ : mM) (ls : Array Slot), (∃ P Gs, KK B P Gs) → ms B < f → rFin A = rRun f B → RI B → mX G ρ (mA ρ μ0 z) s.heap μ z H locs → RR B μ → rfr μ0 μ → lq ls [some (.ref (ρ 6))] → W p l e (rm 4 87 0 0) s m args below meth c H locs 0 0 (wQ G ρ μ0 z (rP none (rFin A) μ0 z) below args s 0 0) (F0 m 0 ls []) := by
    intro f
    induction f with
    | zero =>
      intro  B H locs μ ls hk hm hv hI X hR hf hL
      obtain ⟨P, Gs, hk⟩ := hk; have := ms_b hk; omega
    | succ f ih =>
      intro  B H locs μ ls hk hm hv hI X hR hf hL
      obtain ⟨P, Gs, hk⟩ := hk
      refine m_aload_n hx hb hL dX6_finish_0 rfl ?_
      refine r_gets (w := (B 18 0)) hC X hR FX6_70 rfl rfl rfl dX6_finish_1 ?_
      have q1 : (0 : Int) ≤ (B 18 0) ∧ (B 18 0) ≤ 3 := hI.b18 0
      refine m_if_le (tgt := 14) hx hb dX6_finish_4 (by decide) (by omega) (fun c4 => ?_) (fun c4 => ?_)
      · exact r_vret hC X hR hf hr hlk (by rw [hv, run_0 c4]) dX6_finish_14
      · refine m_aload_n hx hb hL dX6_finish_7 rfl ?_
        refine r_call hC X hR hf (k_X6_unit hR hI (KK_17 hk) (KK_19 hk)) VX6_108 rfl ⟨by decide, by decide⟩ ⟨by decide, by decide⟩ hL.1 rfl (Nat.le_of_ble_eq_true rfl) dX6_finish_8 (fun μ H locs X hR hf => ?_)
        have hI := (unit_KK hk).1.1
        refine lv_goto (tgt := 0) hx hb dX6_finish_11 (by decide) ?_
        exact ih  _ _ _ _ ls ⟨_, _, unit_KK hk⟩ (by have := unit_ms hk (by omega); omega) (by rw [hv, rRun, if_neg c4]) hI X hR hf hL
  exact lp 1101  A _ _ _ ls ⟨P, Gs, hK⟩ (by have := ms_b hK; omega) ((run_stab 1100 1101 hK (ms_b hK).2.1 (by decide)).1.symm) hI X hR hf hL

set_option maxHeartbeats 4000000 in
theorem k_X6_whole {G : mG} {l : Launch} {z : Nat} {ρ : Nat → Nat} {μ0 : mM} {A : rS} {P Gs : Nat → Prop} (hR : RR A μ0) (hI : RI A) (hK : KK A P Gs) : MR G l yX6_whole cX6_whole 1 none 5 107 z ρ [.ref (ρ 6)] μ0 none (rWhole A) := by
  refine MR.of hR (by decide) (by simp [Value.category]) (Nat.le_of_ble_eq_true rfl) (Nat.le_of_ble_eq_true rfl) ?_
  intro p e s m args below meth c ls H locs μ hC hx hb hr hlk X hR hf hL
  refine m_aload_n hx hb hL dX6_whole_0 rfl ?_
  refine r_call hC X hR hf (k_X6_finish hR hI hK) VX6_111 rfl ⟨by decide, by decide⟩ ⟨by decide, by decide⟩ hL.1 rfl (Nat.le_of_ble_eq_true rfl) dX6_whole_1 (fun μ H locs X hR hf => ?_)
  obtain ⟨hk1, hp1⟩ := fin_KK hK
  have hI := hk1.1.1
  refine m_aload_n hx hb hL dX6_whole_4 rfl ?_
  refine r_call hC X hR hf (k_X6_start hR hI) VX6_114 rfl ⟨by decide, by decide⟩ ⟨by decide, by decide⟩ hL.1 rfl (Nat.le_of_ble_eq_true rfl) dX6_whole_5 (fun μ H locs X hR hf => ?_)
  have hk5 := start_KK hk1 hp1
  have hI := hk5.1.1
  refine m_aload_n hx hb hL dX6_whole_8 rfl ?_
  refine r_call hC X hR hf (k_X6_finish hR hI hk5) VX6_111 rfl ⟨by decide, by decide⟩ ⟨by decide, by decide⟩ hL.1 rfl (Nat.le_of_ble_eq_true rfl) dX6_whole_9 (fun μ H locs X hR hf => ?_)
  obtain ⟨hk9, hp9⟩ := fin_KK hk5
  have hI := hk9.1.1
  exact r_vret hC X hR hf hr hlk rfl dX6_whole_12

set_option maxHeartbeats 4000000 in
theorem k_X6_begin {G : mG} {l : Launch} {z : Nat} {ρ : Nat → Nat} {μ0 : mM} {A : rS} (hR : RR A μ0) (hI : RI A) : MR G l yX6_begin cX6_begin 1 (some .int) 2 42 z ρ [.ref (ρ 6)] μ0 (some (.int (iv (rBeginV A)))) (rBegin A) := by
  refine MR.of hR (by decide) (by simp [Value.category]) (Nat.le_of_ble_eq_true rfl) (Nat.le_of_ble_eq_true rfl) ?_
  intro p e s m args below meth c ls H locs μ hC hx hb hr hlk X hR hf hL
  refine m_aload_n hx hb hL dX6_begin_0 rfl ?_
  refine lv_iconst (v := iv 0) hx hb dX6_begin_1 rfl ?_
  refine r_puts (v := 0) hC X hR FwX6_54 rfl rfl dX6_begin_2 (fun H locs X hR => ?_)
  have hf := hf.s 0 (iv 0)
  have hI := hI.u0 0 (v := 0) ⟨by omega, by omega⟩
  refine m_aload_n hx hb hL dX6_begin_5 rfl ?_
  refine r_gets (w := (A 18 0)) hC X hR FX6_70 rfl rfl rfl dX6_begin_6 ?_
  have q1 : (0 : Int) ≤ (A 18 0) ∧ (A 18 0) ≤ 3 := hI.b18 0
  refine m_if_le (tgt := 14) hx hb dX6_begin_9 (by decide) (by omega) (fun c9 => ?_) (fun c9 => ?_)
  · refine m_aload_n hx hb hL dX6_begin_14 rfl ?_
    refine r_call hC X hR hf (k_X6_start hR hI) VX6_114 rfl ⟨by decide, by decide⟩ ⟨by decide, by decide⟩ hL.1 rfl (Nat.le_of_ble_eq_true rfl) dX6_begin_15 (fun μ H locs X hR hf => ?_)
    refine lv_iconst (v := iv 1) hx hb dX6_begin_18 rfl ?_
    exact r_iret hC X hR hf hr hlk (by unfold rBegin; (first | rw [if_pos (by omega)] | rw [if_neg (by omega)])) (by unfold rBeginV; first | (rw [bZ_t (by omega)]) | (rw [bZ_f (by omega)])) dX6_begin_19
  · refine lv_iconst (v := iv 0) hx hb dX6_begin_12 rfl ?_
    exact r_iret hC X hR hf hr hlk (by unfold rBegin; (first | rw [if_pos (by omega)] | rw [if_neg (by omega)])) (by unfold rBeginV; first | (rw [bZ_t (by omega)]) | (rw [bZ_f (by omega)])) dX6_begin_13

set_option maxHeartbeats 4000000 in
theorem k_X6_work {G : mG} {l : Launch} {z : Nat} {ρ : Nat → Nat} {μ0 : mM} {A : rS} {x : Int} {P Gs : Nat → Prop} (hR : RR A μ0) (hI : RI A) (hK : KK A P Gs) (hx1 : rng x) : MR G l yX6_work cX6_work 3 (some .int) 4 87 z ρ [.ref (ρ 6), .int (iv x)] μ0 (some (.int (iv (rWorkV A x)))) (rWork A x) := by
  refine MR.of hR (by decide) (by simp [Value.category]) (Nat.le_of_ble_eq_true rfl) (Nat.le_of_ble_eq_true rfl) ?_
  intro p e s m args below meth c ls H locs μ hC hx hb hr hlk X hR hf hL
  refine m_aload_n hx hb hL dX6_work_0 rfl ?_
  refine m_iload_n hx hb hL dX6_work_1 rfl ?_
  refine m_if_lt (tgt := 16) hx hb dX6_work_2 (by decide) (by omega) (fun c2 => ?_) (fun c2 => ?_)
  · refine lv_iconst (v := iv 0) hx hb dX6_work_16 rfl ?_
    refine lv_iconst (v := iv 1) hx hb dX6_work_17 rfl ?_
    refine r_call hC X hR hf (k_X6_good (x := 0) (y := 1) hR hI (by omega) (by omega)) VX6_120 rfl ⟨by decide, by decide⟩ ⟨by decide, by decide⟩ hL.1 rfl (Nat.le_of_ble_eq_true rfl) dX6_work_18 (fun μ H locs X hR hf => ?_)
    have hR : RR (up A 0 0 1) μ := hR
    have hI : RI (up A 0 0 1) := hI.u0 0 (v := 1) ⟨by omega, by omega⟩
    rw [show bZ (rThr 0 1 = 0) = 0 by decide]
    refine m_if_ne (tgt := 26) hx hb dX6_work_21 (by decide) (by omega) (fun c21 => absurd c21 (by omega)) (fun c21 => ?_)
    refine lv_iconst (v := iv 0) hx hb dX6_work_24 rfl ?_
    exact r_iret hC X hR hf hr hlk (by unfold rWork; rw [if_neg (by omega)]) (by unfold rWorkV; rw [if_neg (by omega)]) dX6_work_25
  · refine m_iload_n hx hb hL dX6_work_5 rfl ?_
    refine lv_sipush (v := iv 10000) hx hb dX6_work_6 (by decide +kernel) ?_
    refine m_icmp_gt (tgt := 16) hx hb dX6_work_9 (by decide) (by omega) (by omega) (fun c9 => ?_) (fun c9 => ?_)
    · refine lv_iconst (v := iv 0) hx hb dX6_work_16 rfl ?_
      refine lv_iconst (v := iv 1) hx hb dX6_work_17 rfl ?_
      refine r_call hC X hR hf (k_X6_good (x := 0) (y := 1) hR hI (by omega) (by omega)) VX6_120 rfl ⟨by decide, by decide⟩ ⟨by decide, by decide⟩ hL.1 rfl (Nat.le_of_ble_eq_true rfl) dX6_work_18 (fun μ H locs X hR hf => ?_)
      have hR : RR (up A 0 0 1) μ := hR
      have hI : RI (up A 0 0 1) := hI.u0 0 (v := 1) ⟨by omega, by omega⟩
      rw [show bZ (rThr 0 1 = 0) = 0 by decide]
      refine m_if_ne (tgt := 26) hx hb dX6_work_21 (by decide) (by omega) (fun c21 => absurd c21 (by omega)) (fun c21 => ?_)
      refine lv_iconst (v := iv 0) hx hb dX6_work_24 rfl ?_
      exact r_iret hC X hR hf hr hlk (by unfold rWork; rw [if_neg (by omega)]) (by unfold rWorkV; rw [if_neg (by omega)]) dX6_work_25
    · refine lv_iconst (v := iv 1) hx hb dX6_work_12 rfl ?_
      refine lv_goto (tgt := 17) hx hb dX6_work_13 (by decide) ?_
      refine lv_iconst (v := iv 1) hx hb dX6_work_17 rfl ?_
      refine r_call hC X hR hf (k_X6_good (x := 1) (y := 1) hR hI (by omega) (by omega)) VX6_120 rfl ⟨by decide, by decide⟩ ⟨by decide, by decide⟩ hL.1 rfl (Nat.le_of_ble_eq_true rfl) dX6_work_18 (fun μ H locs X hR hf => ?_)
      have hR : RR (up A 0 0 0) μ := hR
      have hI : RI (up A 0 0 0) := hI.u0 0 (v := 0) ⟨by omega, by omega⟩
      rw [show bZ (rThr 1 1 = 0) = 1 by decide]
      refine m_if_ne (tgt := 26) hx hb dX6_work_21 (by decide) (by omega) (fun c21 => ?_) (fun c21 => absurd c21 (by omega))
      refine lv_iconst (v := iv 0) hx hb dX6_work_26 rfl ?_
      refine m_istore_n hx hb hL dX6_work_27 (Nat.le_of_ble_eq_true rfl) (fun ls hL => ?_)
      have lp : ∀ (f : Nat) (k : Int) (B : rS) (H : Heap) (locs : List Loc) (μ : mM) (ls : Array Slot), (∃ P Gs, KK B P Gs) → 0 ≤ k ∧ k ≤ x → (f : Int) + k = x + 1 → rWork A x = rRun (f - 1) B → RI B → mX G ρ (mA ρ μ0 z) s.heap μ z H locs → RR B μ → rfr μ0 μ → lq ls [some (.ref (ρ 6)), some (.int (iv x)), some (.int (iv k))] → W p l e (rm 4 87 0 0) s m args below meth c H locs 0 0 (wQ G ρ μ0 z (rP (some (.int (iv (rWorkV A x)))) (rWork A x) μ0 z) below args s 0 0) (F0 m 28 ls []) := by
        intro f
        induction f with
        | zero =>
          intro k B H locs μ ls hk h0 hf1 hv hI X hR hf hL
          omega
        | succ f ih =>
          intro k B H locs μ ls hk h0 hf1 hv hI X hR hf hL
          obtain ⟨P, Gs, hk⟩ := hk
          have hv : rWork A x = rRun f B := hv
          refine m_iload_n hx hb hL dX6_work_28 rfl ?_
          refine m_iload_n hx hb hL dX6_work_29 rfl ?_
          refine m_icmp_ge (tgt := 50) hx hb dX6_work_30 (by decide) (by omega) (by omega) (fun c30 => ?_) (fun c30 => ?_)
          · refine m_aload_n hx hb hL dX6_work_50 rfl ?_
            refine r_gets (w := (B 18 0)) hC X hR FX6_70 rfl rfl rfl dX6_work_51 ?_
            have q1 : (0 : Int) ≤ (B 18 0) ∧ (B 18 0) ≤ 3 := hI.b18 0
            exact r_iret hC X hR hf hr hlk (by rw [hv]; first | rw [run_0 (by omega)] | (obtain rfl : f = 0 := (by omega); rfl)) (by unfold rWorkV; rw [if_pos (by omega)]; have hw : rWork A x = rRun x.toNat (up A 0 0 0) := (by unfold rWork; rw [if_pos (by omega)]); rw [← hw, hv]; first | rw [run_0 (by omega)] | (obtain rfl : f = 0 := (by omega); rfl)) dX6_work_54
          · refine m_aload_n hx hb hL dX6_work_33 rfl ?_
            refine r_gets (w := (B 18 0)) hC X hR FX6_70 rfl rfl rfl dX6_work_34 ?_
            have q2 : (0 : Int) ≤ (B 18 0) ∧ (B 18 0) ≤ 3 := hI.b18 0
            refine m_if_le (tgt := 50) hx hb dX6_work_37 (by decide) (by omega) (fun c37 => ?_) (fun c37 => ?_)
            · refine m_aload_n hx hb hL dX6_work_50 rfl ?_
              refine r_gets (w := (B 18 0)) hC X hR FX6_70 rfl rfl rfl dX6_work_51 ?_
              have q3 : (0 : Int) ≤ (B 18 0) ∧ (B 18 0) ≤ 3 := hI.b18 0
              exact r_iret hC X hR hf hr hlk (by rw [hv]; first | rw [run_0 (by omega)] | (obtain rfl : f = 0 := (by omega); rfl)) (by unfold rWorkV; rw [if_pos (by omega)]; have hw : rWork A x = rRun x.toNat (up A 0 0 0) := (by unfold rWork; rw [if_pos (by omega)]); rw [← hw, hv]; first | rw [run_0 (by omega)] | (obtain rfl : f = 0 := (by omega); rfl)) dX6_work_54
            · refine m_aload_n hx hb hL dX6_work_40 rfl ?_
              refine r_call hC X hR hf (k_X6_unit hR hI (KK_17 hk) (KK_19 hk)) VX6_108 rfl ⟨by decide, by decide⟩ ⟨by decide, by decide⟩ hL.1 rfl (Nat.le_of_ble_eq_true rfl) dX6_work_41 (fun μ H locs X hR hf => ?_)
              have hI := (unit_KK hk).1.1
              refine m_iincv hx hb hL dX6_work_44 rfl (fun ls hL => ?_)
              refine lv_goto (tgt := 28) hx hb dX6_work_47 (by decide) ?_
              exact ih (k + 1) _ _ _ _ ls ⟨_, _, unit_KK hk⟩ ⟨by omega, by omega⟩ (by omega) (by rw [hv]; exact run_s (by omega) (by omega)) hI X hR hf hL
      exact lp (x.toNat + 1) 0 (up A 0 0 0) _ _ _ ls ⟨P, Gs, KK_0 hK ⟨by omega, by omega⟩⟩ ⟨by omega, by omega⟩ (by omega) (by unfold rWork; rw [if_pos (by omega)]; rfl) hI X hR hf hL

set_option maxHeartbeats 4000000 in
theorem k_X6_collect {G : mG} {l : Launch} {z : Nat} {ρ : Nat → Nat} {μ0 : mM} {A : rS} {P Gs : Nat → Prop} (hR : RR A μ0) (hI : RI A) (hK : KK A P Gs) : MR G l yX6_collect cX6_collect 3 (some .int) 6 127 z ρ [.ref (ρ 6)] μ0 (some (.int (iv (rFree (rCollect A))))) (rCollect A) := by
  refine MR.of hR (by decide) (by simp [Value.category]) (Nat.le_of_ble_eq_true rfl) (Nat.le_of_ble_eq_true rfl) ?_
  intro p e s m args below meth c ls H locs μ hC hx hb hr hlk X hR hf hL
  refine m_aload_n hx hb hL dX6_collect_0 rfl ?_
  refine lv_iconst (v := iv 0) hx hb dX6_collect_1 rfl ?_
  refine r_puts (v := 0) hC X hR FwX6_54 rfl rfl dX6_collect_2 (fun H locs X hR => ?_)
  have hf := hf.s 0 (iv 0)
  have hI := hI.u0 0 (v := 0) ⟨by omega, by omega⟩
  have hk0 := KK_0 (v := 0) hK ⟨by omega, by omega⟩
  refine m_aload_n hx hb hL dX6_collect_5 rfl ?_
  refine r_call hC X hR hf (k_X6_whole hR hI hk0) VX6_127 rfl ⟨by decide, by decide⟩ ⟨by decide, by decide⟩ hL.1 rfl (Nat.le_of_ble_eq_true rfl) dX6_collect_6 (fun μ H locs X hR hf => ?_)
  obtain ⟨hkw, hpw⟩ := whole_KK hk0
  have hI := hkw.1.1
  refine lv_iconst (v := iv 0) hx hb dX6_collect_9 rfl ?_
  refine m_istore_n hx hb hL dX6_collect_10 (Nat.le_of_ble_eq_true rfl) (fun ls hL => ?_)
  refine lv_iconst (v := iv 0) hx hb dX6_collect_11 rfl ?_
  refine m_istore_n hx hb hL dX6_collect_12 (Nat.le_of_ble_eq_true rfl) (fun ls hL => ?_)
  have lp : ∀ (f : Nat) (n r : Int) (ls : Array Slot), 0 ≤ r ∧ r ≤ rWhole (up A 0 0 0) 1 0 → 0 ≤ n ∧ n ≤ r → (f : Int) + r = 20 → rFree (rCollect A) = rFr (rWhole (up A 0 0 0)) f r n → lq ls [some (.ref (ρ 6)), some (.int (iv n)), some (.int (iv r))] → W p l e (rm 6 127 0 0) s m args below meth c H locs 0 0 (wQ G ρ μ0 z (rP (some (.int (iv (rFree (rCollect A))))) (rCollect A) μ0 z) below args s 0 0) (F0 m 13 ls []) := by
    intro f
    induction f with
    | zero =>
      intro n r ls h0 h1 hf1 hv hL
      have := hI.b1 0; omega
    | succ f ih =>
      intro n r ls h0 h1 hf1 hv hL
      refine m_iload_n hx hb hL dX6_collect_13 rfl ?_
      refine m_aload_n hx hb hL dX6_collect_14 rfl ?_
      refine r_gets (w := ((rWhole (up A 0 0 0)) 1 0)) hC X hR FX6_47 rfl rfl rfl dX6_collect_15 ?_
      have q1 : (3 : Int) ≤ ((rWhole (up A 0 0 0)) 1 0) ∧ ((rWhole (up A 0 0 0)) 1 0) ≤ 16 := hI.b1 0
      refine m_icmp_ge (tgt := 44) hx hb dX6_collect_18 (by decide) (by omega) (by omega) (fun c18 => ?_) (fun c18 => ?_)
      · refine m_iload_n hx hb hL dX6_collect_44 rfl ?_
        exact r_iret hC X hR hf hr hlk rfl (by rw [hv, rFr, if_pos c18]) dX6_collect_45
      · refine m_aload_n hx hb hL dX6_collect_21 rfl ?_
        refine r_geta hC X hR FX6_7 rfl rfl dX6_collect_22 ?_
        refine m_iload_n hx hb hL dX6_collect_25 rfl ?_
        refine r_iald (x := r) (w := ((rWhole (up A 0 0 0)) 3 (r : Int).toNat)) hC X hR 3 rfl rfl (by omega) (by change _ < ((16 : Nat) : Int); omega) rfl dX6_collect_26 ?_
        have q2 : (0 : Int) ≤ ((rWhole (up A 0 0 0)) 3 (r : Int).toNat) ∧ ((rWhole (up A 0 0 0)) 3 (r : Int).toNat) ≤ 4 := hI.b3 (r : Int).toNat
        refine m_if_ne (tgt := 36) hx hb dX6_collect_27 (by decide) (by omega) (fun c27 => ?_) (fun c27 => ?_)
        · refine m_iload_n hx hb hL dX6_collect_36 rfl ?_
          refine m_istore_n hx hb hL dX6_collect_37 (Nat.le_of_ble_eq_true rfl) (fun ls hL => ?_)
          refine m_iincv hx hb hL dX6_collect_38 rfl (fun ls hL => ?_)
          refine lv_goto (tgt := 13) hx hb dX6_collect_41 (by decide) ?_
          exact ih n (r + 1) ls ⟨by omega, by omega⟩ ⟨by omega, by omega⟩ (by omega) (by rw [hv, rFr, if_neg c18]; (first | rw [if_pos (by omega)] | rw [if_neg (by omega)])) hL
        · refine m_iload_n hx hb hL dX6_collect_30 rfl ?_
          refine lv_iconst (v := iv 1) hx hb dX6_collect_31 rfl ?_
          refine m_iadd hx hb dX6_collect_32 ?_
          refine lv_goto (tgt := 37) hx hb dX6_collect_33 (by decide) ?_
          refine m_istore_n hx hb hL dX6_collect_37 (Nat.le_of_ble_eq_true rfl) (fun ls hL => ?_)
          refine m_iincv hx hb hL dX6_collect_38 rfl (fun ls hL => ?_)
          refine lv_goto (tgt := 13) hx hb dX6_collect_41 (by decide) ?_
          exact ih (n + 1) (r + 1) ls ⟨by omega, by omega⟩ ⟨by omega, by omega⟩ (by omega) (by rw [hv, rFr, if_neg c18]; (first | rw [if_pos (by omega)] | rw [if_neg (by omega)])) hL
  exact lp 20 0 0 ls ⟨by omega, by have := hI.b1 0; omega⟩ ⟨by omega, by omega⟩ (by omega) rfl hL

set_option maxHeartbeats 4000000 in
theorem k_X6_alloc {G : mG} {l : Launch} {z : Nat} {ρ : Nat → Nat} {μ0 : mM} {A : rS} {x : Int} {y : Int} {t : Int} {P Gs : Nat → Prop} (hR : RR A μ0) (hI : RI A) (hK : KK A P Gs) (hn512 : A 6 0 < 512) (hx1 : rng x) (hy1 : rng y) (ht1 : rng t) : MR G l yX6_alloc cX6_alloc 7 (some .int) 6 127 z ρ [.ref (ρ 6), .int (iv x), .int (iv y), .int (iv t)] μ0 (some (.int (iv (rAllocV A x y t)))) (rAlloc A x y t) := by
  refine MR.of hR (by decide) (by simp [Value.category]) (Nat.le_of_ble_eq_true rfl) (Nat.le_of_ble_eq_true rfl) ?_
  intro p e s m args below meth c ls H locs μ hC hx hb hr hlk X hR hf hL
  refine m_aload_n hx hb hL dX6_alloc_0 rfl ?_
  refine m_iload_n hx hb hL dX6_alloc_1 rfl ?_
  refine r_callS hC X hR hf (k_X6_isRegister (x := x) hR hI (by omega)) VX6_117 rfl ⟨by decide, by decide⟩ ⟨by decide, by decide⟩ hL.1 rfl (Nat.le_of_ble_eq_true rfl) dX6_alloc_2 (fun μ H locs X hR hf => ?_)
  by_cases g2 : rReg x
  · rw [show rIsReg x = 1 from bZ_t g2]
    refine m_iload_n hx hb hL dX6_alloc_5 rfl ?_
    refine m_if_lt (tgt := 19) hx hb dX6_alloc_6 (by decide) (by omega) (fun c6 => ?_) (fun c6 => ?_)
    · refine lv_iconst (v := iv 0) hx hb dX6_alloc_19 rfl ?_
      refine r_call hC X hR hf (k_X6_good (x := 1) (y := 0) hR hI (by omega) (by omega)) VX6_120 rfl ⟨by decide, by decide⟩ ⟨by decide, by decide⟩ hL.1 rfl (Nat.le_of_ble_eq_true rfl) dX6_alloc_20 (fun μ H locs X hR hf => ?_)
      have hR : RR (up A 0 0 2) μ := hR
      have hI : RI (up A 0 0 2) := hI.u0 0 (v := 2) ⟨by omega, by omega⟩
      rw [show bZ (rThr 1 0 = 0) = 0 by decide]
      refine m_if_ne (tgt := 28) hx hb dX6_alloc_23 (by decide) (by omega) (fun c23 => absurd c23 (by omega)) (fun c23 => ?_)
      refine lv_iconst (v := iv 0) hx hb dX6_alloc_26 rfl ?_
      exact r_iret hC X hR hf hr hlk (by unfold rAlloc; rw [if_neg (by omega)]; (first | rw [if_pos (by omega)] | rw [if_neg (by omega)])) (by unfold rAllocV; rw [if_neg (by omega)]) dX6_alloc_27
    · refine m_iload_n hx hb hL dX6_alloc_9 rfl ?_
      refine lv_bipush (v := iv 20) hx hb dX6_alloc_10 (by decide +kernel) ?_
      refine m_icmp_gt (tgt := 19) hx hb dX6_alloc_12 (by decide) (by omega) (by omega) (fun c12 => ?_) (fun c12 => ?_)
      · refine lv_iconst (v := iv 0) hx hb dX6_alloc_19 rfl ?_
        refine r_call hC X hR hf (k_X6_good (x := 1) (y := 0) hR hI (by omega) (by omega)) VX6_120 rfl ⟨by decide, by decide⟩ ⟨by decide, by decide⟩ hL.1 rfl (Nat.le_of_ble_eq_true rfl) dX6_alloc_20 (fun μ H locs X hR hf => ?_)
        have hR : RR (up A 0 0 2) μ := hR
        have hI : RI (up A 0 0 2) := hI.u0 0 (v := 2) ⟨by omega, by omega⟩
        rw [show bZ (rThr 1 0 = 0) = 0 by decide]
        refine m_if_ne (tgt := 28) hx hb dX6_alloc_23 (by decide) (by omega) (fun c23 => absurd c23 (by omega)) (fun c23 => ?_)
        refine lv_iconst (v := iv 0) hx hb dX6_alloc_26 rfl ?_
        exact r_iret hC X hR hf hr hlk (by unfold rAlloc; rw [if_neg (by omega)]; (first | rw [if_pos (by omega)] | rw [if_neg (by omega)])) (by unfold rAllocV; rw [if_neg (by omega)]) dX6_alloc_27
      · refine lv_iconst (v := iv 1) hx hb dX6_alloc_15 rfl ?_
        refine lv_goto (tgt := 20) hx hb dX6_alloc_16 (by decide) ?_
        refine r_call hC X hR hf (k_X6_good (x := 1) (y := 1) hR hI (by omega) (by omega)) VX6_120 rfl ⟨by decide, by decide⟩ ⟨by decide, by decide⟩ hL.1 rfl (Nat.le_of_ble_eq_true rfl) dX6_alloc_20 (fun μ H locs X hR hf => ?_)
        have hR : RR (up A 0 0 0) μ := hR
        have hI : RI (up A 0 0 0) := hI.u0 0 (v := 0) ⟨by omega, by omega⟩
        rw [show bZ (rThr 1 1 = 0) = 1 by decide]
        refine m_if_ne (tgt := 28) hx hb dX6_alloc_23 (by decide) (by omega) (fun c23 => ?_) (fun c23 => absurd c23 (by omega))
        have J : ∀ (E : rS) (H : Heap) (locs : List Loc) (μ : mM) (ls : Array Slot), E 6 0 < 512 → rWith E 1 ≠ -1 → E 4 (rWith E 1).toNat + (y + 2) ≤ 128 → rAlloc A x y t = rPut E x y t → rAllocV A x y t = rPlace (rPut E x y t) (E 6 0) → RI E → mX G ρ (mA ρ μ0 z) s.heap μ z H locs → RR E μ → rfr μ0 μ → lq ls [some (.ref (ρ 6)), some (.int (iv x)), some (.int (iv y)), some (.int (iv t)), none, none, none] → W p l e (rm 6 127 0 0) s m args below meth c H locs 0 0 (wQ G ρ μ0 z (rP (some (.int (iv (rAllocV A x y t)))) (rAlloc A x y t) μ0 z) below args s 0 0) (F0 m 54 ls []) := by
          intro E H locs μ ls h512 hact1 hact2 hv1 hv2 hI X hR hf hL
          have b1 := hI.b1 0
          have b6 := hI.b6 0
          have hw1 := rWith_some hact1
          refine m_aload_n hx hb hL dX6_alloc_54 rfl ?_
          refine lv_iconst (v := iv 1) hx hb dX6_alloc_55 rfl ?_
          refine r_call hC X hR hf (k_X6_withState (x := 1) hR hI (by decide)) VX6_77 rfl ⟨by decide, by decide⟩ ⟨by decide, by decide⟩ hL.1 rfl (Nat.le_of_ble_eq_true rfl) dX6_alloc_56 (fun μ H locs X hR hf => ?_)
          have hq56 := rWith_b hI (1)
          refine m_istore hx hb hL dX6_alloc_59 (Nat.le_of_ble_eq_true rfl) (fun ls hL => ?_)
          refine m_aload_n hx hb hL dX6_alloc_61 rfl ?_
          refine r_gets (w := (E 6 0)) hC X hR FX6_57 rfl rfl rfl dX6_alloc_62 ?_
          have q1 : (0 : Int) ≤ (E 6 0) ∧ (E 6 0) ≤ 620 := hI.b6 0
          refine m_istore hx hb hL dX6_alloc_65 (Nat.le_of_ble_eq_true rfl) (fun ls hL => ?_)
          refine m_aload_n hx hb hL dX6_alloc_67 rfl ?_
          refine lv_dup hx hb dX6_alloc_68 rfl ?_
          refine r_gets (w := (E 6 0)) hC X hR FX6_57 rfl rfl rfl dX6_alloc_69 ?_
          have q2 : (0 : Int) ≤ (E 6 0) ∧ (E 6 0) ≤ 620 := hI.b6 0
          refine lv_iconst (v := iv 1) hx hb dX6_alloc_72 rfl ?_
          refine m_iadd hx hb dX6_alloc_73 ?_
          refine r_puts (v := ((E 6 0) + 1)) hC X hR FwX6_57 rfl rfl dX6_alloc_74 (fun H locs X hR => ?_)
          have hf := hf.s 6 (iv ((E 6 0) + 1))
          have hI := hI.u6 0 (v := ((E 6 0) + 1)) ⟨by omega, by omega⟩
          refine m_aload_n hx hb hL dX6_alloc_77 rfl ?_
          refine r_geta hC X hR FX6_20 rfl rfl dX6_alloc_78 ?_
          refine m_iload hx hb hL dX6_alloc_81 rfl ?_
          refine m_iload hx hb hL dX6_alloc_83 rfl ?_
          refine r_iast (x := (E 6 0)) (v := (rWith E 1)) hC X hR 7 rfl rfl (by omega) (by change _ < ((620 : Nat) : Int); omega) dX6_alloc_85 (fun H locs X hR => ?_)
          have hf := hf.a 7 ((E 6 0) : Int).toNat (iv (rWith E 1))
          have hI := hI.u7 ((E 6 0) : Int).toNat (v := (rWith E 1)) ⟨by omega, by omega⟩
          refine m_aload_n hx hb hL dX6_alloc_86 rfl ?_
          refine r_geta hC X hR FX6_23 rfl rfl dX6_alloc_87 ?_
          refine m_iload hx hb hL dX6_alloc_90 rfl ?_
          refine m_aload_n hx hb hL dX6_alloc_92 rfl ?_
          refine r_geta hC X hR FX6_13 rfl rfl dX6_alloc_93 ?_
          refine m_iload hx hb hL dX6_alloc_96 rfl ?_
          refine r_iald (x := (rWith E 1)) (w := (E 4 ((rWith E 1) : Int).toNat)) hC X hR 4 rfl rfl (by omega) (by change _ < ((16 : Nat) : Int); omega) rfl dX6_alloc_98 ?_
          have q3 : (0 : Int) ≤ (E 4 ((rWith E 1) : Int).toNat) ∧ (E 4 ((rWith E 1) : Int).toNat) ≤ 128 := hI.b4 ((rWith E 1) : Int).toNat
          refine r_iast (x := (E 6 0)) (v := (E 4 ((rWith E 1) : Int).toNat)) hC X hR 8 rfl rfl (by omega) (by change _ < ((620 : Nat) : Int); omega) dX6_alloc_99 (fun H locs X hR => ?_)
          have hf := hf.a 8 ((E 6 0) : Int).toNat (iv (E 4 ((rWith E 1) : Int).toNat))
          have hI := hI.u8 ((E 6 0) : Int).toNat (v := (E 4 ((rWith E 1) : Int).toNat)) ⟨by omega, by omega⟩
          refine m_aload_n hx hb hL dX6_alloc_100 rfl ?_
          refine r_geta hC X hR FX6_26 rfl rfl dX6_alloc_101 ?_
          refine m_iload hx hb hL dX6_alloc_104 rfl ?_
          refine m_iload_n hx hb hL dX6_alloc_106 rfl ?_
          refine lv_iconst (v := iv 2) hx hb dX6_alloc_107 rfl ?_
          refine m_iadd hx hb dX6_alloc_108 ?_
          refine r_iast (x := (E 6 0)) (v := (y + 2)) hC X hR 9 rfl rfl (by omega) (by change _ < ((620 : Nat) : Int); omega) dX6_alloc_109 (fun H locs X hR => ?_)
          have hf := hf.a 9 ((E 6 0) : Int).toNat (iv (y + 2))
          have hI := hI.u9 ((E 6 0) : Int).toNat (v := (y + 2)) ⟨by omega, by omega⟩
          refine m_aload_n hx hb hL dX6_alloc_110 rfl ?_
          refine r_geta hC X hR FX6_13 rfl rfl dX6_alloc_111 ?_
          refine m_iload hx hb hL dX6_alloc_114 rfl ?_
          refine m_aload_n hx hb hL dX6_alloc_116 rfl ?_
          refine r_geta hC X hR FX6_13 rfl rfl dX6_alloc_117 ?_
          refine m_iload hx hb hL dX6_alloc_120 rfl ?_
          refine r_iald (x := (rWith E 1)) (w := (E 4 ((rWith E 1) : Int).toNat)) hC X hR 4 rfl rfl (by omega) (by change _ < ((16 : Nat) : Int); omega) rfl dX6_alloc_122 ?_
          have q4 : (0 : Int) ≤ (E 4 ((rWith E 1) : Int).toNat) ∧ (E 4 ((rWith E 1) : Int).toNat) ≤ 128 := hI.b4 ((rWith E 1) : Int).toNat
          refine m_aload_n hx hb hL dX6_alloc_123 rfl ?_
          refine r_geta hC X hR FX6_26 rfl rfl dX6_alloc_124 ?_
          refine m_iload hx hb hL dX6_alloc_127 rfl ?_
          refine r_iald (x := (E 6 0)) (w := (y + 2)) hC X hR 9 rfl rfl (by omega) (by change _ < ((620 : Nat) : Int); omega) (by simp [up]) dX6_alloc_129 ?_
          refine m_iadd hx hb dX6_alloc_130 ?_
          refine r_iast (x := (rWith E 1)) (v := ((E 4 ((rWith E 1) : Int).toNat) + (y + 2))) hC X hR 4 rfl rfl (by omega) (by change _ < ((16 : Nat) : Int); omega) dX6_alloc_131 (fun H locs X hR => ?_)
          have hf := hf.a 4 ((rWith E 1) : Int).toNat (iv ((E 4 ((rWith E 1) : Int).toNat) + (y + 2)))
          have hI := hI.u4 ((rWith E 1) : Int).toNat (v := ((E 4 ((rWith E 1) : Int).toNat) + (y + 2))) ⟨by omega, by omega⟩
          refine m_aload_n hx hb hL dX6_alloc_132 rfl ?_
          refine r_geta hC X hR FX6_29 rfl rfl dX6_alloc_133 ?_
          refine m_iload hx hb hL dX6_alloc_136 rfl ?_
          refine m_iload_n hx hb hL dX6_alloc_138 rfl ?_
          refine r_iast (x := (E 6 0)) (v := t) hC X hR 10 rfl rfl (by omega) (by change _ < ((620 : Nat) : Int); omega) dX6_alloc_139 (fun H locs X hR => ?_)
          have hf := hf.a 10 ((E 6 0) : Int).toNat (iv t)
          have hI := hI.u10 ((E 6 0) : Int).toNat (v := t) ⟨by omega, by omega⟩
          refine lv_iconst (v := iv 0) hx hb dX6_alloc_140 rfl ?_
          refine m_istore hx hb hL dX6_alloc_141 (Nat.le_of_ble_eq_true rfl) (fun ls hL => ?_)
          have lpA : ∀ (f : Nat) (k : Int) (B : rS) (H : Heap) (locs : List Loc) (μ : mM) (ls : Array Slot), 0 ≤ k ∧ k ≤ y → B 18 0 = E 18 0 → (f : Int) + k = 30 → rPut E x y t = up (up (up (rFld (E 6 0) y f k B) 12 (E 6 0).toNat (bZ (0 < E 18 0))) 13 (E 6 0).toNat 0) 14 x.toNat (E 6 0) → RI B → mX G ρ (mA ρ μ0 z) s.heap μ z H locs → RR B μ → rfr μ0 μ → lq ls [some (.ref (ρ 6)), some (.int (iv x)), some (.int (iv y)), some (.int (iv t)), some (.int (iv (rWith E 1))), some (.int (iv (E 6 0))), some (.int (iv k))] → W p l e (rm 6 127 0 0) s m args below meth c H locs 0 0 (wQ G ρ μ0 z (rP (some (.int (iv (rAllocV A x y t)))) (rAlloc A x y t) μ0 z) below args s 0 0) (F0 m 143 ls []) := by
            intro f
            induction f with
            | zero =>
              intro k B H locs μ ls h0 h18 hf1 hv hI X hR hf hL
              omega
            | succ f ih =>
              intro k B H locs μ ls h0 h18 hf1 hv hI X hR hf hL
              refine m_iload hx hb hL dX6_alloc_143 rfl ?_
              refine m_iload_n hx hb hL dX6_alloc_145 rfl ?_
              refine m_icmp_ge (tgt := 169) hx hb dX6_alloc_146 (by decide) (by omega) (by omega) (fun c146 => ?_) (fun c146 => ?_)
              · refine m_aload_n hx hb hL dX6_alloc_169 rfl ?_
                refine r_geta hC X hR FX6_35 rfl rfl dX6_alloc_170 ?_
                refine m_iload hx hb hL dX6_alloc_173 rfl ?_
                refine m_aload_n hx hb hL dX6_alloc_175 rfl ?_
                refine r_gets (w := (B 18 0)) hC X hR FX6_70 rfl rfl rfl dX6_alloc_176 ?_
                have q6 : (0 : Int) ≤ (B 18 0) ∧ (B 18 0) ≤ 3 := hI.b18 0
                refine m_if_le (tgt := 186) hx hb dX6_alloc_179 (by decide) (by omega) (fun c179 => ?_) (fun c179 => ?_)
                · refine lv_iconst (v := iv 0) hx hb dX6_alloc_186 rfl ?_
                  refine r_zast (x := (E 6 0)) (v := 0) hC X hR 12 rfl rfl (by omega) (by change _ < ((620 : Nat) : Int); omega) (by omega) dX6_alloc_187 (fun H locs X hR => ?_)
                  have hf := hf.a 12 ((E 6 0) : Int).toNat (iv 0)
                  have hI := hI.u12 ((E 6 0) : Int).toNat (v := 0) ⟨by omega, by omega⟩
                  refine m_aload_n hx hb hL dX6_alloc_188 rfl ?_
                  refine r_geta hC X hR FX6_38 rfl rfl dX6_alloc_189 ?_
                  refine m_iload hx hb hL dX6_alloc_192 rfl ?_
                  refine lv_iconst (v := iv 0) hx hb dX6_alloc_194 rfl ?_
                  refine r_zast (x := (E 6 0)) (v := 0) hC X hR 13 rfl rfl (by omega) (by change _ < ((620 : Nat) : Int); omega) (by omega) dX6_alloc_195 (fun H locs X hR => ?_)
                  have hf := hf.a 13 ((E 6 0) : Int).toNat (iv 0)
                  have hI := hI.u13 ((E 6 0) : Int).toNat (v := 0) ⟨by omega, by omega⟩
                  refine m_aload_n hx hb hL dX6_alloc_196 rfl ?_
                  refine r_geta hC X hR FX6_41 rfl rfl dX6_alloc_197 ?_
                  refine m_iload_n hx hb hL dX6_alloc_200 rfl ?_
                  refine m_iload hx hb hL dX6_alloc_201 rfl ?_
                  refine r_iast (x := x) (v := (E 6 0)) hC X hR 14 rfl rfl (by omega) (by change _ < ((10 : Nat) : Int); omega) dX6_alloc_203 (fun H locs X hR => ?_)
                  have hf := hf.a 14 (x : Int).toNat (iv (E 6 0))
                  have hI := hI.u14 (x : Int).toNat (v := (E 6 0)) ⟨by omega, by omega⟩
                  refine m_aload_n hx hb hL dX6_alloc_204 rfl ?_
                  refine m_iload hx hb hL dX6_alloc_205 rfl ?_
                  refine r_call hC X hR hf (k_X6_place (x := (E 6 0)) hR hI (by omega)) VX6_90 rfl ⟨by decide, by decide⟩ ⟨by decide, by decide⟩ hL.1 rfl (Nat.le_of_ble_eq_true rfl) dX6_alloc_207 (fun μ H locs X hR hf => ?_)
                  have hq207 := rPlace_b hI ((E 6 0))
                  exact r_iret hC X hR hf hr hlk (by rw [hv1, (show rPut E x y t = (up (up (up B 12 ((E 6 0) : Int).toNat 0) 13 ((E 6 0) : Int).toNat 0) 14 (x : Int).toNat (E 6 0)) by (rw [hv, rFld, if_pos c146]; first | rw [bZ_t (by omega)] | rw [bZ_f (by omega)]))]) (by rw [hv2, (show rPut E x y t = (up (up (up B 12 ((E 6 0) : Int).toNat 0) 13 ((E 6 0) : Int).toNat 0) 14 (x : Int).toNat (E 6 0)) by (rw [hv, rFld, if_pos c146]; first | rw [bZ_t (by omega)] | rw [bZ_f (by omega)]))]) dX6_alloc_210
                · refine lv_iconst (v := iv 1) hx hb dX6_alloc_182 rfl ?_
                  refine lv_goto (tgt := 187) hx hb dX6_alloc_183 (by decide) ?_
                  refine r_zast (x := (E 6 0)) (v := 1) hC X hR 12 rfl rfl (by omega) (by change _ < ((620 : Nat) : Int); omega) (by omega) dX6_alloc_187 (fun H locs X hR => ?_)
                  have hf := hf.a 12 ((E 6 0) : Int).toNat (iv 1)
                  have hI := hI.u12 ((E 6 0) : Int).toNat (v := 1) ⟨by omega, by omega⟩
                  refine m_aload_n hx hb hL dX6_alloc_188 rfl ?_
                  refine r_geta hC X hR FX6_38 rfl rfl dX6_alloc_189 ?_
                  refine m_iload hx hb hL dX6_alloc_192 rfl ?_
                  refine lv_iconst (v := iv 0) hx hb dX6_alloc_194 rfl ?_
                  refine r_zast (x := (E 6 0)) (v := 0) hC X hR 13 rfl rfl (by omega) (by change _ < ((620 : Nat) : Int); omega) (by omega) dX6_alloc_195 (fun H locs X hR => ?_)
                  have hf := hf.a 13 ((E 6 0) : Int).toNat (iv 0)
                  have hI := hI.u13 ((E 6 0) : Int).toNat (v := 0) ⟨by omega, by omega⟩
                  refine m_aload_n hx hb hL dX6_alloc_196 rfl ?_
                  refine r_geta hC X hR FX6_41 rfl rfl dX6_alloc_197 ?_
                  refine m_iload_n hx hb hL dX6_alloc_200 rfl ?_
                  refine m_iload hx hb hL dX6_alloc_201 rfl ?_
                  refine r_iast (x := x) (v := (E 6 0)) hC X hR 14 rfl rfl (by omega) (by change _ < ((10 : Nat) : Int); omega) dX6_alloc_203 (fun H locs X hR => ?_)
                  have hf := hf.a 14 (x : Int).toNat (iv (E 6 0))
                  have hI := hI.u14 (x : Int).toNat (v := (E 6 0)) ⟨by omega, by omega⟩
                  refine m_aload_n hx hb hL dX6_alloc_204 rfl ?_
                  refine m_iload hx hb hL dX6_alloc_205 rfl ?_
                  refine r_call hC X hR hf (k_X6_place (x := (E 6 0)) hR hI (by omega)) VX6_90 rfl ⟨by decide, by decide⟩ ⟨by decide, by decide⟩ hL.1 rfl (Nat.le_of_ble_eq_true rfl) dX6_alloc_207 (fun μ H locs X hR hf => ?_)
                  have hq207 := rPlace_b hI ((E 6 0))
                  exact r_iret hC X hR hf hr hlk (by rw [hv1, (show rPut E x y t = (up (up (up B 12 ((E 6 0) : Int).toNat 1) 13 ((E 6 0) : Int).toNat 0) 14 (x : Int).toNat (E 6 0)) by (rw [hv, rFld, if_pos c146]; first | rw [bZ_t (by omega)] | rw [bZ_f (by omega)]))]) (by rw [hv2, (show rPut E x y t = (up (up (up B 12 ((E 6 0) : Int).toNat 1) 13 ((E 6 0) : Int).toNat 0) 14 (x : Int).toNat (E 6 0)) by (rw [hv, rFld, if_pos c146]; first | rw [bZ_t (by omega)] | rw [bZ_f (by omega)]))]) dX6_alloc_210
              · refine m_aload_n hx hb hL dX6_alloc_149 rfl ?_
                refine r_geta hC X hR FX6_32 rfl rfl dX6_alloc_150 ?_
                refine lv_bipush (v := iv 21) hx hb dX6_alloc_153 (by decide +kernel) ?_
                refine m_iload hx hb hL dX6_alloc_155 rfl ?_
                refine m_imul hx hb dX6_alloc_157 ?_
                refine m_iload hx hb hL dX6_alloc_158 rfl ?_
                refine m_iadd hx hb dX6_alloc_160 ?_
                refine lv_iconst (v := iv (-1)) hx hb dX6_alloc_161 rfl ?_
                refine r_iast (x := ((21 * (E 6 0)) + k)) (v := (-1)) hC X hR 11 rfl rfl (by omega) (by change _ < ((13020 : Nat) : Int); omega) dX6_alloc_162 (fun H locs X hR => ?_)
                have hf := hf.a 11 (((21 * (E 6 0)) + k) : Int).toNat (iv (-1))
                have hI := hI.u11 (((21 * (E 6 0)) + k) : Int).toNat (v := (-1)) ⟨by omega, by omega⟩
                refine m_iincv hx hb hL dX6_alloc_163 rfl (fun ls hL => ?_)
                refine lv_goto (tgt := 143) hx hb dX6_alloc_166 (by decide) ?_
                exact ih (k + 1) _ _ _ _ ls ⟨by omega, by omega⟩ (by show B 18 0 = E 18 0; exact h18) (by omega) (by rw [hv, rFld, if_neg c146]) hI X hR hf hL
          exact lpA 30 0 (up (up (up (up (up (up E 6 0 ((E 6 0) + 1)) 7 ((E 6 0) : Int).toNat (rWith E 1)) 8 ((E 6 0) : Int).toNat (E 4 ((rWith E 1) : Int).toNat)) 9 ((E 6 0) : Int).toNat (y + 2)) 4 ((rWith E 1) : Int).toNat ((E 4 ((rWith E 1) : Int).toNat) + (y + 2))) 10 ((E 6 0) : Int).toNat t) _ _ _ ls ⟨by omega, by omega⟩ rfl (by omega) rfl hI X hR hf hL
        have hkc := KK_0 (v := 0) hK ⟨by omega, by omega⟩
        refine m_aload_n hx hb hL dX6_alloc_28 rfl ?_
        refine m_iload_n hx hb hL dX6_alloc_29 rfl ?_
        refine lv_iconst (v := iv 2) hx hb dX6_alloc_30 rfl ?_
        refine m_iadd hx hb dX6_alloc_31 ?_
        refine r_call hC X hR hf (k_X6_hasActive (x := (y + 2)) hR hI (by omega)) VX6_124 rfl ⟨by decide, by decide⟩ ⟨by decide, by decide⟩ hL.1 rfl (Nat.le_of_ble_eq_true rfl) dX6_alloc_32 (fun μ H locs X hR hf => ?_)
        have hact := fun q => has_act (n := (y + 2)) hkc (by omega) q
        have hq32 := rHasV_b (up A 0 0 0) (y + 2)
        have hkc := has_KK (n := (y + 2)) hkc
        have hI := hkc.1.1
        by_cases g32 : rHasV (up A 0 0 0) (y + 2) = 1
        · rw [g32]
          have hact := hact g32
          refine m_if_ne (tgt := 54) hx hb dX6_alloc_35 (by decide) (by omega) (fun c35 => ?_) (fun c35 => absurd c35 (by omega))
          exact J (rHas (up A 0 0 0) (y + 2)) H locs μ ls (by rw [← (show rAl1 A y = (rHas (up A 0 0 0) (y + 2)) by (unfold rAl1; (first | rw [if_pos (by omega)] | rw [if_neg (by omega)]))), al1_6]; exact hn512) hact.1 hact.2 (by unfold rAlloc; rw [if_pos (by omega), (show rAlV A y = 1 by (unfold rAlV; (first | rw [if_pos (by omega)] | rw [if_neg (by omega)]); (try assumption))), if_pos rfl, (show rAl1 A y = (rHas (up A 0 0 0) (y + 2)) by (unfold rAl1; (first | rw [if_pos (by omega)] | rw [if_neg (by omega)])))]) (by unfold rAllocV; rw [if_pos (by omega), (show rAlV A y = 1 by (unfold rAlV; (first | rw [if_pos (by omega)] | rw [if_neg (by omega)]); (try assumption))), if_pos rfl, (show rAl1 A y = (rHas (up A 0 0 0) (y + 2)) by (unfold rAl1; (first | rw [if_pos (by omega)] | rw [if_neg (by omega)])))]) hI X hR hf hL
        · rw [show rHasV (up A 0 0 0) (y + 2) = 0 by omega]
          refine m_if_ne (tgt := 54) hx hb dX6_alloc_35 (by decide) (by omega) (fun c35 => absurd c35 (by omega)) (fun c35 => ?_)
          refine m_aload_n hx hb hL dX6_alloc_38 rfl ?_
          refine r_call hC X hR hf (k_X6_whole hR hI hkc) VX6_127 rfl ⟨by decide, by decide⟩ ⟨by decide, by decide⟩ hL.1 rfl (Nat.le_of_ble_eq_true rfl) dX6_alloc_39 (fun μ H locs X hR hf => ?_)
          obtain ⟨hkc, hpw⟩ := whole_KK hkc
          have hI := hkc.1.1
          refine m_aload_n hx hb hL dX6_alloc_42 rfl ?_
          refine m_iload_n hx hb hL dX6_alloc_43 rfl ?_
          refine lv_iconst (v := iv 2) hx hb dX6_alloc_44 rfl ?_
          refine m_iadd hx hb dX6_alloc_45 ?_
          refine r_call hC X hR hf (k_X6_hasActive (x := (y + 2)) hR hI (by omega)) VX6_124 rfl ⟨by decide, by decide⟩ ⟨by decide, by decide⟩ hL.1 rfl (Nat.le_of_ble_eq_true rfl) dX6_alloc_46 (fun μ H locs X hR hf => ?_)
          have hact := fun q => has_act (n := (y + 2)) hkc (by omega) q
          have hq46 := rHasV_b (rWhole (rHas (up A 0 0 0) (y + 2))) (y + 2)
          have hkc := has_KK (n := (y + 2)) hkc
          have hI := hkc.1.1
          by_cases g46 : rHasV (rWhole (rHas (up A 0 0 0) (y + 2))) (y + 2) = 1
          · rw [g46]
            have hact := hact g46
            refine m_if_ne (tgt := 54) hx hb dX6_alloc_49 (by decide) (by omega) (fun c49 => ?_) (fun c49 => absurd c49 (by omega))
            exact J (rHas (rWhole (rHas (up A 0 0 0) (y + 2))) (y + 2)) H locs μ ls (by rw [← (show rAl1 A y = (rHas (rWhole (rHas (up A 0 0 0) (y + 2))) (y + 2)) by (unfold rAl1; (first | rw [if_pos (by omega)] | rw [if_neg (by omega)]))), al1_6]; exact hn512) hact.1 hact.2 (by unfold rAlloc; rw [if_pos (by omega), (show rAlV A y = 1 by (unfold rAlV; (first | rw [if_pos (by omega)] | rw [if_neg (by omega)]); (try assumption))), if_pos rfl, (show rAl1 A y = (rHas (rWhole (rHas (up A 0 0 0) (y + 2))) (y + 2)) by (unfold rAl1; (first | rw [if_pos (by omega)] | rw [if_neg (by omega)])))]) (by unfold rAllocV; rw [if_pos (by omega), (show rAlV A y = 1 by (unfold rAlV; (first | rw [if_pos (by omega)] | rw [if_neg (by omega)]); (try assumption))), if_pos rfl, (show rAl1 A y = (rHas (rWhole (rHas (up A 0 0 0) (y + 2))) (y + 2)) by (unfold rAl1; (first | rw [if_pos (by omega)] | rw [if_neg (by omega)])))]) hI X hR hf hL
          · rw [show rHasV (rWhole (rHas (up A 0 0 0) (y + 2))) (y + 2) = 0 by omega]
            refine m_if_ne (tgt := 54) hx hb dX6_alloc_49 (by decide) (by omega) (fun c49 => absurd c49 (by omega)) (fun c49 => ?_)
            refine lv_iconst (v := iv (-1)) hx hb dX6_alloc_52 rfl ?_
            exact r_iret hC X hR hf hr hlk (by unfold rAlloc; rw [if_pos (by omega), (show rAlV A y = 0 by (unfold rAlV; (first | rw [if_pos (by omega)] | rw [if_neg (by omega)]); (try omega))), if_neg (by decide), (show rAl1 A y = (rHas (rWhole (rHas (up A 0 0 0) (y + 2))) (y + 2)) by (unfold rAl1; (first | rw [if_pos (by omega)] | rw [if_neg (by omega)])))]) (by unfold rAllocV; rw [if_pos (by omega), (show rAlV A y = 0 by (unfold rAlV; (first | rw [if_pos (by omega)] | rw [if_neg (by omega)]); (try omega))), if_neg (by decide)]) dX6_alloc_53
  · rw [show rIsReg x = 0 from bZ_f g2]
    refine m_iload_n hx hb hL dX6_alloc_5 rfl ?_
    refine m_if_lt (tgt := 19) hx hb dX6_alloc_6 (by decide) (by omega) (fun c6 => ?_) (fun c6 => ?_)
    · refine lv_iconst (v := iv 0) hx hb dX6_alloc_19 rfl ?_
      refine r_call hC X hR hf (k_X6_good (x := 0) (y := 0) hR hI (by omega) (by omega)) VX6_120 rfl ⟨by decide, by decide⟩ ⟨by decide, by decide⟩ hL.1 rfl (Nat.le_of_ble_eq_true rfl) dX6_alloc_20 (fun μ H locs X hR hf => ?_)
      have hR : RR (up A 0 0 1) μ := hR
      have hI : RI (up A 0 0 1) := hI.u0 0 (v := 1) ⟨by omega, by omega⟩
      rw [show bZ (rThr 0 0 = 0) = 0 by decide]
      refine m_if_ne (tgt := 28) hx hb dX6_alloc_23 (by decide) (by omega) (fun c23 => absurd c23 (by omega)) (fun c23 => ?_)
      refine lv_iconst (v := iv 0) hx hb dX6_alloc_26 rfl ?_
      exact r_iret hC X hR hf hr hlk (by unfold rAlloc; rw [if_neg (by omega)]; (first | rw [if_pos (by omega)] | rw [if_neg (by omega)])) (by unfold rAllocV; rw [if_neg (by omega)]) dX6_alloc_27
    · refine m_iload_n hx hb hL dX6_alloc_9 rfl ?_
      refine lv_bipush (v := iv 20) hx hb dX6_alloc_10 (by decide +kernel) ?_
      refine m_icmp_gt (tgt := 19) hx hb dX6_alloc_12 (by decide) (by omega) (by omega) (fun c12 => ?_) (fun c12 => ?_)
      · refine lv_iconst (v := iv 0) hx hb dX6_alloc_19 rfl ?_
        refine r_call hC X hR hf (k_X6_good (x := 0) (y := 0) hR hI (by omega) (by omega)) VX6_120 rfl ⟨by decide, by decide⟩ ⟨by decide, by decide⟩ hL.1 rfl (Nat.le_of_ble_eq_true rfl) dX6_alloc_20 (fun μ H locs X hR hf => ?_)
        have hR : RR (up A 0 0 1) μ := hR
        have hI : RI (up A 0 0 1) := hI.u0 0 (v := 1) ⟨by omega, by omega⟩
        rw [show bZ (rThr 0 0 = 0) = 0 by decide]
        refine m_if_ne (tgt := 28) hx hb dX6_alloc_23 (by decide) (by omega) (fun c23 => absurd c23 (by omega)) (fun c23 => ?_)
        refine lv_iconst (v := iv 0) hx hb dX6_alloc_26 rfl ?_
        exact r_iret hC X hR hf hr hlk (by unfold rAlloc; rw [if_neg (by omega)]; (first | rw [if_pos (by omega)] | rw [if_neg (by omega)])) (by unfold rAllocV; rw [if_neg (by omega)]) dX6_alloc_27
      · refine lv_iconst (v := iv 1) hx hb dX6_alloc_15 rfl ?_
        refine lv_goto (tgt := 20) hx hb dX6_alloc_16 (by decide) ?_
        refine r_call hC X hR hf (k_X6_good (x := 0) (y := 1) hR hI (by omega) (by omega)) VX6_120 rfl ⟨by decide, by decide⟩ ⟨by decide, by decide⟩ hL.1 rfl (Nat.le_of_ble_eq_true rfl) dX6_alloc_20 (fun μ H locs X hR hf => ?_)
        have hR : RR (up A 0 0 1) μ := hR
        have hI : RI (up A 0 0 1) := hI.u0 0 (v := 1) ⟨by omega, by omega⟩
        rw [show bZ (rThr 0 1 = 0) = 0 by decide]
        refine m_if_ne (tgt := 28) hx hb dX6_alloc_23 (by decide) (by omega) (fun c23 => absurd c23 (by omega)) (fun c23 => ?_)
        refine lv_iconst (v := iv 0) hx hb dX6_alloc_26 rfl ?_
        exact r_iret hC X hR hf hr hlk (by unfold rAlloc; rw [if_neg (by omega)]; (first | rw [if_pos (by omega)] | rw [if_neg (by omega)])) (by unfold rAllocV; rw [if_neg (by omega)]) dX6_alloc_27
end
section
/-! the class's memory against the reference's state -/
def aRg (r : Nat) : Nat := 16 * r + 8
def aSt (r : Nat) : Nat := 16 * r + 9
def aOb (o : Nat) : Nat := 16 * o + 10
def aFd (o : Nat) : Nat := 16 * o + 11
def RN (A : rS) : Nat := (A 1 0).toNat
def oref (x : Int) : Option Nat := if x = -1 then none else some (aOb x.toNat)
def rref (x : Int) : Option Nat := if x = -1 then none else some (aRg x.toNat)
theorem oref_n : oref (-1) = none := rfl
theorem oref_s {x : Int} (h : x ≠ -1) : oref x = some (aOb x.toNat) := if_neg h
theorem rref_n : rref (-1) = none := rfl
theorem rref_s {x : Int} (h : x ≠ -1) : rref x = some (aRg x.toNat) := if_neg h
/-- what stands still: the fixed cells, regions, objects -/
def C1 (A : rS) (μ : mM) : Prop :=
  (sh μ 0 = some (.inl 5) ∧ mq μ 0 0 = some 1 ∧ mq μ 0 1 = some 2) ∧ (sh μ 1 = some (.inl 0) ∧ mq μ 1 0 = some 2 ∧ mq μ 1 2 = some 3) ∧ (sh μ 2 = some (.inl 2) ∧ mq μ 2 0 = some 4 ∧ mq μ 2 1 = some 5) ∧ (sh μ 3 = some (.inl 4) ∧ sh μ 4 = some (.inr (3, 10)) ∧ sh μ 5 = some (.inr (4, RN A)))
  ∧ (∀ r, r < RN A → mq μ 5 r = some (aRg r) ∧ sh μ (aRg r) = some (.inl 3) ∧ mq μ (aRg r) 1 = some (aSt r) ∧ sh μ (aSt r) = some (.inr (3, 128)) ∧ mi μ (aRg r) 0 = iv r)
  ∧ (∀ o, o < nn A → sh μ (aOb o) = some (.inl 1) ∧ mq μ (aOb o) 1 = some (aFd o) ∧ sh μ (aFd o) = some (.inr (3, (A 9 o - 2).toNat)) ∧ mi μ (aOb o) 0 = iv (A 10 o))
def C2 (A : rS) (cy : Int) (μ : mM) : Prop := mi μ 1 1 = iv (A 2 0) ∧ mi μ 1 3 = iv (A 18 0) ∧ mi μ 1 4 = iv cy ∧ mi μ 1 5 = iv (A 19 0) ∧ mi μ 1 6 = iv (A 20 0) ∧ mi μ 1 7 = iv (A 21 0)
def C3 (A : rS) (μ : mM) : Prop := ∀ k : Nat, k < 10 → mq μ 4 k = oref (A 14 k)
def C4 (A : rS) (μ : mM) : Prop := mq μ 2 2 = rref (rWith A 1) ∧ mq μ 2 3 = rref (rWith A 2)
/-- the row: first, last, size, and the chain -/
def C5 (A : rS) (μ : mM) : Prop := mq μ 3 0 = (if A 16 0 < A 17 0 then some (aOb (A 15 (A 16 0).toNat).toNat) else none) ∧ mq μ 3 1 = (if A 16 0 < A 17 0 then some (aOb (A 15 (A 17 0 - 1).toNat).toNat) else none) ∧ mi μ 3 2 = iv (A 17 0 - A 16 0)
  ∧ (∀ i : Nat, A 16 0 ≤ i → (i : Int) + 1 < A 17 0 → mq μ (aOb (A 15 i).toNat) 6 = some (aOb (A 15 (i + 1)).toNat)) ∧ (∀ o, o < nn A → (∀ i : Nat, A 16 0 ≤ i → (i : Int) + 1 < A 17 0 → A 15 i ≠ o) → mq μ (aOb o) 6 = none)
/-- the regions -/
def C6 (A : rS) (μ : mM) : Prop := ∀ r, r < RN A → mi μ (aRg r) 2 = iv (A 3 r) ∧ mi μ (aRg r) 3 = iv (A 4 r) ∧ (∃ q : Int, mi μ (aRg r) 5 = iv q ∧ (q = 0 ∨ q = 1) ∧ (A 3 r = 4 → q = A 5 r)) ∧ ∃ p : Int, mi μ (aRg r) 4 = iv p ∧ 0 ≤ p ∧ p ≤ 128 ∧ (A 3 r = 4 → ∀ o, o < nn A → rToMove A (o : Int) = 1 → A 7 o = r → p ≤ A 8 o)
/-- who begins where -/
def C7 (A : rS) (P : Nat → Prop) (μ : mM) : Prop := (∀ r k b : Nat, r < RN A → k < 128 → mq μ (aSt r) k = some b → ∃ o, b = aOb o ∧ P o ∧ A 7 o = r ∧ A 8 o = k) ∧ (∀ o, P o → mq μ (aSt (A 7 o).toNat) (A 8 o).toNat = some (aOb o))
def C8 (A : rS) (cy : Int) (μ : mM) : Prop := ∀ o, o < nn A → mq μ (aOb o) 2 = some (aRg (A 7 o).toNat) ∧ mi μ (aOb o) 3 = iv (A 8 o) ∧ (∃ v : Int, mi μ (aOb o) 4 = iv v ∧ -1 ≤ v ∧ v ≤ cy ∧ (v = cy ↔ A 12 o = 1)) ∧ (∃ v : Int, mi μ (aOb o) 5 = iv v ∧ -1 ≤ v ∧ v ≤ cy ∧ (v = cy ↔ A 13 o = 1))
  ∧ ∀ i : Nat, (i : Int) < A 9 o - 2 → mq μ (aFd o) i = oref (A 11 (21 * o + i))
def CR (A : rS) (P : Nat → Prop) (cy : Int) (μ : mM) : Prop := C1 A μ ∧ C2 A cy μ ∧ C3 A μ ∧ C4 A μ ∧ C5 A μ ∧ C6 A μ ∧ C7 A P μ ∧ C8 A cy μ ∧ 0 ≤ cy ∧ cy ≤ 2000
/-- the class's own addresses -/
def cad (a : Nat) : Prop := a < 6 ∨ (∃ r, a = aRg r) ∨ (∃ r, a = aSt r) ∨ (∃ o, a = aOb o) ∨ ∃ o, a = aFd o
/-- nothing but the class's cells has changed -/
def cfr (μ μ' : mM) : Prop := (∀ a, sh μ' a = sh μ a) ∧ (∀ a k, mj μ' a k = mj μ a k) ∧ (∀ a k, ¬ cad a → mq μ' a k = mq μ a k ∧ mi μ' a k = mi μ a k)
theorem cfr.rf (μ : mM) : cfr μ μ := ⟨fun _ => rfl, fun _ _ => rfl, fun _ _ _ => ⟨rfl, rfl⟩⟩
theorem cfr.tr {μ μ1 μ2 : mM} (h : cfr μ μ1) (h' : cfr μ1 μ2) : cfr μ μ2 := ⟨fun a => (h'.1 a).trans (h.1 a), fun a k => (h'.2.1 a k).trans (h.2.1 a k), fun a k n => ⟨(h'.2.2 a k n).1.trans (h.2.2 a k n).1, (h'.2.2 a k n).2.trans (h.2.2 a k n).2⟩⟩
theorem cfr.I {μ μ1 : mM} (h : cfr μ μ1) {a : Nat} (ha : cad a) (k : Nat) (v : Int32) : cfr μ (setI μ1 a k v) := ⟨h.1, h.2.1, fun b j n => ⟨(h.2.2 b j n).1, by rw [mi_I, if_neg (fun q => n (by rw [q.1]; exact ha))]; exact (h.2.2 b j n).2⟩⟩
theorem cfr.Q {μ μ1 : mM} (h : cfr μ μ1) {a : Nat} (ha : cad a) (k : Nat) (v : Option Nat) : cfr μ (setQ μ1 a k v) := ⟨h.1, h.2.1, fun b j n => ⟨by rw [mq_Q, if_neg (fun q => n (by rw [q.1]; exact ha))]; exact (h.2.2 b j n).1, (h.2.2 b j n).2⟩⟩
theorem cad_f {a : Nat} (h : a < 6) : cad a := Or.inl h
theorem cad_r (r : Nat) : cad (aRg r) := Or.inr (Or.inl ⟨r, rfl⟩)
theorem cad_s (r : Nat) : cad (aSt r) := Or.inr (Or.inr (Or.inl ⟨r, rfl⟩))
theorem cad_o (o : Nat) : cad (aOb o) := Or.inr (Or.inr (Or.inr (Or.inl ⟨o, rfl⟩)))
theorem cad_d (o : Nat) : cad (aFd o) := Or.inr (Or.inr (Or.inr (Or.inr ⟨o, rfl⟩)))
/-- the reference doesn't see it -/
theorem RR_c {A : rS} {μ μ' : mM} (h : RR A μ) (hf : cfr μ μ') : RR A μ' := by
  have n6 : ¬ cad 6 := by
    rintro (h | ⟨r, h⟩ | ⟨r, h⟩ | ⟨r, h⟩ | ⟨r, h⟩)
    · omega
    · unfold aRg at h; omega
    · unfold aSt at h; omega
    · unfold aOb at h; omega
    · unfold aFd at h; omega
  have nk : ∀ k, ¬ cad (aK k) := by
    rintro k (h | ⟨r, h⟩ | ⟨r, h⟩ | ⟨r, h⟩ | ⟨r, h⟩)
    · unfold aK at h; omega
    · unfold aRg aK at h; omega
    · unfold aSt aK at h; omega
    · unfold aOb aK at h; omega
    · unfold aFd aK at h; omega
  refine ⟨by rw [hf.1]; exact h.1, fun k hk => by rw [(hf.2.2 6 k n6).2]; exact h.s k hk, fun k hk => ⟨by rw [(hf.2.2 6 k n6).1]; exact h.q k hk, by rw [hf.1]; exact h.h k hk, fun i hi => by rw [(hf.2.2 _ i (nk k)).2]; exact h.a k hk hi⟩⟩
/-- and the class doesn't see the reference's changes -/
theorem CR_r {A : rS} {P : Nat → Prop} {cy : Int} {μ μ' : mM} (h : CR A P cy μ) (hf : rfr μ μ') : CR A P cy μ' := by
  have hs := hf.1
  have hq := hf.2.1
  have hi : ∀ a k, cad a → mi μ' a k = mi μ a k := fun a k ha => hf.2.2.2 a k (by
    rintro (h6 | ⟨j, hj⟩)
    · subst h6
      rcases ha with h | ⟨r, h⟩ | ⟨r, h⟩ | ⟨r, h⟩ | ⟨r, h⟩
      · omega
      · unfold aRg at h; omega
      · unfold aSt at h; omega
      · unfold aOb at h; omega
      · unfold aFd at h; omega
    · subst hj
      rcases ha with h | ⟨r, h⟩ | ⟨r, h⟩ | ⟨r, h⟩ | ⟨r, h⟩
      · unfold aK at h; omega
      · unfold aRg aK at h; omega
      · unfold aSt aK at h; omega
      · unfold aOb aK at h; omega
      · unfold aFd aK at h; omega)
  have hi1 : ∀ k, mi μ' 1 k = mi μ 1 k := fun k => hi 1 k (cad_f (by decide))
  have hi3 : ∀ k, mi μ' 3 k = mi μ 3 k := fun k => hi 3 k (cad_f (by decide))
  have hir : ∀ r k, mi μ' (aRg r) k = mi μ (aRg r) k := fun r k => hi _ k (cad_r r)
  have hio : ∀ r k, mi μ' (aOb r) k = mi μ (aOb r) k := fun r k => hi _ k (cad_o r)
  unfold CR C1 C2 C3 C4 C5 C6 C7 C8 at h ⊢
  simp only [hs, hq, hi1, hi3, hir, hio]
  exact h
end
section
/-! contracts of the class's methods -/
def cP (v0 : Option Value) (μ1 : mM) (z : Nat) : Option Value → mM → Nat → Prop := fun v μ' z' => v = v0 ∧ μ' = μ1 ∧ z' = z
abbrev MZ (G : mG) (l : Launch) (y : MethodName) (cy : ByteArray) (ny : Nat) (ret : Option FieldType) (fr lo z : Nat) (ρ : Nat → Nat) (As : List Value) (μ : mM) (Post : Option Value → mM → Nat → Prop) : Prop := MC G l y cy ny ret fr lo 0 0 z ρ As μ Post
theorem MZ.of {G : mG} {l : Launch} {y : MethodName} {cy : ByteArray} {ny : Nat} {ret : Option FieldType} {fr lo z : Nat} {ρ : Nat → Nat} {As : List Value} {μ : mM} {Post : Option Value → mM → Nat → Prop}
    (hy : plainName y.cls = true) (hc : ∀ v ∈ As, v.category = 1) (hn : (lg_sl As).length ≤ ny) (hn2 : As.length ≤ ny)
    (body : ∀ (p : Program) (e : Env) (s : State) (m : MethodId) (args : Array Value) (below : List Frame) (meth : Method) (c : Code) (ls : Array Slot) (H : Heap) (locs : List Loc), mC G p c cy ny s m args y.cls → p.tables.exec = Jvm.exec → c.code = cy → meth.sig.returnType = ret → meth.locks = false →
      mX G ρ (mA ρ μ z) s.heap μ z H locs → lq ls (As.map some ++ List.replicate (ny - As.length) none) →
      W p l e (rm fr lo 0 0) s m args below meth c H locs 0 0 (wQ G ρ μ z Post below args s 0 0) (F0 m 0 ls [])) : MZ G l y cy ny ret fr lo z ρ As μ Post :=
  MC.of hy hc hn hn2 (fun p e s m args below meth c ls C hr hlk _ X hL => body p e s m args below meth c ls s.heap [] C C.1 C.2.1 hr hlk X hL)
theorem cat2 {v : Value} {x : Option Nat} (h : v = va_rf x) : v.category = 1 := by rw [h]; exact va_rf_cat x
section CC
variable {p : Program} {l : Launch} {e : Env} {R : Room} {s : State} {m : MethodId} {args : Array Value} {below : List Frame} {meth : Method} {c : Code} {H : Heap} {locs : List Loc} {cells slots : Nat} {Q : State → Prop}
variable {cc : ByteArray} {pc nL : Nat} {ls : Array Slot} {rest st0 : List Value} {G : mG} {ρ : Nat → Nat} {A : Nat → Prop} {H0 : Heap} {μ : mM} {z : Nat} {own : String} {L : List (Option Value)}
variable {y : MethodName} {cy : ByteArray} {ny n fr lo idx ci b : Nat} {ret : Option FieldType} {As : List Value} {Post : Option Value → mM → Nat → Prop}
theorem c_callV (C : mC G p c cc nL s m args own) (X : mX G ρ A H0 μ z H locs) (hM : MZ G l y cy ny ret fr lo z ρ (.ref (ρ b) :: As) μ Post) (F : mV own idx y cy ny ret n ci) (hb : sh μ b = some (.inl ci)) (hn : As.length = n) (hR : fr + 1 ≤ R.frames ∧ 8 + (ny + 11) + lo ≤ R.locals) (hC : cells ≤ R.cells ∧ slots ≤ R.slots) (hls : ls.size = nL)
    (hst : st0 = As.reverse ++ .ref (ρ b) :: rest) (hrest : (rest.map fun v => v.category).sum ≤ 8) (hd : decode cc pc = .ok (.invokevirtual idx, 3))
    (kk : ∀ (v : Option Value) (μ' : mM) (z' : Nat) (H' : Heap) (locs' : List Loc), Post v μ' z' → mX G ρ A H0 μ' z' H' locs' → W p l e R s m args below meth c H' locs' cells slots Q (F0 m (pc + 3) ls (v.toList ++ rest))) : W p l e R s m args below meth c H locs cells slots Q (F0 m pc ls st0) := m_callV C X hM F hb hn hR hC hls hst hrest hd kk
theorem c_callS (C : mC G p c cc nL s m args own) (X : mX G ρ A H0 μ z H locs) (hM : MZ G l y cy ny ret fr lo z ρ As μ Post) (F : mVs own idx y cy ny ret n) (hn : As.length = n) (hR : fr + 1 ≤ R.frames ∧ 8 + (ny + 11) + lo ≤ R.locals) (hC : cells ≤ R.cells ∧ slots ≤ R.slots) (hls : ls.size = nL)
    (hst : st0 = As.reverse ++ rest) (hrest : (rest.map fun v => v.category).sum ≤ 8) (hd : decode cc pc = .ok (.invokestatic idx, 3))
    (kk : ∀ (v : Option Value) (μ' : mM) (z' : Nat) (H' : Heap) (locs' : List Loc), Post v μ' z' → mX G ρ A H0 μ' z' H' locs' → W p l e R s m args below meth c H' locs' cells slots Q (F0 m (pc + 3) ls (v.toList ++ rest))) : W p l e R s m args below meth c H locs cells slots Q (F0 m pc ls st0) := m_callS C X hM F hn hR hC hls hst hrest hd kk
theorem c_geti (C : mC G p c cc nL s m args own) (X : mX G ρ A H0 μ z H locs) {a ci k idx : Nat} {x : Int} (F : mF own idx ci k) (ha : sh μ a = some (.inl ci)) (hr : mrf ci k = false) (hv : mi μ a k = iv x) (hd : decode cc pc = .ok (.getfield idx, 3))
    (kk : W p l e R s m args below meth c H locs cells slots Q (F0 m (pc + 3) ls (.int (iv x) :: rest))) : W p l e R s m args below meth c H locs cells slots Q (F0 m pc ls (.ref (ρ a) :: rest)) := m_geti C X F ha hr hv hd kk
theorem c_puti (C : mC G p c cc nL s m args own) (X : mX G ρ A H0 μ z H locs) {a ci k idx : Nat} {x : Int} (F : mFw own idx ci k) (ha : sh μ a = some (.inl ci)) (ht : mty ci k = .int) (hd : decode cc pc = .ok (.putfield idx, 3))
    (kk : ∀ (H' : Heap) (locs' : List Loc), mX G ρ A H0 (setI μ a k (iv x)) z H' locs' → W p l e R s m args below meth c H' locs' cells slots Q (F0 m (pc + 3) ls rest)) : W p l e R s m args below meth c H locs cells slots Q (F0 m pc ls (.int (iv x) :: .ref (ρ a) :: rest)) := m_puti C X F ha ht hd kk
theorem c_putz (C : mC G p c cc nL s m args own) (X : mX G ρ A H0 μ z H locs) {a ci k idx : Nat} {x : Int} (F : mFw own idx ci k) (ha : sh μ a = some (.inl ci)) (ht : mty ci k = .boolean) (hx : x = 0 ∨ x = 1) (hd : decode cc pc = .ok (.putfield idx, 3))
    (kk : ∀ (H' : Heap) (locs' : List Loc), mX G ρ A H0 (setI μ a k (iv x)) z H' locs' → W p l e R s m args below meth c H' locs' cells slots Q (F0 m (pc + 3) ls rest)) : W p l e R s m args below meth c H locs cells slots Q (F0 m pc ls (.int (iv x) :: .ref (ρ a) :: rest)) := m_putz C X F ha ht (by rcases hx with rfl | rfl <;> decide) hd kk
theorem c_putr (C : mC G p c cc nL s m args own) (X : mX G ρ A H0 μ z H locs) {a ci k idx b : Nat} {yb : mS} (F : mFw own idx ci k) (ha : sh μ a = some (.inl ci)) (hr : mrf ci k = true) (hj : mty ci k ≠ .int ∧ mty ci k ≠ .boolean ∧ mty ci k ≠ .byte ∧ mty ci k ≠ .char ∧ mty ci k ≠ .short ∧ mty ci k ≠ .long ∧ mty ci k ≠ .float ∧ mty ci k ≠ .double) (hb : sh μ b = some yb) (ht : mtg (.inl ci) k yb) (hd : decode cc pc = .ok (.putfield idx, 3))
    (kk : ∀ (H' : Heap) (locs' : List Loc), mX G ρ A H0 (setQ μ a k (some b)) z H' locs' → W p l e R s m args below meth c H' locs' cells slots Q (F0 m (pc + 3) ls rest)) : W p l e R s m args below meth c H locs cells slots Q (F0 m pc ls (.ref (ρ b) :: .ref (ρ a) :: rest)) := m_putq (v := some b) C X F ha hr hj (fun d h => by cases h; exact ⟨yb, hb, ht⟩) hd kk
theorem c_putn (C : mC G p c cc nL s m args own) (X : mX G ρ A H0 μ z H locs) {a ci k idx : Nat} (F : mFw own idx ci k) (ha : sh μ a = some (.inl ci)) (hr : mrf ci k = true) (hj : mty ci k ≠ .int ∧ mty ci k ≠ .boolean ∧ mty ci k ≠ .byte ∧ mty ci k ≠ .char ∧ mty ci k ≠ .short ∧ mty ci k ≠ .long ∧ mty ci k ≠ .float ∧ mty ci k ≠ .double) (hd : decode cc pc = .ok (.putfield idx, 3))
    (kk : ∀ (H' : Heap) (locs' : List Loc), mX G ρ A H0 (setQ μ a k none) z H' locs' → W p l e R s m args below meth c H' locs' cells slots Q (F0 m (pc + 3) ls rest)) : W p l e R s m args below meth c H locs cells slots Q (F0 m pc ls (.null :: .ref (ρ a) :: rest)) := m_putq (v := none) C X F ha hr hj (fun d h => by cases h) hd kk
theorem c_getn (C : mC G p c cc nL s m args own) (X : mX G ρ A H0 μ z H locs) {a ci k idx : Nat} (F : mF own idx ci k) (ha : sh μ a = some (.inl ci)) (hr : mrf ci k = true) (hv : mq μ a k = none) (hd : decode cc pc = .ok (.getfield idx, 3))
    (kk : W p l e R s m args below meth c H locs cells slots Q (F0 m (pc + 3) ls (.null :: rest))) : W p l e R s m args below meth c H locs cells slots Q (F0 m pc ls (.ref (ρ a) :: rest)) := m_getq (v := none) C X F ha hr hv hd kk
theorem c_astore_nr (hx : p.tables.exec = Jvm.exec) (hb : c.code = cc) (hL : lq ls L) {k : Fin 4} {x : Nat} (hd : decode cc pc = .ok (.astore_n k, 1)) (hi : (k : Nat) < L.length)
    (kk : ∀ ls' : Array Slot, lq ls' (L.set k (some (.ref x))) → W p l e R s m args below meth c H locs cells slots Q (F0 m (pc + 1) ls' rest)) : W p l e R s m args below meth c H locs cells slots Q (F0 m pc ls (.ref x :: rest)) := m_astore_n (x := some x) hx hb hL hd hi kk
theorem c_astorer (hx : p.tables.exec = Jvm.exec) (hb : c.code = cc) (hL : lq ls L) {i : Nat} {x : Nat} (hd : decode cc pc = .ok (.astore i, 2)) (hi : i < L.length)
    (kk : ∀ ls' : Array Slot, lq ls' (L.set i (some (.ref x))) → W p l e R s m args below meth c H locs cells slots Q (F0 m (pc + 2) ls' rest)) : W p l e R s m args below meth c H locs cells slots Q (F0 m pc ls (.ref x :: rest)) := m_astore (x := some x) hx hb hL hd hi kk
theorem c_astore_nn (hx : p.tables.exec = Jvm.exec) (hb : c.code = cc) (hL : lq ls L) {k : Fin 4} (hd : decode cc pc = .ok (.astore_n k, 1)) (hi : (k : Nat) < L.length)
    (kk : ∀ ls' : Array Slot, lq ls' (L.set k (some .null)) → W p l e R s m args below meth c H locs cells slots Q (F0 m (pc + 1) ls' rest)) : W p l e R s m args below meth c H locs cells slots Q (F0 m pc ls (.null :: rest)) := m_astore_n (x := none) hx hb hL hd hi kk
theorem c_astoren (hx : p.tables.exec = Jvm.exec) (hb : c.code = cc) (hL : lq ls L) {i : Nat} (hd : decode cc pc = .ok (.astore i, 2)) (hi : i < L.length)
    (kk : ∀ ls' : Array Slot, lq ls' (L.set i (some .null)) → W p l e R s m args below meth c H locs cells slots Q (F0 m (pc + 2) ls' rest)) : W p l e R s m args below meth c H locs cells slots Q (F0 m pc ls (.null :: rest)) := m_astore (x := none) hx hb hL hd hi kk
/-- a place of an array of references, by what it holds -/
theorem c_aaldr (C : mC G p c cc nL s m args own) (X : mX G ρ A H0 μ z H locs) {a t n b : Nat} (ha : sh μ a = some (.inr (t, n))) (ht : t = 3 ∨ t = 4) {x : Int} (h0 : 0 ≤ x) (hi : x < n) (hn : n < 2 ^ 31) (hv : mq μ a x.toNat = some b) (hd : decode cc pc = .ok (.aaload, 1))
    (kk : W p l e R s m args below meth c H locs cells slots Q (F0 m (pc + 1) ls (.ref (ρ b) :: rest))) : W p l e R s m args below meth c H locs cells slots Q (F0 m pc ls (.int (iv x) :: .ref (ρ a) :: rest)) := m_aald (v := some b) C X ha ht (iv_nat h0) (by omega) hn hv hd kk
theorem c_aaldn (C : mC G p c cc nL s m args own) (X : mX G ρ A H0 μ z H locs) {a t n : Nat} (ha : sh μ a = some (.inr (t, n))) (ht : t = 3 ∨ t = 4) {x : Int} (h0 : 0 ≤ x) (hi : x < n) (hn : n < 2 ^ 31) (hv : mq μ a x.toNat = none) (hd : decode cc pc = .ok (.aaload, 1))
    (kk : W p l e R s m args below meth c H locs cells slots Q (F0 m (pc + 1) ls (.null :: rest))) : W p l e R s m args below meth c H locs cells slots Q (F0 m pc ls (.int (iv x) :: .ref (ρ a) :: rest)) := m_aald (v := none) C X ha ht (iv_nat h0) (by omega) hn hv hd kk
theorem c_aaldq (C : mC G p c cc nL s m args own) (X : mX G ρ A H0 μ z H locs) {a t n : Nat} {b : Option Nat} (ha : sh μ a = some (.inr (t, n))) (ht : t = 3 ∨ t = 4) {x : Int} (h0 : 0 ≤ x) (hi : x < n) (hn : n < 2 ^ 31) (hv : mq μ a x.toNat = b) (hd : decode cc pc = .ok (.aaload, 1))
    (kk : W p l e R s m args below meth c H locs cells slots Q (F0 m (pc + 1) ls (va_rf (b.map ρ) :: rest))) : W p l e R s m args below meth c H locs cells slots Q (F0 m pc ls (.int (iv x) :: .ref (ρ a) :: rest)) := m_aald C X ha ht (iv_nat h0) (by omega) hn hv hd kk
theorem c_aastr (C : mC G p c cc nL s m args own) (X : mX G ρ A H0 μ z H locs) {a n b : Nat} (ha : sh μ a = some (.inr (3, n))) {x : Int} (h0 : 0 ≤ x) (hi : x < n) (hn : n < 2 ^ 31) (hv : sh μ b = some (.inl 1)) (hd : decode cc pc = .ok (.aastore, 1))
    (kk : ∀ (H' : Heap) (locs' : List Loc), mX G ρ A H0 (setQ μ a x.toNat (some b)) z H' locs' → W p l e R s m args below meth c H' locs' cells slots Q (F0 m (pc + 1) ls rest)) : W p l e R s m args below meth c H locs cells slots Q (F0 m pc ls (.ref (ρ b) :: .int (iv x) :: .ref (ρ a) :: rest)) := m_aast (v := some b) C X ha (Or.inl ⟨rfl, rfl⟩) (iv_nat h0) (by omega) hn (fun b' h => by cases h; exact hv) hd kk
theorem c_aastn (C : mC G p c cc nL s m args own) (X : mX G ρ A H0 μ z H locs) {a n : Nat} (ha : sh μ a = some (.inr (3, n))) {x : Int} (h0 : 0 ≤ x) (hi : x < n) (hn : n < 2 ^ 31) (hd : decode cc pc = .ok (.aastore, 1))
    (kk : ∀ (H' : Heap) (locs' : List Loc), mX G ρ A H0 (setQ μ a x.toNat none) z H' locs' → W p l e R s m args below meth c H' locs' cells slots Q (F0 m (pc + 1) ls rest)) : W p l e R s m args below meth c H locs cells slots Q (F0 m pc ls (.null :: .int (iv x) :: .ref (ρ a) :: rest)) := m_aast (v := none) C X ha (Or.inl ⟨rfl, rfl⟩) (iv_nat h0) (by omega) hn (fun b' h => by cases h) hd kk
theorem c_aastq (C : mC G p c cc nL s m args own) (X : mX G ρ A H0 μ z H locs) {a n : Nat} {b : Option Nat} (ha : sh μ a = some (.inr (3, n))) {x : Int} (h0 : 0 ≤ x) (hi : x < n) (hn : n < 2 ^ 31) (hv : ∀ b', b = some b' → sh μ b' = some (.inl 1)) (hd : decode cc pc = .ok (.aastore, 1))
    (kk : ∀ (H' : Heap) (locs' : List Loc), mX G ρ A H0 (setQ μ a x.toNat b) z H' locs' → W p l e R s m args below meth c H' locs' cells slots Q (F0 m (pc + 1) ls rest)) : W p l e R s m args below meth c H locs cells slots Q (F0 m pc ls (va_rf (b.map ρ) :: .int (iv x) :: .ref (ρ a) :: rest)) := m_aast C X ha (Or.inl ⟨rfl, rfl⟩) (iv_nat h0) (by omega) hn hv hd kk
theorem c_alen (C : mC G p c cc nL s m args own) (X : mX G ρ A H0 μ z H locs) {a t n : Nat} (ha : sh μ a = some (.inr (t, n))) (ht : t < 5) (hd : decode cc pc = .ok (.arraylength, 1))
    (kk : W p l e R s m args below meth c H locs cells slots Q (F0 m (pc + 1) ls (.int (iv (n : Int)) :: rest))) : W p l e R s m args below meth c H locs cells slots Q (F0 m pc ls (.ref (ρ a) :: rest)) := m_alen C X ha ht hd (by rw [iv_nI]; exact kk)
theorem c_aretr (C : mC G p c cc nL s m args own) {μ0 : mM} {z0 a : Nat} (X : mX G ρ (mA ρ μ0 z0) s.heap μ z H locs) {n1 : String} (hr : meth.sig.returnType = some (.object n1)) (hlk : meth.locks = false) (hp : Post (some (.ref a)) μ z) (hd : decode cc pc = .ok (.areturn, 1)) : W p l e R s m args below meth c H locs cells slots (MQ below (mQc G ρ μ0 z0 Post) args s cells slots (mA ρ μ0 z0)) (F0 m pc ls [.ref a]) := m_aret (v := some a) C X hr hlk hp hd
theorem c_aretn (C : mC G p c cc nL s m args own) {μ0 : mM} {z0 : Nat} (X : mX G ρ (mA ρ μ0 z0) s.heap μ z H locs) {n1 : String} (hr : meth.sig.returnType = some (.object n1)) (hlk : meth.locks = false) (hp : Post (some .null) μ z) (hd : decode cc pc = .ok (.areturn, 1)) : W p l e R s m args below meth c H locs cells slots (MQ below (mQc G ρ μ0 z0 Post) args s cells slots (mA ρ μ0 z0)) (F0 m pc ls [.null]) := m_aret (v := none) C X hr hlk hp hd
end CC
end
section
/-! the class's leaves over the memory (printed by wip/tools/cls1.py) -/
set_option maxHeartbeats 4000000 in
theorem k_X1_words {G : mG} {l : Launch} {z : Nat} {ρ : Nat → Nat} {μ : mM} {o f n : Nat} (ho : sh μ o = some (.inl 1)) (hf : mq μ o 1 = some f) (hs : sh μ f = some (.inr (3, n))) : MZ G l yX1_words cX1_words 1 (some .int) 0 0 z ρ [.ref (ρ o)] μ (cP (some (.int (iv ((n : Int) + 2)))) μ z) := by
  refine MZ.of (by decide) (by simp [Value.category]) (Nat.le_of_ble_eq_true rfl) (Nat.le_of_ble_eq_true rfl) ?_
  intro p e s m args below meth c ls H locs hC hx hb hr hlk X hL
  refine m_aload_n hx hb hL dX1_words_0 rfl ?_
  refine m_getr (b := f) hC X FX1_19 ho rfl hf dX1_words_1 ?_
  refine c_alen hC X hs (by decide) dX1_words_4 ?_
  refine lv_iconst (v := iv 2) hx hb dX1_words_5 rfl ?_
  refine m_iadd hx hb dX1_words_6 ?_
  exact m_iret hC X hr hlk ⟨rfl, rfl, rfl⟩ dX1_words_7

set_option maxHeartbeats 4000000 in
theorem k_X3_hasRoom {G : mG} {l : Launch} {z : Nat} {ρ : Nat → Nat} {μ : mM} {r : Nat} {x u : Int} (h3 : sh μ r = some (.inl 3)) (hu : mi μ r 3 = iv u) (hb0 : 0 ≤ u ∧ u ≤ 128) (hx0 : 0 ≤ x ∧ x ≤ 22) : MZ G l yX3_hasRoom cX3_hasRoom 2 (some .boolean) 0 0 z ρ [.ref (ρ r), .int (iv x)] μ (cP (some (.int (iv (bZ (u + x ≤ 128))))) μ z) := by
  refine MZ.of (by decide) (by simp [Value.category]) (Nat.le_of_ble_eq_true rfl) (Nat.le_of_ble_eq_true rfl) ?_
  intro p e s m args below meth c ls H locs hC hx hb hr hlk X hL
  refine m_aload_n hx hb hL dX3_hasRoom_0 rfl ?_
  refine c_geti (x := u) hC X FX3_24 h3 rfl hu dX3_hasRoom_1 ?_
  refine m_iload_n hx hb hL dX3_hasRoom_4 rfl ?_
  refine m_iadd hx hb dX3_hasRoom_5 ?_
  refine lv_sipush (v := iv 128) hx hb dX3_hasRoom_6 (by decide +kernel) ?_
  refine m_icmp_gt (tgt := 16) hx hb dX3_hasRoom_9 (by decide) (by omega) (by omega) (fun c9 => ?_) (fun c9 => ?_)
  · refine lv_iconst (v := iv 0) hx hb dX3_hasRoom_16 rfl ?_
    exact m_zret hC X hr hlk (by decide) ⟨by first | rw [bZ_t (by omega)] | rw [bZ_f (by omega)], rfl, rfl⟩ dX3_hasRoom_17
  · refine lv_iconst (v := iv 1) hx hb dX3_hasRoom_12 rfl ?_
    refine lv_goto (tgt := 17) hx hb dX3_hasRoom_13 (by decide) ?_
    exact m_zret hC X hr hlk (by decide) ⟨by first | rw [bZ_t (by omega)] | rw [bZ_f (by omega)], rfl, rfl⟩ dX3_hasRoom_17

set_option maxHeartbeats 4000000 in
theorem k_X3_append {G : mG} {l : Launch} {z : Nat} {ρ : Nat → Nat} {μ : mM} {r o q f n : Nat} {u : Int} (h3 : sh μ r = some (.inl 3)) (ho : sh μ o = some (.inl 1)) (hq : sh μ q = some (.inr (3, 128))) (hf : mq μ o 1 = some f) (hs : sh μ f = some (.inr (3, n))) (hu : mi μ r 3 = iv u) (hr1 : mq μ r 1 = some q) (hb0 : 0 ≤ u ∧ u < 128) : MZ G l yX3_append cX3_append 2 none 1 20 z ρ [.ref (ρ r), .ref (ρ o)] μ (cP none (setI (setQ (setI (setQ μ o 2 (some r)) o 3 (iv u)) q (u : Int).toNat (some o)) r 3 (iv (u + ((n : Int) + 2)))) z) := by
  refine MZ.of (by decide) (by simp [Value.category]) (Nat.le_of_ble_eq_true rfl) (Nat.le_of_ble_eq_true rfl) ?_
  intro p e s m args below meth c ls H locs hC hx hb hr hlk X hL
  have nro : r ≠ o := fun e => by rw [e, ho] at h3; cases h3
  have nrq : r ≠ q := fun e => by rw [e, hq] at h3; cases h3
  have noq : o ≠ q := fun e => by rw [e, hq] at ho; cases ho
  refine m_aload_n hx hb hL dX3_append_0 rfl ?_
  refine m_aload_n hx hb hL dX3_append_1 rfl ?_
  refine c_putr (b := r) hC X FwX3_27 ho rfl (by decide) h3 rfl dX3_append_2 (fun H locs X => ?_)
  refine m_aload_n hx hb hL dX3_append_5 rfl ?_
  refine m_aload_n hx hb hL dX3_append_6 rfl ?_
  refine c_geti (x := u) hC X FX3_24 h3 rfl (by rw [mi_Q]; exact hu) dX3_append_7 ?_
  refine c_puti (x := u) hC X FwX3_31 ho rfl dX3_append_10 (fun H locs X => ?_)
  refine m_aload_n hx hb hL dX3_append_13 rfl ?_
  refine m_getr (b := q) hC X FX3_17 h3 rfl (by rw [mq_I, mq_Q, if_neg (fun q => absurd q.2 (by decide))]; exact hr1) dX3_append_14 ?_
  refine m_aload_n hx hb hL dX3_append_17 rfl ?_
  refine c_geti (x := u) hC X FX3_24 h3 rfl (by rw [mi_I, if_neg (fun q => nro q.1), mi_Q]; exact hu) dX3_append_18 ?_
  refine m_aload_n hx hb hL dX3_append_21 rfl ?_
  refine c_aastr (b := o) (x := u) hC X hq (by omega) (by omega) (by omega) ho dX3_append_22 (fun H locs X => ?_)
  refine m_aload_n hx hb hL dX3_append_23 rfl ?_
  refine lv_dup hx hb dX3_append_24 rfl ?_
  refine c_geti (x := u) hC X FX3_24 h3 rfl (by rw [mi_Q, mi_I, if_neg (fun q => nro q.1), mi_Q]; exact hu) dX3_append_25 ?_
  refine m_aload_n hx hb hL dX3_append_28 rfl ?_
  refine c_callV hC X (k_X1_words (f := f) (n := n) ho ((by rw [mq_Q, if_neg (fun q => noq q.1), mq_I, mq_Q, if_neg (fun q => absurd q.2 (by decide))]; exact hf)) hs) VX3_34 ho rfl ⟨by decide, by decide⟩ ⟨by decide, by decide⟩ hL.1 rfl (Nat.le_of_ble_eq_true rfl) dX3_append_29 (fun v29 μ29 z29 H locs hp X => ?_)
  obtain ⟨rfl, rfl, rfl⟩ := hp
  refine m_iadd hx hb dX3_append_32 ?_
  refine c_puti (x := (u + ((n : Int) + 2))) hC X FwX3_24 h3 rfl dX3_append_33 (fun H locs X => ?_)
  exact m_vret hC X hr hlk ⟨rfl, rfl, rfl⟩ dX3_append_36

set_option maxHeartbeats 4000000 in
theorem k_X3_enterSet {G : mG} {l : Launch} {z : Nat} {ρ : Nat → Nat} {μ : mM} {r : Nat} (h3 : sh μ r = some (.inl 3)) : MZ G l yX3_enterSet cX3_enterSet 1 none 0 0 z ρ [.ref (ρ r)] μ (cP none (setI (setI (setI μ r 2 (iv 4)) r 4 (iv 0)) r 5 (iv 0)) z) := by
  refine MZ.of (by decide) (by simp [Value.category]) (Nat.le_of_ble_eq_true rfl) (Nat.le_of_ble_eq_true rfl) ?_
  intro p e s m args below meth c ls H locs hC hx hb hr hlk X hL
  refine m_aload_n hx hb hL dX3_enterSet_0 rfl ?_
  refine lv_iconst (v := iv 4) hx hb dX3_enterSet_1 rfl ?_
  refine c_puti (x := 4) hC X FwX3_21 h3 rfl dX3_enterSet_2 (fun H locs X => ?_)
  refine m_aload_n hx hb hL dX3_enterSet_5 rfl ?_
  refine lv_iconst (v := iv 0) hx hb dX3_enterSet_6 rfl ?_
  refine c_puti (x := 0) hC X FwX3_41 h3 rfl dX3_enterSet_7 (fun H locs X => ?_)
  refine m_aload_n hx hb hL dX3_enterSet_10 rfl ?_
  refine lv_iconst (v := iv 0) hx hb dX3_enterSet_11 rfl ?_
  refine c_putz (x := 0) hC X FwX3_44 h3 rfl (by omega) dX3_enterSet_12 (fun H locs X => ?_)
  exact m_vret hC X hr hlk ⟨rfl, rfl, rfl⟩ dX3_enterSet_15

set_option maxHeartbeats 4000000 in
theorem k_X2_closeTarget_n {G : mG} {l : Launch} {z : Nat} {ρ : Nat → Nat} {μ : mM} {a : Nat} (h2 : sh μ a = some (.inl 2)) (ht : mq μ a 3 = none) : MZ G l yX2_closeTarget cX2_closeTarget 1 none 0 0 z ρ [.ref (ρ a)] μ (cP none μ z) := by
  refine MZ.of (by decide) (by simp [Value.category]) (Nat.le_of_ble_eq_true rfl) (Nat.le_of_ble_eq_true rfl) ?_
  intro p e s m args below meth c ls H locs hC hx hb hr hlk X hL
  refine m_aload_n hx hb hL dX2_closeTarget_0 rfl ?_
  refine c_getn hC X FX2_42 h2 rfl ht dX2_closeTarget_1 ?_
  refine lv_ifnullN (tgt := 20) hx hb dX2_closeTarget_4 (by decide) ?_
  exact m_vret hC X hr hlk ⟨rfl, rfl, rfl⟩ dX2_closeTarget_20

set_option maxHeartbeats 4000000 in
theorem k_X2_closeTarget_s {G : mG} {l : Launch} {z : Nat} {ρ : Nat → Nat} {μ : mM} {a t : Nat} (h2 : sh μ a = some (.inl 2)) (h3 : sh μ t = some (.inl 3)) (ht : mq μ a 3 = some t) : MZ G l yX2_closeTarget cX2_closeTarget 1 none 0 0 z ρ [.ref (ρ a)] μ (cP none (setQ (setI μ t 2 (iv 3)) a 3 none) z) := by
  refine MZ.of (by decide) (by simp [Value.category]) (Nat.le_of_ble_eq_true rfl) (Nat.le_of_ble_eq_true rfl) ?_
  intro p e s m args below meth c ls H locs hC hx hb hr hlk X hL
  refine m_aload_n hx hb hL dX2_closeTarget_0 rfl ?_
  refine m_getr (b := t) hC X FX2_42 h2 rfl ht dX2_closeTarget_1 ?_
  refine lv_ifnull hx hb dX2_closeTarget_4 ?_
  refine m_aload_n hx hb hL dX2_closeTarget_7 rfl ?_
  refine m_getr (b := t) hC X FX2_42 h2 rfl ht dX2_closeTarget_8 ?_
  refine lv_iconst (v := iv 3) hx hb dX2_closeTarget_11 rfl ?_
  refine c_puti (x := 3) hC X FwX2_26 h3 rfl dX2_closeTarget_12 (fun H locs X => ?_)
  refine m_aload_n hx hb hL dX2_closeTarget_15 rfl ?_
  refine lv_null hx hb dX2_closeTarget_16 ?_
  refine c_putn hC X FwX2_42 h2 rfl (by decide) dX2_closeTarget_17 (fun H locs X => ?_)
  exact m_vret hC X hr hlk ⟨rfl, rfl, rfl⟩ dX2_closeTarget_20

set_option maxHeartbeats 4000000 in
theorem k_X4_append_n {G : mG} {l : Launch} {z : Nat} {ρ : Nat → Nat} {μ : mM} {w o : Nat} {n : Int} (h4 : sh μ w = some (.inl 4)) (ho : sh μ o = some (.inl 1)) (hl : mq μ w 1 = none) (hn : mi μ w 2 = iv n) : MZ G l yX4_append cX4_append 2 none 0 0 z ρ [.ref (ρ w), .ref (ρ o)] μ (cP none (setI (setQ (setQ μ w 0 (some o)) w 1 (some o)) w 2 (iv (n + 1))) z) := by
  refine MZ.of (by decide) (by simp [Value.category]) (Nat.le_of_ble_eq_true rfl) (Nat.le_of_ble_eq_true rfl) ?_
  intro p e s m args below meth c ls H locs hC hx hb hr hlk X hL
  refine m_aload_n hx hb hL dX4_append_0 rfl ?_
  refine c_getn hC X FX4_7 h4 rfl hl dX4_append_1 ?_
  refine lv_ifnonnullN hx hb dX4_append_4 ?_
  refine m_aload_n hx hb hL dX4_append_7 rfl ?_
  refine m_aload_n hx hb hL dX4_append_8 rfl ?_
  refine c_putr (b := o) hC X FwX4_13 h4 rfl (by decide) ho rfl dX4_append_9 (fun H locs X => ?_)
  refine lv_goto (tgt := 23) hx hb dX4_append_12 (by decide) ?_
  refine m_aload_n hx hb hL dX4_append_23 rfl ?_
  refine m_aload_n hx hb hL dX4_append_24 rfl ?_
  refine c_putr (b := o) hC X FwX4_7 h4 rfl (by decide) ho rfl dX4_append_25 (fun H locs X => ?_)
  refine m_aload_n hx hb hL dX4_append_28 rfl ?_
  refine lv_dup hx hb dX4_append_29 rfl ?_
  refine c_geti (x := n) hC X FX4_21 h4 rfl (by rw [mi_Q, mi_Q]; exact hn) dX4_append_30 ?_
  refine lv_iconst (v := iv 1) hx hb dX4_append_33 rfl ?_
  refine m_iadd hx hb dX4_append_34 ?_
  refine c_puti (x := (n + 1)) hC X FwX4_21 h4 rfl dX4_append_35 (fun H locs X => ?_)
  exact m_vret hC X hr hlk ⟨rfl, rfl, rfl⟩ dX4_append_38

set_option maxHeartbeats 4000000 in
theorem k_X4_append_s {G : mG} {l : Launch} {z : Nat} {ρ : Nat → Nat} {μ : mM} {w o q : Nat} {n : Int} (h4 : sh μ w = some (.inl 4)) (ho : sh μ o = some (.inl 1)) (hq : sh μ q = some (.inl 1)) (hl : mq μ w 1 = some q) (hn : mi μ w 2 = iv n) : MZ G l yX4_append cX4_append 2 none 0 0 z ρ [.ref (ρ w), .ref (ρ o)] μ (cP none (setI (setQ (setQ μ q 6 (some o)) w 1 (some o)) w 2 (iv (n + 1))) z) := by
  refine MZ.of (by decide) (by simp [Value.category]) (Nat.le_of_ble_eq_true rfl) (Nat.le_of_ble_eq_true rfl) ?_
  intro p e s m args below meth c ls H locs hC hx hb hr hlk X hL
  have nwq : w ≠ q := fun e => by rw [e, hq] at h4; cases h4
  refine m_aload_n hx hb hL dX4_append_0 rfl ?_
  refine m_getr (b := q) hC X FX4_7 h4 rfl hl dX4_append_1 ?_
  refine lv_ifnonnull (tgt := 15) hx hb dX4_append_4 (by decide) ?_
  refine m_aload_n hx hb hL dX4_append_15 rfl ?_
  refine m_getr (b := q) hC X FX4_7 h4 rfl hl dX4_append_16 ?_
  refine m_aload_n hx hb hL dX4_append_19 rfl ?_
  refine c_putr (b := o) hC X FwX4_16 hq rfl (by decide) ho rfl dX4_append_20 (fun H locs X => ?_)
  refine m_aload_n hx hb hL dX4_append_23 rfl ?_
  refine m_aload_n hx hb hL dX4_append_24 rfl ?_
  refine c_putr (b := o) hC X FwX4_7 h4 rfl (by decide) ho rfl dX4_append_25 (fun H locs X => ?_)
  refine m_aload_n hx hb hL dX4_append_28 rfl ?_
  refine lv_dup hx hb dX4_append_29 rfl ?_
  refine c_geti (x := n) hC X FX4_21 h4 rfl (by rw [mi_Q, mi_Q]; exact hn) dX4_append_30 ?_
  refine lv_iconst (v := iv 1) hx hb dX4_append_33 rfl ?_
  refine m_iadd hx hb dX4_append_34 ?_
  refine c_puti (x := (n + 1)) hC X FwX4_21 h4 rfl dX4_append_35 (fun H locs X => ?_)
  exact m_vret hC X hr hlk ⟨rfl, rfl, rfl⟩ dX4_append_38

set_option maxHeartbeats 4000000 in
theorem k_X4_takeFirst_n {G : mG} {l : Launch} {z : Nat} {ρ : Nat → Nat} {μ : mM} {w : Nat} (h4 : sh μ w = some (.inl 4)) (hl : mq μ w 0 = none) : MZ G l yX4_takeFirst cX4_takeFirst 2 (some (.object "ForwardHeap$HeapObject")) 0 0 z ρ [.ref (ρ w)] μ (cP (some .null) μ z) := by
  refine MZ.of (by decide) (by simp [Value.category]) (Nat.le_of_ble_eq_true rfl) (Nat.le_of_ble_eq_true rfl) ?_
  intro p e s m args below meth c ls H locs hC hx hb hr hlk X hL
  refine m_aload_n hx hb hL dX4_takeFirst_0 rfl ?_
  refine c_getn hC X FX4_13 h4 rfl hl dX4_takeFirst_1 ?_
  refine c_astore_nn hx hb hL dX4_takeFirst_4 (Nat.le_of_ble_eq_true rfl) (fun ls hL => ?_)
  refine m_aload_nq (x := none) hx hb hL dX4_takeFirst_5 rfl ?_
  refine lv_ifnonnullN hx hb dX4_takeFirst_6 ?_
  refine lv_null hx hb dX4_takeFirst_9 ?_
  exact c_aretn hC X hr hlk ⟨rfl, rfl, rfl⟩ dX4_takeFirst_10

set_option maxHeartbeats 4000000 in
theorem k_X4_takeFirst_l {G : mG} {l : Launch} {z : Nat} {ρ : Nat → Nat} {μ : mM} {w o : Nat} {n : Int} (h4 : sh μ w = some (.inl 4)) (ho : sh μ o = some (.inl 1)) (hl : mq μ w 0 = some o) (hx6 : mq μ o 6 = none) (hn : mi μ w 2 = iv n) : MZ G l yX4_takeFirst cX4_takeFirst 2 (some (.object "ForwardHeap$HeapObject")) 0 0 z ρ [.ref (ρ w)] μ (cP (some (.ref (ρ o))) (setI (setQ (setQ (setQ μ w 0 none) w 1 none) o 6 none) w 2 (iv (n - 1))) z) := by
  refine MZ.of (by decide) (by simp [Value.category]) (Nat.le_of_ble_eq_true rfl) (Nat.le_of_ble_eq_true rfl) ?_
  intro p e s m args below meth c ls H locs hC hx hb hr hlk X hL
  have nwo : w ≠ o := fun e => by rw [e, ho] at h4; cases h4
  refine m_aload_n hx hb hL dX4_takeFirst_0 rfl ?_
  refine m_getr (b := o) hC X FX4_13 h4 rfl hl dX4_takeFirst_1 ?_
  refine c_astore_nr hx hb hL dX4_takeFirst_4 (Nat.le_of_ble_eq_true rfl) (fun ls hL => ?_)
  refine m_aload_n hx hb hL dX4_takeFirst_5 rfl ?_
  refine lv_ifnonnull (tgt := 11) hx hb dX4_takeFirst_6 (by decide) ?_
  refine m_aload_n hx hb hL dX4_takeFirst_11 rfl ?_
  refine m_aload_n hx hb hL dX4_takeFirst_12 rfl ?_
  refine c_getn hC X FX4_16 ho rfl hx6 dX4_takeFirst_13 ?_
  refine c_putn hC X FwX4_13 h4 rfl (by decide) dX4_takeFirst_16 (fun H locs X => ?_)
  refine m_aload_n hx hb hL dX4_takeFirst_19 rfl ?_
  refine c_getn hC X FX4_13 h4 rfl (by simp [mi_I, mi_Q, mq_I, mq_Q]) dX4_takeFirst_20 ?_
  refine lv_ifnonnullN hx hb dX4_takeFirst_23 ?_
  refine m_aload_n hx hb hL dX4_takeFirst_26 rfl ?_
  refine lv_null hx hb dX4_takeFirst_27 ?_
  refine c_putn hC X FwX4_7 h4 rfl (by decide) dX4_takeFirst_28 (fun H locs X => ?_)
  refine m_aload_n hx hb hL dX4_takeFirst_31 rfl ?_
  refine lv_null hx hb dX4_takeFirst_32 ?_
  refine c_putn hC X FwX4_16 ho rfl (by decide) dX4_takeFirst_33 (fun H locs X => ?_)
  refine m_aload_n hx hb hL dX4_takeFirst_36 rfl ?_
  refine lv_dup hx hb dX4_takeFirst_37 rfl ?_
  refine c_geti (x := n) hC X FX4_21 h4 rfl (by rw [mi_Q, mi_Q, mi_Q]; exact hn) dX4_takeFirst_38 ?_
  refine lv_iconst (v := iv 1) hx hb dX4_takeFirst_41 rfl ?_
  refine m_isub hx hb dX4_takeFirst_42 ?_
  refine c_puti (x := (n - 1)) hC X FwX4_21 h4 rfl dX4_takeFirst_43 (fun H locs X => ?_)
  refine m_aload_n hx hb hL dX4_takeFirst_46 rfl ?_
  exact c_aretr hC X hr hlk ⟨rfl, rfl, rfl⟩ dX4_takeFirst_47

set_option maxHeartbeats 4000000 in
theorem k_X4_takeFirst_m {G : mG} {l : Launch} {z : Nat} {ρ : Nat → Nat} {μ : mM} {w o q : Nat} {n : Int} (h4 : sh μ w = some (.inl 4)) (ho : sh μ o = some (.inl 1)) (hq : sh μ q = some (.inl 1)) (hl : mq μ w 0 = some o) (hx6 : mq μ o 6 = some q) (hn : mi μ w 2 = iv n) : MZ G l yX4_takeFirst cX4_takeFirst 2 (some (.object "ForwardHeap$HeapObject")) 0 0 z ρ [.ref (ρ w)] μ (cP (some (.ref (ρ o))) (setI (setQ (setQ μ w 0 (some q)) o 6 none) w 2 (iv (n - 1))) z) := by
  refine MZ.of (by decide) (by simp [Value.category]) (Nat.le_of_ble_eq_true rfl) (Nat.le_of_ble_eq_true rfl) ?_
  intro p e s m args below meth c ls H locs hC hx hb hr hlk X hL
  have nwo : w ≠ o := fun e => by rw [e, ho] at h4; cases h4
  refine m_aload_n hx hb hL dX4_takeFirst_0 rfl ?_
  refine m_getr (b := o) hC X FX4_13 h4 rfl hl dX4_takeFirst_1 ?_
  refine c_astore_nr hx hb hL dX4_takeFirst_4 (Nat.le_of_ble_eq_true rfl) (fun ls hL => ?_)
  refine m_aload_n hx hb hL dX4_takeFirst_5 rfl ?_
  refine lv_ifnonnull (tgt := 11) hx hb dX4_takeFirst_6 (by decide) ?_
  refine m_aload_n hx hb hL dX4_takeFirst_11 rfl ?_
  refine m_aload_n hx hb hL dX4_takeFirst_12 rfl ?_
  refine m_getr (b := q) hC X FX4_16 ho rfl hx6 dX4_takeFirst_13 ?_
  refine c_putr (b := q) hC X FwX4_13 h4 rfl (by decide) hq rfl dX4_takeFirst_16 (fun H locs X => ?_)
  refine m_aload_n hx hb hL dX4_takeFirst_19 rfl ?_
  refine m_getr (b := q) hC X FX4_13 h4 rfl (by simp [mi_I, mi_Q, mq_I, mq_Q]) dX4_takeFirst_20 ?_
  refine lv_ifnonnull (tgt := 31) hx hb dX4_takeFirst_23 (by decide) ?_
  refine m_aload_n hx hb hL dX4_takeFirst_31 rfl ?_
  refine lv_null hx hb dX4_takeFirst_32 ?_
  refine c_putn hC X FwX4_16 ho rfl (by decide) dX4_takeFirst_33 (fun H locs X => ?_)
  refine m_aload_n hx hb hL dX4_takeFirst_36 rfl ?_
  refine lv_dup hx hb dX4_takeFirst_37 rfl ?_
  refine c_geti (x := n) hC X FX4_21 h4 rfl (by rw [mi_Q, mi_Q]; exact hn) dX4_takeFirst_38 ?_
  refine lv_iconst (v := iv 1) hx hb dX4_takeFirst_41 rfl ?_
  refine m_isub hx hb dX4_takeFirst_42 ?_
  refine c_puti (x := (n - 1)) hC X FwX4_21 h4 rfl dX4_takeFirst_43 (fun H locs X => ?_)
  refine m_aload_n hx hb hL dX4_takeFirst_46 rfl ?_
  exact c_aretr hC X hr hlk ⟨rfl, rfl, rfl⟩ dX4_takeFirst_47

set_option maxHeartbeats 4000000 in
theorem k_X0_welcome {G : mG} {l : Launch} {z : Nat} {ρ : Nat → Nat} {μ : mM} {a o : Nat} {ph cy : Int} (h0 : sh μ a = some (.inl 0)) (ho : sh μ o = some (.inl 1)) (hp : mi μ a 3 = iv ph) (hcy : mi μ a 4 = iv cy) (hb0 : 0 ≤ ph ∧ ph ≤ 3) : MZ G l yX0_welcome cX0_welcome 2 none 0 0 z ρ [.ref (ρ a), .ref (ρ o)] μ (cP none (if ph = 0 then μ else setI μ o 4 (iv cy)) z) := by
  refine MZ.of (by decide) (by simp [Value.category]) (Nat.le_of_ble_eq_true rfl) (Nat.le_of_ble_eq_true rfl) ?_
  intro p e s m args below meth c ls H locs hC hx hb hr hlk X hL
  refine m_aload_n hx hb hL dX0_welcome_0 rfl ?_
  refine c_geti (x := ph) hC X FX0_31 h0 rfl hp dX0_welcome_1 ?_
  refine m_if_eq (tgt := 15) hx hb dX0_welcome_4 (by decide) (by omega) (fun c4 => ?_) (fun c4 => ?_)
  · exact m_vret hC X hr hlk ⟨rfl, by rw [if_pos c4], rfl⟩ dX0_welcome_15
  · refine m_aload_n hx hb hL dX0_welcome_7 rfl ?_
    refine m_aload_n hx hb hL dX0_welcome_8 rfl ?_
    refine c_geti (x := cy) hC X FX0_34 h0 rfl hcy dX0_welcome_9 ?_
    refine c_puti (x := cy) hC X FwX0_61 ho rfl dX0_welcome_12 (fun H locs X => ?_)
    exact m_vret hC X hr hlk ⟨rfl, by rw [if_neg c4], rfl⟩ dX0_welcome_15

set_option maxHeartbeats 4000000 in
theorem k_X0_mayMove {G : mG} {l : Launch} {z : Nat} {ρ : Nat → Nat} {μ : mM} {a o r : Nat} {kd fl cy : Int} (h0 : sh μ a = some (.inl 0)) (ho : sh μ o = some (.inl 1)) (h3 : sh μ r = some (.inl 3)) (hr2 : mq μ o 2 = some r) (hk : mi μ r 2 = iv kd) (hfl : mi μ o 5 = iv fl) (hcy : mi μ a 4 = iv cy) (b1 : 0 ≤ kd ∧ kd ≤ 4) (b2 : -1 ≤ fl ∧ fl ≤ 2000) (b3 : 0 ≤ cy ∧ cy ≤ 2000) : MZ G l yX0_mayMove cX0_mayMove 2 (some .boolean) 0 0 z ρ [.ref (ρ a), .ref (ρ o)] μ (cP (some (.int (iv (bZ (kd = 4 ∧ fl ≠ cy))))) μ z) := by
  refine MZ.of (by decide) (by simp [Value.category]) (Nat.le_of_ble_eq_true rfl) (Nat.le_of_ble_eq_true rfl) ?_
  intro p e s m args below meth c ls H locs hC hx hb hr hlk X hL
  refine m_aload_n hx hb hL dX0_mayMove_0 rfl ?_
  refine m_getr (b := r) hC X FX0_112 ho rfl hr2 dX0_mayMove_1 ?_
  refine c_geti (x := kd) hC X FX0_90 h3 rfl hk dX0_mayMove_4 ?_
  refine lv_iconst (v := iv 4) hx hb dX0_mayMove_7 rfl ?_
  refine m_icmp_ne (tgt := 26) hx hb dX0_mayMove_8 (by decide) (by omega) (by omega) (fun c8 => ?_) (fun c8 => ?_)
  · refine lv_iconst (v := iv 0) hx hb dX0_mayMove_26 rfl ?_
    exact m_zret hC X hr hlk (by decide) ⟨by first | rw [bZ_t (by omega)] | rw [bZ_f (by omega)], rfl, rfl⟩ dX0_mayMove_27
  · refine m_aload_n hx hb hL dX0_mayMove_11 rfl ?_
    refine c_geti (x := fl) hC X FX0_116 ho rfl hfl dX0_mayMove_12 ?_
    refine m_aload_n hx hb hL dX0_mayMove_15 rfl ?_
    refine c_geti (x := cy) hC X FX0_34 h0 rfl hcy dX0_mayMove_16 ?_
    refine m_icmp_eq (tgt := 26) hx hb dX0_mayMove_19 (by decide) (by omega) (by omega) (fun c19 => ?_) (fun c19 => ?_)
    · refine lv_iconst (v := iv 0) hx hb dX0_mayMove_26 rfl ?_
      exact m_zret hC X hr hlk (by decide) ⟨by first | rw [bZ_t (by omega)] | rw [bZ_f (by omega)], rfl, rfl⟩ dX0_mayMove_27
    · refine lv_iconst (v := iv 1) hx hb dX0_mayMove_22 rfl ?_
      refine lv_goto (tgt := 27) hx hb dX0_mayMove_23 (by decide) ?_
      exact m_zret hC X hr hlk (by decide) ⟨by first | rw [bZ_t (by omega)] | rw [bZ_f (by omega)], rfl, rfl⟩ dX0_mayMove_27

set_option maxHeartbeats 4000000 in
theorem k_X5_tagOf_n {G : mG} {l : Launch} {z : Nat} {ρ : Nat → Nat} {μ : mM} : MZ G l yX5_tagOf cX5_tagOf 1 (some .int) 0 0 z ρ [.null] μ (cP (some (.int (iv 0))) μ z) := by
  refine MZ.of (by decide) (by simp [Value.category]) (Nat.le_of_ble_eq_true rfl) (Nat.le_of_ble_eq_true rfl) ?_
  intro p e s m args below meth c ls H locs hC hx hb hr hlk X hL
  refine m_aload_nq (x := none) hx hb hL dX5_tagOf_0 rfl ?_
  refine lv_ifnonnullN hx hb dX5_tagOf_1 ?_
  refine lv_iconst (v := iv 0) hx hb dX5_tagOf_4 rfl ?_
  refine lv_goto (tgt := 12) hx hb dX5_tagOf_5 (by decide) ?_
  exact m_iret hC X hr hlk ⟨rfl, rfl, rfl⟩ dX5_tagOf_12

set_option maxHeartbeats 4000000 in
theorem k_X5_tagOf_s {G : mG} {l : Launch} {z : Nat} {ρ : Nat → Nat} {μ : mM} {o : Nat} {t : Int} (ho : sh μ o = some (.inl 1)) (ht : mi μ o 0 = iv t) : MZ G l yX5_tagOf cX5_tagOf 1 (some .int) 0 0 z ρ [.ref (ρ o)] μ (cP (some (.int (iv t))) μ z) := by
  refine MZ.of (by decide) (by simp [Value.category]) (Nat.le_of_ble_eq_true rfl) (Nat.le_of_ble_eq_true rfl) ?_
  intro p e s m args below meth c ls H locs hC hx hb hr hlk X hL
  refine m_aload_n hx hb hL dX5_tagOf_0 rfl ?_
  refine lv_ifnonnull (tgt := 8) hx hb dX5_tagOf_1 (by decide) ?_
  refine m_aload_n hx hb hL dX5_tagOf_8 rfl ?_
  refine c_geti (x := t) hC X FX5_87 ho rfl ht dX5_tagOf_9 ?_
  exact m_iret hC X hr hlk ⟨rfl, rfl, rfl⟩ dX5_tagOf_12

set_option maxHeartbeats 4000000 in
theorem k_X5_placeOf_n {G : mG} {l : Launch} {z : Nat} {ρ : Nat → Nat} {μ : mM} : MZ G l yX5_placeOf cX5_placeOf 1 (some .int) 0 0 z ρ [.null] μ (cP (some (.int (iv (-1)))) μ z) := by
  refine MZ.of (by decide) (by simp [Value.category]) (Nat.le_of_ble_eq_true rfl) (Nat.le_of_ble_eq_true rfl) ?_
  intro p e s m args below meth c ls H locs hC hx hb hr hlk X hL
  refine m_aload_nq (x := none) hx hb hL dX5_placeOf_0 rfl ?_
  refine lv_ifnonnullN hx hb dX5_placeOf_1 ?_
  refine lv_iconst (v := iv (-1)) hx hb dX5_placeOf_4 rfl ?_
  refine lv_goto (tgt := 24) hx hb dX5_placeOf_5 (by decide) ?_
  exact m_iret hC X hr hlk ⟨rfl, rfl, rfl⟩ dX5_placeOf_24

set_option maxHeartbeats 4000000 in
theorem k_X5_placeOf_s {G : mG} {l : Launch} {z : Nat} {ρ : Nat → Nat} {μ : mM} {o r : Nat} {n f : Int} (ho : sh μ o = some (.inl 1)) (h3 : sh μ r = some (.inl 3)) (hr2 : mq μ o 2 = some r) (hn : mi μ r 0 = iv n) (hfo : mi μ o 3 = iv f) : MZ G l yX5_placeOf cX5_placeOf 1 (some .int) 0 0 z ρ [.ref (ρ o)] μ (cP (some (.int (iv (128 * n + f)))) μ z) := by
  refine MZ.of (by decide) (by simp [Value.category]) (Nat.le_of_ble_eq_true rfl) (Nat.le_of_ble_eq_true rfl) ?_
  intro p e s m args below meth c ls H locs hC hx hb hr hlk X hL
  refine m_aload_n hx hb hL dX5_placeOf_0 rfl ?_
  refine lv_ifnonnull (tgt := 8) hx hb dX5_placeOf_1 (by decide) ?_
  refine lv_sipush (v := iv 128) hx hb dX5_placeOf_8 (by decide +kernel) ?_
  refine m_aload_n hx hb hL dX5_placeOf_11 rfl ?_
  refine m_getr (b := r) hC X FX5_161 ho rfl hr2 dX5_placeOf_12 ?_
  refine c_geti (x := n) hC X FX5_165 h3 rfl hn dX5_placeOf_15 ?_
  refine m_imul hx hb dX5_placeOf_18 ?_
  refine m_aload_n hx hb hL dX5_placeOf_19 rfl ?_
  refine c_geti (x := f) hC X FX5_168 ho rfl hfo dX5_placeOf_20 ?_
  refine m_iadd hx hb dX5_placeOf_23 ?_
  exact m_iret hC X hr hlk ⟨rfl, rfl, rfl⟩ dX5_placeOf_24
end
section
/-! which writes leave which part of the class's picture alone -/
theorem aRg_ne_aOb (r o : Nat) : aRg r ≠ aOb o := by unfold aRg aOb; omega
theorem aRg_ne_aSt (r o : Nat) : aRg r ≠ aSt o := by unfold aRg aSt; omega
theorem aRg_ne_aFd (r o : Nat) : aRg r ≠ aFd o := by unfold aRg aFd; omega
theorem aOb_ne_aSt (r o : Nat) : aOb r ≠ aSt o := by unfold aOb aSt; omega
theorem aOb_ne_aFd (r o : Nat) : aOb r ≠ aFd o := by unfold aOb aFd; omega
theorem aSt_ne_aFd (r o : Nat) : aSt r ≠ aFd o := by unfold aSt aFd; omega
theorem aRg_f {r k : Nat} (h : k < 6) : aRg r ≠ k := by unfold aRg; omega
theorem aOb_f {r k : Nat} (h : k < 6) : aOb r ≠ k := by unfold aOb; omega
theorem aSt_f {r k : Nat} (h : k < 6) : aSt r ≠ k := by unfold aSt; omega
theorem aFd_f {r k : Nat} (h : k < 6) : aFd r ≠ k := by unfold aFd; omega
theorem aRg_inj {r q : Nat} (h : aRg r = aRg q) : r = q := by unfold aRg at h; omega
theorem aOb_inj {r q : Nat} (h : aOb r = aOb q) : r = q := by unfold aOb at h; omega
theorem aSt_inj {r q : Nat} (h : aSt r = aSt q) : r = q := by unfold aSt at h; omega
theorem aFd_inj {r q : Nat} (h : aFd r = aFd q) : r = q := by unfold aFd at h; omega
theorem mi_ne {μ : mM} {a k b j : Nat} {v : Int32} (h : ¬ (b = a ∧ j = k)) : mi (setI μ a k v) b j = mi μ b j := by rw [mi_I, if_neg h]
theorem mq_ne {μ : mM} {a k b j : Nat} {v : Option Nat} (h : ¬ (b = a ∧ j = k)) : mq (setQ μ a k v) b j = mq μ b j := by rw [mq_Q, if_neg h]
theorem mi_eq {μ : mM} {a k : Nat} {v : Int32} : mi (setI μ a k v) a k = v := by rw [mi_I, if_pos ⟨rfl, rfl⟩]
theorem mq_eq {μ : mM} {a k : Nat} {v : Option Nat} : mq (setQ μ a k v) a k = v := by rw [mq_Q, if_pos ⟨rfl, rfl⟩]
section CF
variable {A : rS} {P : Nat → Prop} {cy : Int} {μ : mM} {a k : Nat} {v : Int32} {w : Option Nat}
theorem C1.I (h : C1 A μ) (h1 : ∀ r, a = aRg r → k ≠ 0) (h2 : ∀ o, a = aOb o → k ≠ 0) : C1 A (setI μ a k v) := by
  obtain ⟨x1, x2, x3, x4, x5, x6⟩ := h
  refine ⟨x1, x2, x3, x4, fun r hr => ?_, fun o ho => ?_⟩
  · obtain ⟨y1, y2, y3, y4, y5⟩ := x5 r hr
    exact ⟨y1, y2, y3, y4, by rw [mi_ne (fun q => h1 r q.1.symm q.2.symm)]; exact y5⟩
  · obtain ⟨y1, y2, y3, y4⟩ := x6 o ho
    exact ⟨y1, y2, y3, by rw [mi_ne (fun q => h2 o q.1.symm q.2.symm)]; exact y4⟩
theorem C1.Q (h : C1 A μ) (h0 : a ≠ 0) (h1 : a ≠ 1) (h2 : a = 2 → 2 ≤ k) (h5 : a ≠ 5) (h3 : ∀ r, a = aRg r → k ≠ 1) (h4 : ∀ o, a = aOb o → k ≠ 1) : C1 A (setQ μ a k w) := by
  obtain ⟨⟨x1, x2, x3⟩, ⟨y1, y2, y3⟩, ⟨z1, z2, z3⟩, z4, z5, z6⟩ := h
  refine ⟨⟨x1, by rw [mq_ne (by omega)]; exact x2, by rw [mq_ne (by omega)]; exact x3⟩, ⟨y1, by rw [mq_ne (by omega)]; exact y2, by rw [mq_ne (by omega)]; exact y3⟩, ⟨z1, by rw [mq_ne (by omega)]; exact z2, by rw [mq_ne (by omega)]; exact z3⟩, z4, fun r hr => ?_, fun o ho => ?_⟩
  · obtain ⟨u1, u2, u3, u4, u5⟩ := z5 r hr
    exact ⟨by rw [mq_ne (by omega)]; exact u1, u2, by rw [mq_ne (fun q => h3 r q.1.symm q.2.symm)]; exact u3, u4, u5⟩
  · obtain ⟨u1, u2, u3, u4⟩ := z6 o ho
    exact ⟨u1, by rw [mq_ne (fun q => h4 o q.1.symm q.2.symm)]; exact u2, u3, u4⟩
theorem C2.I (h : C2 A cy μ) (h1 : a ≠ 1) : C2 A cy (setI μ a k v) := by
  obtain ⟨x1, x2, x3, x4, x5, x6⟩ := h
  exact ⟨by rw [mi_ne (by omega)]; exact x1, by rw [mi_ne (by omega)]; exact x2, by rw [mi_ne (by omega)]; exact x3, by rw [mi_ne (by omega)]; exact x4, by rw [mi_ne (by omega)]; exact x5, by rw [mi_ne (by omega)]; exact x6⟩
theorem C2.Q (h : C2 A cy μ) : C2 A cy (setQ μ a k w) := h
theorem C3.I (h : C3 A μ) : C3 A (setI μ a k v) := h
theorem C3.Q (h : C3 A μ) (h4 : a ≠ 4) : C3 A (setQ μ a k w) := fun i hi => by rw [mq_ne (by omega)]; exact h i hi
theorem C4.I (h : C4 A μ) : C4 A (setI μ a k v) := h
theorem C4.Q (h : C4 A μ) (h4 : a ≠ 2) : C4 A (setQ μ a k w) := ⟨by rw [mq_ne (by omega)]; exact h.1, by rw [mq_ne (by omega)]; exact h.2⟩
theorem C5.I (h : C5 A μ) (h3 : a ≠ 3) : C5 A (setI μ a k v) := ⟨h.1, h.2.1, by rw [mi_ne (by omega)]; exact h.2.2.1, h.2.2.2⟩
theorem C5.Q (h : C5 A μ) (h3 : a ≠ 3) (h6 : ∀ o, a = aOb o → k ≠ 6) : C5 A (setQ μ a k w) := by
  obtain ⟨x1, x2, x3, x4, x5⟩ := h
  refine ⟨by rw [mq_ne (by omega)]; exact x1, by rw [mq_ne (by omega)]; exact x2, x3, fun i h1 h2 => ?_, fun o ho h1 => ?_⟩
  · rw [mq_ne (fun q => h6 _ q.1.symm q.2.symm)]; exact x4 i h1 h2
  · rw [mq_ne (fun q => h6 _ q.1.symm q.2.symm)]; exact x5 o ho h1
theorem C6.I (h : C6 A μ) (h6 : ∀ r, a ≠ aRg r) : C6 A (setI μ a k v) := fun r hr => by
  obtain ⟨x1, x2, ⟨q, x3, x3'⟩, p, x4, x5⟩ := h r hr
  exact ⟨by rw [mi_ne (fun e => h6 r e.1.symm)]; exact x1, by rw [mi_ne (fun e => h6 r e.1.symm)]; exact x2, ⟨q, by rw [mi_ne (fun e => h6 r e.1.symm)]; exact x3, x3'⟩, p, by rw [mi_ne (fun e => h6 r e.1.symm)]; exact x4, x5⟩
theorem C6.Q (h : C6 A μ) : C6 A (setQ μ a k w) := h
theorem C7.I (h : C7 A P μ) : C7 A P (setI μ a k v) := h
theorem C7.Q (h : C7 A P μ) (h7 : ∀ r, a ≠ aSt r) : C7 A P (setQ μ a k w) := ⟨fun r i b hr hi => by rw [mq_ne (fun q => h7 r q.1.symm)]; exact h.1 r i b hr hi, fun o ho => by rw [mq_ne (fun q => h7 _ q.1.symm)]; exact h.2 o ho⟩
theorem C8.I (h : C8 A cy μ) (h8 : ∀ o, a ≠ aOb o) : C8 A cy (setI μ a k v) := fun o ho => by
  obtain ⟨x1, x2, ⟨y, y1, y2⟩, ⟨z, z1, z2⟩, x5⟩ := h o ho
  exact ⟨x1, by rw [mi_ne (fun e => h8 o e.1.symm)]; exact x2, ⟨y, by rw [mi_ne (fun e => h8 o e.1.symm)]; exact y1, y2⟩, ⟨z, by rw [mi_ne (fun e => h8 o e.1.symm)]; exact z1, z2⟩, x5⟩
theorem C8.Q (h : C8 A cy μ) (h8 : ∀ o, a = aOb o → k ≠ 2) (h9 : ∀ o, a ≠ aFd o) : C8 A cy (setQ μ a k w) := fun o ho => by
  obtain ⟨x1, x2, x3, x4, x5⟩ := h o ho
  exact ⟨by rw [mq_ne (fun q => h8 o q.1.symm q.2.symm)]; exact x1, x2, x3, x4, fun i hi => by rw [mq_ne (fun q => h9 o q.1.symm)]; exact x5 i hi⟩
end CF
/-! sums -/
def sm (f : Nat → Int) : Nat → Int
  | 0 => 0
  | n + 1 => sm f n + f n
theorem sm_cg {f g : Nat → Int} : ∀ n : Nat, (∀ i, i < n → f i = g i) → sm f n = sm g n := by
  intro n
  induction n with
  | zero => intro _; rfl
  | succ n ih => intro h; rw [sm, sm, ih (fun i hi => h i (by omega)), h n (by omega)]
theorem sm_add {f g : Nat → Int} : ∀ n : Nat, sm (fun i => f i + g i) n = sm f n + sm g n := by
  intro n
  induction n with
  | zero => rfl
  | succ n ih => rw [sm, sm, sm, ih]; omega
theorem sm_z : ∀ n : Nat, sm (fun _ => 0) n = 0 := by
  intro n
  induction n with
  | zero => rfl
  | succ n ih => rw [sm, ih]; rfl
theorem sm_swap {g : Nat → Nat → Int} (m : Nat) : ∀ n : Nat, sm (fun i => sm (fun j => g i j) m) n = sm (fun j => sm (fun i => g i j) n) m := by
  intro n
  induction n with
  | zero => show (0 : Int) = sm (fun _ => 0) m; rw [sm_z]
  | succ n ih =>
    rw [sm, ih, ← sm_add]
    rfl
theorem sm_one {f : Nat → Int} (a : Nat) : ∀ n : Nat, (∀ i, i < n → i ≠ a → f i = 0) → sm f n = if a < n then f a else 0 := by
  intro n
  induction n with
  | zero => intro _; rfl
  | succ n ih =>
    intro h
    rw [sm, ih (fun i hi => h i (by omega))]
    by_cases e : n = a
    · rw [if_neg (by omega), if_pos (by omega), e]; omega
    · rw [h n (by omega) e]
      by_cases c : a < n
      · rw [if_pos c, if_pos (by omega)]; omega
      · rw [if_neg c, if_neg (by omega)]; rfl
/-- the reference's sum -/
theorem rSi_sm {A : rS} {r : Int} (h3 : A 3 r.toNat ≠ 0) : ∀ (f : Nat) (x n : Int), 0 ≤ x → A 6 0 < (f : Int) + x → x ≤ A 6 0 → rSi A r f x n = n + (sm (fun o => if A 7 o = r ∧ A 12 o ≠ 0 then A 9 o else 0) (nn A) - sm (fun o => if A 7 o = r ∧ A 12 o ≠ 0 then A 9 o else 0) x.toNat) := by
  intro f
  induction f with
  | zero => intro x n hx hf hl; omega
  | succ f ih =>
    intro x n hx hf hl
    rw [rSi]
    by_cases w : A 6 0 ≤ x
    · have : nn A = x.toNat := by unfold nn; omega
      rw [if_pos w, this]; omega
    · rw [if_neg w, if_neg h3, ih (x + 1) _ (by omega) (by omega) (by omega)]
      have e : (x + 1).toNat = x.toNat + 1 := by omega
      rw [e, sm]
      split <;> omega
theorem rSeenIn_sm {A : rS} (hI : RI A) {r : Int} (h3 : A 3 r.toNat ≠ 0) : rSeenIn A r = sm (fun o => if A 7 o = r ∧ A 12 o ≠ 0 then A 9 o else 0) (nn A) := by
  have h6 := hI.b6 0
  unfold rSeenIn
  rw [rSi_sm h3 700 0 0 (by omega) (by omega) (by omega)]
  show 0 + (_ - 0) = _
  omega
/-- what the class adds at a place -/
def wAt (A : rS) (μ : mM) (r k : Nat) : Int := match mq μ (aSt r) k with
  | some b => if A 12 ((b - 10) / 16) = 1 then A 9 ((b - 10) / 16) else 0
  | none => 0
theorem ob_idx (o : Nat) : (aOb o - 10) / 16 = o := by unfold aOb; omega
theorem seenWords_sm {A : rS} {P : Nat → Prop} {cy : Int} {μ : mM} (hV : Vd A) (hS : Sg A) (hPl : Pl A P) (h7 : C7 A P μ) {r : Nat} (hr : r < RN A) : sm (wAt A μ r) (A 4 r).toNat = rSeenIn A r := by
  have hI := hV.1
  have b4 := hI.b4 r
  have b1 := hI.b1 0
  by_cases h3 : A 3 r = 0
  · have e4 := hS.1 r h3
    rw [e4]
    show (0 : Int) = _
    unfold rSeenIn
    rw [rSi]
    have : A 3 (r : Int).toNat = 0 := by simpa using h3
    rw [if_pos this]
    split <;> rfl
  · rw [rSeenIn_sm hI (by simpa using h3)]
    have e1 : sm (wAt A μ r) (A 4 r).toNat = sm (fun k => sm (fun o => if mq μ (aSt r) k = some (aOb o) ∧ A 12 o ≠ 0 then A 9 o else 0) (nn A)) (A 4 r).toNat := by
      refine sm_cg _ (fun k hk => ?_)
      unfold wAt
      cases hq : mq μ (aSt r) k with
      | none => 
        show (0 : Int) = _
        rw [sm_cg (g := fun _ => 0) (nn A) (fun o _ => if_neg (fun q => by cases q.1)), sm_z]
      | some b =>
        obtain ⟨o, rfl, ho, o1, o2⟩ := h7.1 r k b hr (by omega) hq
        have hn := (hPl.1 o ho).1
        show (if A 12 ((aOb o - 10) / 16) = 1 then A 9 ((aOb o - 10) / 16) else 0) = _
        rw [ob_idx, sm_one o (nn A) (fun i _ hi => if_neg (fun q => hi (aOb_inj (Option.some.inj q.1)).symm)), if_pos hn]
        have b12 := hI.b12 o
        by_cases c : A 12 o = 1
        · rw [if_pos c, if_pos ⟨rfl, by omega⟩]
        · rw [if_neg c, if_neg (fun q => c (by omega))]
    rw [e1, sm_swap]
    refine sm_cg _ (fun o ho => ?_)
    by_cases c : A 7 o = r ∧ A 12 o ≠ 0
    · have b12 := hI.b12 o
      have b8 := hI.b8 o
      have hP := hPl.2.1 o ho (by omega)
      obtain ⟨-, -, p3⟩ := hPl.1 o hP
      have v9 := (hV.2.1 o ho).1
      have q := h7.2 o hP
      rw [c.1] at q p3
      simp only [Int.toNat_natCast] at q p3
      rw [sm_one (A 8 o).toNat _ (fun i hi hne => if_neg (fun w => ?_)), if_pos (by omega), if_pos ⟨q, c.2⟩]
      · show _ = if A 7 o = r ∧ A 12 o ≠ 0 then A 9 o else 0
        rw [if_pos c]
      · obtain ⟨o', e', -, -, e8⟩ := h7.1 r i _ hr (by omega) w.1
        rw [← aOb_inj e'] at e8
        omega
    · rw [sm_cg (g := fun _ => 0) _ (fun k hk => if_neg (fun w => ?_)), sm_z]
      · show (0 : Int) = if A 7 o = r ∧ A 12 o ≠ 0 then A 9 o else 0
        rw [if_neg c]
      · obtain ⟨o', e', -, e7, -⟩ := h7.1 r k _ hr (by omega) w.1
        rw [← aOb_inj e'] at e7
        exact c ⟨e7, w.2⟩
theorem setI_setI (μ : mM) (a k : Nat) (v w : Int32) : setI (setI μ a k v) a k w = setI μ a k w := by
  unfold setI
  congr 2
  funext b j
  by_cases e : b = a ∧ j = k
  · simp only [if_pos e]
  · simp only [if_neg e]
theorem setI_self {μ : mM} {a k : Nat} {v : Int32} (h : mi μ a k = v) : setI μ a k v = μ := by
  subst h
  obtain ⟨m1, m2, m3⟩ := μ
  unfold setI mi
  congr 2
  funext b j
  split
  · rename_i e; obtain ⟨rfl, rfl⟩ := e; rfl
  · rfl
theorem setQ_self {μ : mM} {a k : Nat} {v : Option Nat} (h : mq μ a k = v) : setQ μ a k v = μ := by
  subst h
  obtain ⟨m1, m2, m3, m4⟩ := μ
  unfold setQ mq
  congr 3
  funext b j
  split
  · rename_i e; obtain ⟨rfl, rfl⟩ := e; rfl
  · rfl
/-- what nextToMove says -/
def nextP (A : rS) (ρ : Nat → Nat) (μ : mM) (r z : Nat) : Option Value → mM → Nat → Prop := fun v μ' z' => z' = z ∧ ∃ p : Int, 0 ≤ p ∧ p ≤ 128 ∧ μ' = setI μ (aRg r) 4 (iv p) ∧ (∀ o, o < nn A → rToMove A (o : Int) = 1 → A 7 o = r → p ≤ A 8 o) ∧ ((v = some .null ∧ ∀ o, o < nn A → rToMove A (o : Int) = 1 → A 7 o ≠ r) ∨ ∃ o, o < nn A ∧ v = some (.ref (ρ (aOb o))) ∧ rToMove A (o : Int) = 1 ∧ A 7 o = r ∧ A 8 o = p)
theorem toMoveN {A : rS} {o : Nat} : rToMove A (o : Int) = 1 ↔ A 12 o ≠ 0 ∧ A 13 o = 0 ∧ A 3 (A 7 o).toNat = 4 := by rw [toMove_iff]; simp only [Int.toNat_natCast]
/-- who has to be moved stands in its region -/
theorem mov_at {A : rS} {P G : Nat → Prop} {μ : mM} (hK : KK A P G) (h7 : C7 A P μ) {o r : Nat} (ho : o < nn A) (hm : rToMove A (o : Int) = 1) (hr : A 7 o = r) : P o ∧ mq μ (aSt r) (A 8 o).toNat = some (aOb o) ∧ A 8 o + A 9 o ≤ A 4 r ∧ 0 ≤ A 8 o := by
  have b12 := hK.1.1.b12 o
  have b8 := hK.1.1.b8 o
  have hP := hK.2.2.2.2.1.2.1 o ho (by have := (toMoveN.mp hm).1; omega)
  have q := h7.2 o hP
  have p := (hK.2.2.2.2.1.1 o hP).2.2
  rw [hr] at q p
  simp only [Int.toNat_natCast] at q p
  exact ⟨hP, q, p, b8.1⟩
end
section
/-! the class's methods over the class relation (printed by wip/tools/cls2.py) -/
set_option maxHeartbeats 4000000 in
theorem k_X3_seenWords {G : mG} {l : Launch} {z : Nat} {ρ : Nat → Nat} {μ : mM} {A : rS} {P : Nat → Prop} {cy : Int} {r : Nat} (hc : CR A P cy μ) (hV : Vd A) (hS : Sg A) (hPl : Pl A P) (hrn : r < RN A) : MZ G l yX3_seenWords cX3_seenWords 5 (some .int) 1 20 z ρ [.ref (ρ (aRg r)), .int (iv cy)] μ (cP (some (.int (iv (rSeenIn A (r : Int))))) μ z) := by
  refine MZ.of (by decide) (by simp [Value.category]) (Nat.le_of_ble_eq_true rfl) (Nat.le_of_ble_eq_true rfl) ?_
  intro p e s m args below meth c ls H locs hC hx hb hr hlk X hL
  obtain ⟨h1, h2, h3, h4, h5, h6, h7, h8, hcy0, hcy1⟩ := id hc
  obtain ⟨⟨f00, f01, f02⟩, ⟨f10, f11, f12⟩, ⟨f20, f21, f22⟩, ⟨f30, f40, f50⟩, frr, foo⟩ := id h1
  obtain ⟨g1, g3, g4, g5, g6, g7⟩ := id h2
  obtain ⟨r1, r2, r3, r4, r5⟩ := frr r hrn
  obtain ⟨rk, ru, ⟨rq, re, rea, reb⟩, rp, rd, rda, rdb, rdc⟩ := h6 r hrn
  have b4 := hV.1.b4 r
  refine lv_iconst (v := iv 0) hx hb dX3_seenWords_0 rfl ?_
  refine m_istore_n hx hb hL dX3_seenWords_1 (Nat.le_of_ble_eq_true rfl) (fun ls hL => ?_)
  refine lv_iconst (v := iv 0) hx hb dX3_seenWords_2 rfl ?_
  refine m_istore_n hx hb hL dX3_seenWords_3 (Nat.le_of_ble_eq_true rfl) (fun ls hL => ?_)
  have lp : ∀ (f : Nat) (n t : Int) (H : Heap) (locs : List Loc) (ls : Array Slot), 0 ≤ t ∧ t ≤ A 4 r → 0 ≤ n ∧ n ≤ 22 * t → n = sm (wAt A μ r) t.toNat → (f : Int) + t = 200 → mX G ρ (mA ρ μ z) s.heap μ z H locs → lq ls [some (.ref (ρ (aRg r))), some (.int (iv cy)), some (.int (iv n)), some (.int (iv t)), none] → W p l e (rm 1 20 0 0) s m args below meth c H locs 0 0 (wQ G ρ μ z (cP (some (.int (iv (rSeenIn A (r : Int))))) μ z) below args s 0 0) (F0 m 4 ls []) := by
    intro f
    induction f with
    | zero =>
      intro  n t H locs ls h0 hb9 hn hf1 X hL
      omega
    | succ f ih =>
      intro  n t H locs ls h0 hb9 hn hf1 X hL
      refine m_iload_n hx hb hL dX3_seenWords_4 rfl ?_
      refine m_aload_n hx hb hL dX3_seenWords_5 rfl ?_
      refine c_geti (x := (A 4 r)) hC X FX3_24 r2 rfl ru dX3_seenWords_6 ?_
      refine m_icmp_ge (tgt := 48) hx hb dX3_seenWords_9 (by decide) (by omega) (by omega) (fun c9 => ?_) (fun c9 => ?_)
      · refine m_iload_n hx hb hL dX3_seenWords_48 rfl ?_
        exact m_iret hC X hr hlk ⟨by rw [← seenWords_sm (cy := cy) hV hS hPl h7 hrn, hn, show (A 4 r).toNat = t.toNat by omega], rfl, rfl⟩ dX3_seenWords_49
      · refine m_aload_n hx hb hL dX3_seenWords_12 rfl ?_
        refine m_getr (b := aSt r) hC X FX3_17 r2 rfl r3 dX3_seenWords_13 ?_
        refine m_iload_n hx hb hL dX3_seenWords_16 rfl ?_
        rcases hq : mq μ (aSt r) (t : Int).toNat with _ | b
        · refine c_aaldn (x := t) hC X r4 (Or.inl rfl) (by omega) (by omega) (by omega) hq dX3_seenWords_17 ?_
          refine c_astoren hx hb hL dX3_seenWords_18 (Nat.le_of_ble_eq_true rfl) (fun ls hL => ?_)
          refine m_aloadq (x := none) hx hb hL dX3_seenWords_20 rfl ?_
          refine lv_ifnullN (tgt := 42) hx hb dX3_seenWords_22 (by decide) ?_
          refine m_iincv hx hb hL dX3_seenWords_42 rfl (fun ls hL => ?_)
          refine lv_goto (tgt := 4) hx hb dX3_seenWords_45 (by decide) ?_
          exact ih n (t + 1) _ _ ls ⟨by omega, by omega⟩ ⟨by omega, by omega⟩ (by rw [show (t + 1).toNat = t.toNat + 1 by omega, sm, ← hn]; unfold wAt; rw [hq]; show n = n + 0; omega) (by omega) X (lq_none 4 hL)
        · obtain ⟨o, rfl, hPo, o7, o8⟩ := h7.1 r _ _ hrn (by omega) hq
          have ho := (hPl.1 o hPo).1
          have ho9 := (hV.2.1 o ho).1
          have hb9 := hV.1.b9 o
          obtain ⟨o1, o2, o3, o4⟩ := foo o ho
          obtain ⟨oh, oo, ⟨ov, os, osa, osb, osc⟩, ⟨ow, of, ofa, ofb, ofc⟩, oz⟩ := h8 o ho
          refine c_aaldr (x := t) hC X r4 (Or.inl rfl) (by omega) (by omega) (by omega) hq dX3_seenWords_17 ?_
          refine c_astorer hx hb hL dX3_seenWords_18 (Nat.le_of_ble_eq_true rfl) (fun ls hL => ?_)
          refine m_aload hx hb hL dX3_seenWords_20 rfl ?_
          refine lv_ifnull hx hb dX3_seenWords_22 ?_
          refine m_aload hx hb hL dX3_seenWords_25 rfl ?_
          refine c_geti (x := ov) hC X FX3_38 o1 rfl os dX3_seenWords_27 ?_
          refine m_iload_n hx hb hL dX3_seenWords_30 rfl ?_
          refine m_icmp_ne (tgt := 42) hx hb dX3_seenWords_31 (by decide) (by omega) (by omega) (fun c31 => ?_) (fun c31 => ?_)
          · refine m_iincv hx hb hL dX3_seenWords_42 rfl (fun ls hL => ?_)
            refine lv_goto (tgt := 4) hx hb dX3_seenWords_45 (by decide) ?_
            exact ih n (t + 1) _ _ ls ⟨by omega, by omega⟩ ⟨by omega, by omega⟩ (by rw [show (t + 1).toNat = t.toNat + 1 by omega, sm, ← hn]; unfold wAt; rw [hq]; show n = n + (if A 12 ((aOb o - 10) / 16) = 1 then A 9 ((aOb o - 10) / 16) else 0); rw [ob_idx, if_neg (fun q => c31 (osc.mpr q))]; omega) (by omega) X (lq_none 4 hL)
          · refine m_iload_n hx hb hL dX3_seenWords_34 rfl ?_
            refine m_aload hx hb hL dX3_seenWords_35 rfl ?_
            refine c_callV hC X (k_X1_words (f := aFd o) (n := (A 9 o - 2).toNat) o1 o2 o3) VX3_34 o1 rfl ⟨by decide, by decide⟩ ⟨by decide, by decide⟩ hL.1 rfl (Nat.le_of_ble_eq_true rfl) dX3_seenWords_37 (fun v37 μ37 z37 H locs hp X => ?_)
            obtain ⟨rfl, rfl, rfl⟩ := hp
            refine m_iadd hx hb dX3_seenWords_40 ?_
            refine m_istore_n hx hb hL dX3_seenWords_41 (Nat.le_of_ble_eq_true rfl) (fun ls hL => ?_)
            refine m_iincv hx hb hL dX3_seenWords_42 rfl (fun ls hL => ?_)
            refine lv_goto (tgt := 4) hx hb dX3_seenWords_45 (by decide) ?_
            exact ih (n + (((A 9 o - 2).toNat : Int) + 2)) (t + 1) _ _ ls ⟨by omega, by omega⟩ ⟨by omega, by omega⟩ (by rw [show (t + 1).toNat = t.toNat + 1 by omega, sm, ← hn]; unfold wAt; rw [hq]; show _ = n + (if A 12 ((aOb o - 10) / 16) = 1 then A 9 ((aOb o - 10) / 16) else 0); rw [ob_idx, if_pos (osc.mp c31)]; omega) (by omega) X (lq_none 4 hL)
  exact lp 200 0 0 _ _ ls ⟨by omega, by omega⟩ ⟨by omega, by omega⟩ rfl (by omega) X hL

set_option maxHeartbeats 4000000 in
theorem k_X3_nextToMove {G : mG} {l : Launch} {z : Nat} {ρ : Nat → Nat} {μ : mM} {A : rS} {P Gs : Nat → Prop} {cy : Int} {r : Nat} (hc : CR A P cy μ) (hK : KK A P Gs) (hrn : r < RN A) (hk4 : A 3 r = 4) : MZ G l yX3_nextToMove cX3_nextToMove 3 (some (.object "ForwardHeap$HeapObject")) 0 0 z ρ [.ref (ρ (aRg r)), .int (iv cy)] μ (nextP A ρ μ r z) := by
  refine MZ.of (by decide) (by simp [Value.category]) (Nat.le_of_ble_eq_true rfl) (Nat.le_of_ble_eq_true rfl) ?_
  intro p e s m args below meth c ls H locs hC hx hb hr hlk X hL
  obtain ⟨h1, h2, h3, h4, h5, h6, h7, h8, hcy0, hcy1⟩ := id hc
  obtain ⟨⟨f00, f01, f02⟩, ⟨f10, f11, f12⟩, ⟨f20, f21, f22⟩, ⟨f30, f40, f50⟩, frr, foo⟩ := id h1
  obtain ⟨g1, g3, g4, g5, g6, g7⟩ := id h2
  obtain ⟨r1, r2, r3, r4, r5⟩ := frr r hrn
  obtain ⟨rk, ru, ⟨rq, re, rea, reb⟩, rp, rd, rda, rdb, rdc⟩ := h6 r hrn
  have b4 := hK.1.1.b4 r
  have lp : ∀ (f : Nat) (p1 : Int) (H : Heap) (locs : List Loc) (ls : Array Slot), 0 ≤ p1 ∧ p1 ≤ 128 → (∀ o, o < nn A → rToMove A (o : Int) = 1 → A 7 o = r → p1 ≤ A 8 o) → (f : Int) + p1 = 200 → mX G ρ (mA ρ μ z) s.heap (setI μ (aRg r) 4 (iv p1)) z H locs → lq ls [some (.ref (ρ (aRg r))), some (.int (iv cy)), none] → W p l e (rm 0 0 0 0) s m args below meth c H locs 0 0 (wQ G ρ μ z (nextP A ρ μ r z) below args s 0 0) (F0 m 0 ls []) := by
    intro f
    induction f with
    | zero =>
      intro p1 H locs ls h0 hm hf1 X hL
      omega
    | succ f ih =>
      intro p1 H locs ls h0 hm hf1 X hL
      refine m_aload_n hx hb hL dX3_nextToMove_0 rfl ?_
      refine c_geti (x := p1) hC X FX3_41 r2 rfl (by simp [mi_I, mi_Q, mq_I, mq_Q]) dX3_nextToMove_1 ?_
      refine m_aload_n hx hb hL dX3_nextToMove_4 rfl ?_
      refine c_geti (x := (A 4 r)) hC X FX3_24 r2 rfl (by rw [mi_I, if_neg (fun q => absurd q.2 (by decide))]; exact ru) dX3_nextToMove_5 ?_
      refine m_icmp_ge (tgt := 56) hx hb dX3_nextToMove_8 (by decide) (by omega) (by omega) (fun c8 => ?_) (fun c8 => ?_)
      · refine lv_null hx hb dX3_nextToMove_56 ?_
        exact c_aretn hC X hr hlk ⟨rfl, p1, h0.1, h0.2, rfl, hm, Or.inl ⟨rfl, fun q hq1 hq2 hq3 => by have w1 := hm q hq1 hq2 hq3; obtain ⟨-, -, w2, -⟩ := mov_at hK h7 hq1 hq2 hq3; have := (hK.1.2.1 q hq1).1; omega⟩⟩ dX3_nextToMove_57
      · refine m_aload_n hx hb hL dX3_nextToMove_11 rfl ?_
        refine m_getr (b := aSt r) hC X FX3_17 r2 rfl (by rw [mq_I]; exact r3) dX3_nextToMove_12 ?_
        refine m_aload_n hx hb hL dX3_nextToMove_15 rfl ?_
        refine c_geti (x := p1) hC X FX3_41 r2 rfl (by simp [mi_I, mi_Q, mq_I, mq_Q]) dX3_nextToMove_16 ?_
        have b4 := hK.1.1.b4 r
        rcases hq : mq μ (aSt r) (p1 : Int).toNat with _ | b
        · refine c_aaldn (x := p1) hC X r4 (Or.inl rfl) (by omega) (by omega) (by omega) (by rw [mq_I]; exact hq) dX3_nextToMove_19 ?_
          refine c_astore_nn hx hb hL dX3_nextToMove_20 (Nat.le_of_ble_eq_true rfl) (fun ls hL => ?_)
          refine m_aload_nq (x := none) hx hb hL dX3_nextToMove_21 rfl ?_
          refine lv_ifnullN (tgt := 43) hx hb dX3_nextToMove_22 (by decide) ?_
          refine m_aload_n hx hb hL dX3_nextToMove_43 rfl ?_
          refine lv_dup hx hb dX3_nextToMove_44 rfl ?_
          refine c_geti (x := p1) hC X FX3_41 r2 rfl (by simp [mi_I, mi_Q, mq_I, mq_Q]) dX3_nextToMove_45 ?_
          refine lv_iconst (v := iv 1) hx hb dX3_nextToMove_48 rfl ?_
          refine m_iadd hx hb dX3_nextToMove_49 ?_
          refine c_puti (x := (p1 + 1)) hC X FwX3_41 r2 rfl dX3_nextToMove_50 (fun H locs X => ?_)
          refine lv_goto (tgt := 0) hx hb dX3_nextToMove_53 (by decide) ?_
          rw [setI_setI] at X
          refine ih (p1 + 1) _ _ ls ⟨by omega, by omega⟩ (fun q hq1 hq2 hq3 => ?_) (by omega) X (lq_none 2 hL)
          have w1 := hm q hq1 hq2 hq3
          obtain ⟨-, w2, -, w3⟩ := mov_at hK h7 hq1 hq2 hq3
          have w4 := toMoveN.mp hq2
          by_cases e1 : A 8 q = p1
          · rw [e1, hq] at w2
            cases w2
          · omega
        · obtain ⟨o, rfl, hPo, o7, o8⟩ := h7.1 r _ _ hrn (by omega) hq
          have ho := (hK.2.2.2.2.1.1 o hPo).1
          obtain ⟨o1, o2, o3, o4⟩ := foo o ho
          obtain ⟨oh, oo, ⟨ov, os, osa, osb, osc⟩, ⟨ow, of, ofa, ofb, ofc⟩, oz⟩ := h8 o ho
          refine c_aaldr (x := p1) hC X r4 (Or.inl rfl) (by omega) (by omega) (by omega) (by rw [mq_I]; exact hq) dX3_nextToMove_19 ?_
          refine c_astore_nr hx hb hL dX3_nextToMove_20 (Nat.le_of_ble_eq_true rfl) (fun ls hL => ?_)
          refine m_aload_n hx hb hL dX3_nextToMove_21 rfl ?_
          refine lv_ifnull hx hb dX3_nextToMove_22 ?_
          refine m_aload_n hx hb hL dX3_nextToMove_25 rfl ?_
          refine c_geti (x := ov) hC X FX3_38 o1 rfl (by rw [mi_I, if_neg (fun q => (aRg_ne_aOb r o).symm q.1)]; exact os) dX3_nextToMove_26 ?_
          refine m_iload_n hx hb hL dX3_nextToMove_29 rfl ?_
          refine m_icmp_ne (tgt := 43) hx hb dX3_nextToMove_30 (by decide) (by omega) (by omega) (fun c30 => ?_) (fun c30 => ?_)
          · refine m_aload_n hx hb hL dX3_nextToMove_43 rfl ?_
            refine lv_dup hx hb dX3_nextToMove_44 rfl ?_
            refine c_geti (x := p1) hC X FX3_41 r2 rfl (by simp [mi_I, mi_Q, mq_I, mq_Q]) dX3_nextToMove_45 ?_
            refine lv_iconst (v := iv 1) hx hb dX3_nextToMove_48 rfl ?_
            refine m_iadd hx hb dX3_nextToMove_49 ?_
            refine c_puti (x := (p1 + 1)) hC X FwX3_41 r2 rfl dX3_nextToMove_50 (fun H locs X => ?_)
            refine lv_goto (tgt := 0) hx hb dX3_nextToMove_53 (by decide) ?_
            rw [setI_setI] at X
            refine ih (p1 + 1) _ _ ls ⟨by omega, by omega⟩ (fun q hq1 hq2 hq3 => ?_) (by omega) X (lq_none 2 hL)
            have w1 := hm q hq1 hq2 hq3
            obtain ⟨-, w2, -, w3⟩ := mov_at hK h7 hq1 hq2 hq3
            have w4 := toMoveN.mp hq2
            by_cases e1 : A 8 q = p1
            · rw [e1, hq] at w2
              have e2 := aOb_inj (Option.some.inj w2)
              subst e2
              exfalso
              exact c30 (osc.mpr (by have := hK.1.1.b12 o; omega))
            · omega
          · refine m_aload_n hx hb hL dX3_nextToMove_33 rfl ?_
            refine c_geti (x := ow) hC X FX3_48 o1 rfl (by rw [mi_I, if_neg (fun q => absurd q.2 (by decide))]; exact of) dX3_nextToMove_34 ?_
            refine m_iload_n hx hb hL dX3_nextToMove_37 rfl ?_
            refine m_icmp_eq (tgt := 43) hx hb dX3_nextToMove_38 (by decide) (by omega) (by omega) (fun c38 => ?_) (fun c38 => ?_)
            · refine m_aload_n hx hb hL dX3_nextToMove_43 rfl ?_
              refine lv_dup hx hb dX3_nextToMove_44 rfl ?_
              refine c_geti (x := p1) hC X FX3_41 r2 rfl (by simp [mi_I, mi_Q, mq_I, mq_Q]) dX3_nextToMove_45 ?_
              refine lv_iconst (v := iv 1) hx hb dX3_nextToMove_48 rfl ?_
              refine m_iadd hx hb dX3_nextToMove_49 ?_
              refine c_puti (x := (p1 + 1)) hC X FwX3_41 r2 rfl dX3_nextToMove_50 (fun H locs X => ?_)
              refine lv_goto (tgt := 0) hx hb dX3_nextToMove_53 (by decide) ?_
              rw [setI_setI] at X
              refine ih (p1 + 1) _ _ ls ⟨by omega, by omega⟩ (fun q hq1 hq2 hq3 => ?_) (by omega) X (lq_none 2 hL)
              have w1 := hm q hq1 hq2 hq3
              obtain ⟨-, w2, -, w3⟩ := mov_at hK h7 hq1 hq2 hq3
              have w4 := toMoveN.mp hq2
              by_cases e1 : A 8 q = p1
              · rw [e1, hq] at w2
                have e2 := aOb_inj (Option.some.inj w2)
                subst e2
                exfalso
                have := ofc.mp c38; omega
              · omega
            · refine m_aload_n hx hb hL dX3_nextToMove_41 rfl ?_
              have hb12 := hK.1.1.b12 o
              have hb13 := hK.1.1.b13 o
              exact c_aretr hC X hr hlk ⟨rfl, p1, h0.1, h0.2, rfl, hm, Or.inr ⟨o, ho, rfl, toMoveN.mpr ⟨by have := osc.mp c30; omega, by have := fun w => c38 (ofc.mpr w); omega, by rw [o7]; simpa using hk4⟩, o7, by omega⟩⟩ dX3_nextToMove_42
  exact lp (200 - rp).toNat rp _ _ ls ⟨rda, rdb⟩ (fun o ho hm h7o => rdc hk4 o ho hm h7o) (by omega) (by rw [setI_self rd]; exact X) hL

set_option maxHeartbeats 4000000 in
theorem k_X2_leastFree {G : mG} {l : Launch} {z : Nat} {ρ : Nat → Nat} {μ : mM} {A : rS} (h1 : C1 A μ) (hk : ∀ r, r < RN A → mi μ (aRg r) 2 = iv (A 3 r)) (hI : RI A) : MZ G l yX2_leastFree cX2_leastFree 5 (some (.object "ForwardHeap$Region")) 0 0 z ρ [.ref (ρ 2)] μ (cP (some (va_rf ((rref (rWith A 0)).map ρ))) μ z) := by
  refine MZ.of (by decide) (by simp [Value.category]) (Nat.le_of_ble_eq_true rfl) (Nat.le_of_ble_eq_true rfl) ?_
  intro p e s m args below meth c ls H locs hC hx hb hr hlk X hL
  obtain ⟨⟨f00, f01, f02⟩, ⟨f10, f11, f12⟩, ⟨f20, f21, f22⟩, ⟨f30, f40, f50⟩, frr, foo⟩ := id h1
  have b1 := hI.b1 0
  have hRN : ((RN A : Nat) : Int) = A 1 0 := by unfold RN; omega
  refine m_aload_n hx hb hL dX2_leastFree_0 rfl ?_
  refine m_getr (b := 5) hC X FX2_19 f20 rfl f22 dX2_leastFree_1 ?_
  refine c_astore_nr hx hb hL dX2_leastFree_4 (Nat.le_of_ble_eq_true rfl) (fun ls hL => ?_)
  refine m_aload_n hx hb hL dX2_leastFree_5 rfl ?_
  refine c_alen hC X f50 (by decide) dX2_leastFree_6 ?_
  refine m_istore_n hx hb hL dX2_leastFree_7 (Nat.le_of_ble_eq_true rfl) (fun ls hL => ?_)
  refine lv_iconst (v := iv 0) hx hb dX2_leastFree_8 rfl ?_
  refine m_istore_n hx hb hL dX2_leastFree_9 (Nat.le_of_ble_eq_true rfl) (fun ls hL => ?_)
  have lp : ∀ (f : Nat) (i : Int) (H : Heap) (locs : List Loc) (ls : Array Slot), 0 ≤ i ∧ i ≤ A 1 0 → (f : Int) + i = 20 → rWith A 0 = rWs A 0 f i → mX G ρ (mA ρ μ z) s.heap μ z H locs → lq ls [some (.ref (ρ 2)), some (.ref (ρ 5)), some (.int (iv ((RN A : Nat) : Int))), some (.int (iv i)), none] → W p l e (rm 0 0 0 0) s m args below meth c H locs 0 0 (wQ G ρ μ z (cP (some (va_rf ((rref (rWith A 0)).map ρ))) μ z) below args s 0 0) (F0 m 10 ls []) := by
    intro f
    induction f with
    | zero =>
      intro  i H locs ls h0 hf1 hv X hL
      omega
    | succ f ih =>
      intro  i H locs ls h0 hf1 hv X hL
      refine m_iload_n hx hb hL dX2_leastFree_10 rfl ?_
      refine m_iload_n hx hb hL dX2_leastFree_11 rfl ?_
      refine m_icmp_ge (tgt := 37) hx hb dX2_leastFree_12 (by decide) (by omega) (by omega) (fun c12 => ?_) (fun c12 => ?_)
      · refine lv_null hx hb dX2_leastFree_37 ?_
        exact c_aretn hC X hr hlk ⟨by rw [hv, rWs, if_pos (by omega)]; rfl, rfl, rfl⟩ dX2_leastFree_38
      · refine m_aload_n hx hb hL dX2_leastFree_15 rfl ?_
        refine m_iload_n hx hb hL dX2_leastFree_16 rfl ?_
        obtain ⟨r1, r2, r3, r4, r5⟩ := frr i.toNat (by omega)
        have rk := hk i.toNat (by omega)
        have rkb := hI.b3 i.toNat
        refine c_aaldr (x := i) hC X f50 (Or.inr rfl) (by omega) (by omega) (by omega) r1 dX2_leastFree_17 ?_
        refine c_astorer hx hb hL dX2_leastFree_18 (Nat.le_of_ble_eq_true rfl) (fun ls hL => ?_)
        refine m_aload hx hb hL dX2_leastFree_20 rfl ?_
        refine c_geti (x := (A 3 i.toNat)) hC X FX2_26 r2 rfl rk dX2_leastFree_22 ?_
        refine m_if_ne (tgt := 31) hx hb dX2_leastFree_25 (by decide) (by omega) (fun c25 => ?_) (fun c25 => ?_)
        · refine m_iincv hx hb hL dX2_leastFree_31 rfl (fun ls hL => ?_)
          refine lv_goto (tgt := 10) hx hb dX2_leastFree_34 (by decide) ?_
          exact ih (i + 1) _ _ ls ⟨by omega, by omega⟩ (by omega) (by rw [hv, rWs, if_neg (by omega), if_neg c25]) X (lq_none 4 hL)
        · refine m_aload hx hb hL dX2_leastFree_28 rfl ?_
          exact c_aretr hC X hr hlk ⟨by rw [hv, rWs, if_neg (by omega), if_pos c25, rref_s (by omega)]; rfl, rfl, rfl⟩ dX2_leastFree_30
  exact lp 20 0 _ _ ls ⟨by omega, by omega⟩ (by omega) rfl X hL

set_option maxHeartbeats 4000000 in
theorem k_X2_countFree {G : mG} {l : Launch} {z : Nat} {ρ : Nat → Nat} {μ : mM} {A : rS} (h1 : C1 A μ) (hk : ∀ r, r < RN A → mi μ (aRg r) 2 = iv (A 3 r)) (hI : RI A) : MZ G l yX2_countFree cX2_countFree 6 (some .int) 0 0 z ρ [.ref (ρ 2)] μ (cP (some (.int (iv (rFree A)))) μ z) := by
  refine MZ.of (by decide) (by simp [Value.category]) (Nat.le_of_ble_eq_true rfl) (Nat.le_of_ble_eq_true rfl) ?_
  intro p e s m args below meth c ls H locs hC hx hb hr hlk X hL
  obtain ⟨⟨f00, f01, f02⟩, ⟨f10, f11, f12⟩, ⟨f20, f21, f22⟩, ⟨f30, f40, f50⟩, frr, foo⟩ := id h1
  have b1 := hI.b1 0
  have hRN : ((RN A : Nat) : Int) = A 1 0 := by unfold RN; omega
  refine lv_iconst (v := iv 0) hx hb dX2_countFree_0 rfl ?_
  refine m_istore_n hx hb hL dX2_countFree_1 (Nat.le_of_ble_eq_true rfl) (fun ls hL => ?_)
  refine m_aload_n hx hb hL dX2_countFree_2 rfl ?_
  refine m_getr (b := 5) hC X FX2_19 f20 rfl f22 dX2_countFree_3 ?_
  refine c_astore_nr hx hb hL dX2_countFree_6 (Nat.le_of_ble_eq_true rfl) (fun ls hL => ?_)
  refine m_aload_n hx hb hL dX2_countFree_7 rfl ?_
  refine c_alen hC X f50 (by decide) dX2_countFree_8 ?_
  refine m_istore_n hx hb hL dX2_countFree_9 (Nat.le_of_ble_eq_true rfl) (fun ls hL => ?_)
  refine lv_iconst (v := iv 0) hx hb dX2_countFree_10 rfl ?_
  refine m_istore hx hb hL dX2_countFree_11 (Nat.le_of_ble_eq_true rfl) (fun ls hL => ?_)
  have lp : ∀ (f : Nat) (n i : Int) (H : Heap) (locs : List Loc) (ls : Array Slot), 0 ≤ i ∧ i ≤ A 1 0 → 0 ≤ n ∧ n ≤ i → (f : Int) + i = 20 → rFree A = rFr A f i n → mX G ρ (mA ρ μ z) s.heap μ z H locs → lq ls [some (.ref (ρ 2)), some (.int (iv n)), some (.ref (ρ 5)), some (.int (iv ((RN A : Nat) : Int))), some (.int (iv i)), none] → W p l e (rm 0 0 0 0) s m args below meth c H locs 0 0 (wQ G ρ μ z (cP (some (.int (iv (rFree A)))) μ z) below args s 0 0) (F0 m 13 ls []) := by
    intro f
    induction f with
    | zero =>
      intro  n i H locs ls h0 hn0 hf1 hv X hL
      omega
    | succ f ih =>
      intro  n i H locs ls h0 hn0 hf1 hv X hL
      refine m_iload hx hb hL dX2_countFree_13 rfl ?_
      refine m_iload_n hx hb hL dX2_countFree_15 rfl ?_
      refine m_icmp_ge (tgt := 42) hx hb dX2_countFree_16 (by decide) (by omega) (by omega) (fun c16 => ?_) (fun c16 => ?_)
      · refine m_iload_n hx hb hL dX2_countFree_42 rfl ?_
        exact m_iret hC X hr hlk ⟨by rw [hv, rFr, if_pos (by omega)], rfl, rfl⟩ dX2_countFree_43
      · refine m_aload_n hx hb hL dX2_countFree_19 rfl ?_
        refine m_iload hx hb hL dX2_countFree_20 rfl ?_
        obtain ⟨r1, r2, r3, r4, r5⟩ := frr i.toNat (by omega)
        have rk := hk i.toNat (by omega)
        have rkb := hI.b3 i.toNat
        refine c_aaldr (x := i) hC X f50 (Or.inr rfl) (by omega) (by omega) (by omega) r1 dX2_countFree_22 ?_
        refine c_astorer hx hb hL dX2_countFree_23 (Nat.le_of_ble_eq_true rfl) (fun ls hL => ?_)
        refine m_aload hx hb hL dX2_countFree_25 rfl ?_
        refine c_geti (x := (A 3 i.toNat)) hC X FX2_26 r2 rfl rk dX2_countFree_27 ?_
        refine m_if_ne (tgt := 36) hx hb dX2_countFree_30 (by decide) (by omega) (fun c30 => ?_) (fun c30 => ?_)
        · refine m_iincv hx hb hL dX2_countFree_36 rfl (fun ls hL => ?_)
          refine lv_goto (tgt := 13) hx hb dX2_countFree_39 (by decide) ?_
          exact ih n (i + 1) _ _ ls ⟨by omega, by omega⟩ ⟨by omega, by omega⟩ (by omega) (by rw [hv, rFr, if_neg (by omega)]; first | rw [if_pos c30] | rw [if_neg c30]) X (lq_none 5 hL)
        · refine m_iincv hx hb hL dX2_countFree_33 rfl (fun ls hL => ?_)
          refine m_iincv hx hb hL dX2_countFree_36 rfl (fun ls hL => ?_)
          refine lv_goto (tgt := 13) hx hb dX2_countFree_39 (by decide) ?_
          exact ih (n + 1) (i + 1) _ _ ls ⟨by omega, by omega⟩ ⟨by omega, by omega⟩ (by omega) (by rw [hv, rFr, if_neg (by omega)]; first | rw [if_pos c30] | rw [if_neg c30]) X (lq_none 5 hL)
  exact lp 20 0 0 _ _ ls ⟨by omega, by omega⟩ ⟨by omega, by omega⟩ (by omega) rfl X hL
end
section
/-! the class relation, when the state changes in other components -/
def cR (v0 : Option Value) (A' : rS) (P' : Nat → Prop) (cy' : Int) (μ : mM) (z : Nat) : Option Value → mM → Nat → Prop := fun v μ' z' => v = v0 ∧ z' = z ∧ CR A' P' cy' μ' ∧ cfr μ μ'
theorem rWs_cg {A B : rS} {st : Int} (h1 : B 1 0 = A 1 0) (h3 : ∀ r, B 3 r = A 3 r) : ∀ (f : Nat) (x : Int), rWs B st f x = rWs A st f x := by
  intro f
  induction f with
  | zero => intro x; rfl
  | succ f ih => intro x; rw [rWs, rWs, h1, h3, ih]
theorem rWith_cg {A B : rS} {st : Int} (h1 : B 1 0 = A 1 0) (h3 : ∀ r, B 3 r = A 3 r) : rWith B st = rWith A st := rWs_cg h1 h3 20 0
section CG
variable {A B : rS} {P : Nat → Prop} {cy : Int} {μ : mM}
theorem C1.cg (h : C1 A μ) (h1 : B 1 0 = A 1 0) (h6 : B 6 0 = A 6 0) (h9 : ∀ o, B 9 o = A 9 o) (h10 : ∀ o, B 10 o = A 10 o) : C1 B μ := by
  unfold C1 RN nn at *
  simp only [h1, h6, h9, h10]
  exact h
theorem C2.cg (h : C2 A cy μ) (h2 : B 2 0 = A 2 0) (h18 : B 18 0 = A 18 0) (h19 : B 19 0 = A 19 0) (h20 : B 20 0 = A 20 0) (h21 : B 21 0 = A 21 0) : C2 B cy μ := by
  unfold C2 at *
  rw [h2, h18, h19, h20, h21]
  exact h
theorem C3.cg (h : C3 A μ) (h14 : ∀ k, B 14 k = A 14 k) : C3 B μ := fun k hk => by rw [h14]; exact h k hk
theorem C4.cg (h : C4 A μ) (h1 : B 1 0 = A 1 0) (h3 : ∀ r, B 3 r = A 3 r) : C4 B μ := by
  unfold C4 at *
  rw [rWith_cg h1 h3, rWith_cg h1 h3]
  exact h
theorem C5.cg (h : C5 A μ) (h6 : B 6 0 = A 6 0) (h15 : ∀ i, B 15 i = A 15 i) (h16 : B 16 0 = A 16 0) (h17 : B 17 0 = A 17 0) : C5 B μ := by
  unfold C5 nn at *
  simp only [h6, h15, h16, h17]
  exact h
theorem C7.cg (h : C7 A P μ) (h1 : B 1 0 = A 1 0) (h7 : ∀ o, B 7 o = A 7 o) (h8 : ∀ o, B 8 o = A 8 o) : C7 B P μ := by
  unfold C7 RN at *
  simp only [h1, h7, h8]
  exact h
theorem C8.cg (h : C8 A cy μ) (h6 : B 6 0 = A 6 0) (h7 : ∀ o, B 7 o = A 7 o) (h8 : ∀ o, B 8 o = A 8 o) (h9 : ∀ o, B 9 o = A 9 o) (h11 : ∀ o, B 11 o = A 11 o) (h12 : ∀ o, B 12 o = A 12 o) (h13 : ∀ o, B 13 o = A 13 o) : C8 B cy μ := by
  unfold C8 nn at *
  simp only [h6, h7, h8, h9, h11, h12, h13]
  exact h
/-- where no region is in the set, nobody has to be moved -/
theorem C6.cg4 (h : C6 A μ) (h1 : B 1 0 = A 1 0) (h3 : ∀ r, B 3 r = A 3 r) (h4 : ∀ r, B 4 r = A 4 r) (hn : ∀ r : Nat, r < RN A → A 3 r ≠ 4) : C6 B μ := fun r hr => by
  have hr : r < RN A := by unfold RN at *; rw [h1] at hr; exact hr
  obtain ⟨x1, x2, ⟨q, x3, x3a, x3b⟩, p, x4, x5, x6, x7⟩ := h r hr
  exact ⟨by rw [h3]; exact x1, by rw [h4]; exact x2, ⟨q, x3, x3a, fun w => absurd (by rw [← h3]; exact w) (hn r hr)⟩, p, x4, x5, x6, fun w => absurd (by rw [← h3]; exact w) (hn r hr)⟩
theorem C6.cg (h : C6 A μ) (h1 : B 1 0 = A 1 0) (h3 : ∀ r, B 3 r = A 3 r) (h4 : ∀ r, B 4 r = A 4 r) (h5 : ∀ r, B 5 r = A 5 r) (h6 : B 6 0 = A 6 0) (h7 : ∀ o, B 7 o = A 7 o) (h8 : ∀ o, B 8 o = A 8 o) (h12 : ∀ o, B 12 o = A 12 o) (h13 : ∀ o, B 13 o = A 13 o) : C6 B μ := by
  have ht : ∀ o : Nat, rToMove B (o : Int) = rToMove A (o : Int) := fun o => by unfold rToMove; rw [h12, h13, h7, h3]
  unfold C6 nn RN at *
  simp only [h1, h3, h4, h5, h6, h7, h8, ht]
  exact h
end CG
/-- an object is seen: what stays -/
theorem see_CR0 {A : rS} {P : Nat → Prop} {cy : Int} {μ μ' : mM} {o : Nat} (hc : CR A P cy μ) (ho : o < nn A) (h12 : A 12 o = 0) (h34 : ∀ r : Nat, r < RN A → A 3 r ≠ 4) (h1 : C1 A μ') (h2 : C2 A cy μ') (h3 : C3 A μ') (h4 : C4 A μ') (h5 : C5 (rSee A o) μ') (h6 : C6 A μ') (h7 : C7 A P μ')
    (h8 : ∀ q, q < nn A → mq μ' (aOb q) 2 = mq μ (aOb q) 2 ∧ mi μ' (aOb q) 3 = mi μ (aOb q) 3 ∧ mi μ' (aOb q) 5 = mi μ (aOb q) 5 ∧ (∀ i, mq μ' (aFd q) i = mq μ (aFd q) i) ∧ mi μ' (aOb q) 4 = if q = o then iv cy else mi μ (aOb q) 4) : CR (rSee A o) P cy μ' := by
  obtain ⟨-, -, -, -, -, -, -, k8, c0, c1⟩ := hc
  have e : ∀ k i, k ≠ 12 → k ≠ 15 → k ≠ 17 → rSee A o k i = A k i := fun k i => see_k k i
  have e12 : ∀ q, rSee A o 12 q = if q = o then 1 else A 12 q := fun q => by rw [see12 (by omega) (by simpa using h12)]; simp
  refine ⟨h1.cg (e 1 0 (by decide) (by decide) (by decide)) (e 6 0 (by decide) (by decide) (by decide)) (fun q => e 9 q (by decide) (by decide) (by decide)) (fun q => e 10 q (by decide) (by decide) (by decide)), h2.cg (e 2 0 (by decide) (by decide) (by decide)) (e 18 0 (by decide) (by decide) (by decide)) (e 19 0 (by decide) (by decide) (by decide)) (e 20 0 (by decide) (by decide) (by decide)) (e 21 0 (by decide) (by decide) (by decide)), h3.cg (fun q => e 14 q (by decide) (by decide) (by decide)), h4.cg (e 1 0 (by decide) (by decide) (by decide)) (fun q => e 3 q (by decide) (by decide) (by decide)), h5, h6.cg4 (e 1 0 (by decide) (by decide) (by decide)) (fun q => e 3 q (by decide) (by decide) (by decide)) (fun q => e 4 q (by decide) (by decide) (by decide)) h34, h7.cg (e 1 0 (by decide) (by decide) (by decide)) (fun q => e 7 q (by decide) (by decide) (by decide)) (fun q => e 8 q (by decide) (by decide) (by decide)), fun q hq => ?_, c0, c1⟩
  rw [see_nn] at hq
  obtain ⟨x1, x2, x3, x4, x5⟩ := h8 q hq
  obtain ⟨y1, y2, ⟨sv, y3, y3a, y3b, y3c⟩, ⟨fv, y4, y4b⟩, y5⟩ := k8 q hq
  rw [e 7 q (by decide) (by decide) (by decide), e 8 q (by decide) (by decide) (by decide), e 13 q (by decide) (by decide) (by decide), e 9 q (by decide) (by decide) (by decide), x1, x2, x3, x5, e12]
  refine ⟨y1, y2, ?_, ⟨fv, y4, y4b⟩, fun i hi => ?_⟩
  · by_cases w : q = o
    · rw [if_pos w, if_pos w]
      exact ⟨cy, rfl, by omega, by omega, ⟨fun _ => rfl, fun _ => rfl⟩⟩
    · rw [if_neg w, if_neg w]
      exact ⟨sv, y3, y3a, y3b, y3c⟩
  · rw [x4, e 11 _ (by decide) (by decide) (by decide)]
    exact y5 i hi
theorem see15N {A : rS} {o : Nat} (h12 : A 12 o = 0) (i : Nat) : rSee A (o : Int) 15 i = if i = (A 17 0).toNat then (o : Int) else A 15 i := see15 (by omega) (by simpa using h12) i
theorem see17N {A : rS} {o : Nat} (h12 : A 12 o = 0) : rSee A (o : Int) 17 0 = A 17 0 + 1 := see17 (by omega) (by simpa using h12)
theorem see_CRn {A : rS} {P : Nat → Prop} {cy : Int} {μ : mM} {o : Nat} (hI : RI A) (hR : Rw A) (hc : CR A P cy μ) (ho : o < nn A) (h12 : A 12 o = 0) (h34 : ∀ r : Nat, r < RN A → A 3 r ≠ 4) (he : ¬ A 16 0 < A 17 0) :
    CR (rSee A o) P cy (setI (setQ (setQ (setI μ (aOb o) 4 (iv cy)) 3 0 (some (aOb o))) 3 1 (some (aOb o))) 3 2 (iv (A 17 0 - A 16 0 + 1))) := by
  obtain ⟨h1, h2, h3, h4, ⟨c1, c2, c3, c4, c5⟩, h6, h7, h8, -, -⟩ := id hc
  have b17 := hI.b17 0
  have b16 := hI.b16 0
  have r1 := hR.1
  refine see_CR0 hc ho h12 h34 ?_ ?_ ?_ ?_ ?_ ?_ ?_ ?_
  · exact (((h1.I (fun r q => absurd q.symm (aRg_ne_aOb r o)) (fun _ _ => by decide)).Q (by decide) (by decide) (by decide) (by decide) (fun r q => absurd q.symm (aRg_f (by decide))) (fun r q => absurd q.symm (aOb_f (by decide)))).Q (by decide) (by decide) (by decide) (by decide) (fun r q => absurd q.symm (aRg_f (by decide))) (fun r q => absurd q.symm (aOb_f (by decide)))).I (fun r q => absurd q.symm (aRg_f (by decide))) (fun r q => absurd q.symm (aOb_f (by decide)))
  · exact C2.I (C2.Q (C2.Q (h2.I (aOb_f (by decide))))) (by decide)
  · exact C3.I (C3.Q (C3.Q (C3.I h3) (by decide)) (by decide))
  · exact C4.I (C4.Q (C4.Q (C4.I h4) (by decide)) (by decide))
  · have e16 : rSee A (o : Int) 16 0 = A 16 0 := see_k 16 0 (by decide) (by decide) (by decide)
    refine ⟨?_, ?_, ?_, ?_, ?_⟩
    · rw [mq_I, mq_ne (by omega), mq_eq, e16, see17N h12, if_pos (by omega), see15N h12, if_pos (by omega)]
      simp
    · rw [mq_I, mq_eq, e16, see17N h12, if_pos (by omega), see15N h12, if_pos (by omega)]
      simp
    · rw [mi_eq, e16, see17N h12, show A 17 0 - A 16 0 + 1 = A 17 0 + 1 - A 16 0 by omega]
    · intro i i1 i2
      rw [e16] at i1
      rw [see17N h12] at i2
      omega
    · intro q hq _
      rw [see_nn] at hq
      rw [mq_I, mq_ne (fun w => aOb_f (by decide) w.1), mq_ne (fun w => aOb_f (by decide) w.1), mq_I]
      exact c5 q hq (fun i i1 i2 => by omega)
  · exact C6.I (C6.Q (C6.Q (h6.I (fun r q => aRg_ne_aOb r o q.symm)))) (fun r q => aRg_f (by decide) q.symm)
  · exact C7.I (C7.Q (C7.Q (C7.I h7) (fun r q => aSt_f (by decide) q.symm)) (fun r q => aSt_f (by decide) q.symm))
  · intro q hq
    refine ⟨?_, ?_, ?_, fun i => ?_, ?_⟩
    · rw [mq_I, mq_ne (fun w => aOb_f (by decide) w.1), mq_ne (fun w => aOb_f (by decide) w.1), mq_I]
    · rw [mi_ne (fun w => aOb_f (by decide) w.1), mi_Q, mi_Q, mi_ne (fun w => absurd w.2 (by decide))]
    · rw [mi_ne (fun w => aOb_f (by decide) w.1), mi_Q, mi_Q, mi_ne (fun w => absurd w.2 (by decide))]
    · rw [mq_I, mq_ne (fun w => aFd_f (by decide) w.1), mq_ne (fun w => aFd_f (by decide) w.1), mq_I]
    · rw [mi_ne (fun w => aOb_f (by decide) w.1), mi_Q, mi_Q, mi_I]
      by_cases w : q = o
      · rw [if_pos ⟨by rw [w], rfl⟩, if_pos w]
      · rw [if_neg (fun v => w (aOb_inj v.1)), if_neg w]
theorem see_CRs {A : rS} {P : Nat → Prop} {cy : Int} {μ : mM} {o : Nat} (hI : RI A) (hR : Rw A) (hc : CR A P cy μ) (ho : o < nn A) (h12 : A 12 o = 0) (h34 : ∀ r : Nat, r < RN A → A 3 r ≠ 4) (he : A 16 0 < A 17 0) :
    CR (rSee A o) P cy (setI (setQ (setQ (setI μ (aOb o) 4 (iv cy)) (aOb (A 15 (A 17 0 - 1).toNat).toNat) 6 (some (aOb o))) 3 1 (some (aOb o))) 3 2 (iv (A 17 0 - A 16 0 + 1))) := by
  obtain ⟨h1, h2, h3, h4, ⟨c1, c2, c3, c4, c5⟩, h6, h7, h8, -, -⟩ := id hc
  have b17 := hI.b17 0
  have b16 := hI.b16 0
  have b15 := hI.b15 (A 17 0 - 1).toNat
  refine see_CR0 hc ho h12 h34 ?_ ?_ ?_ ?_ ?_ ?_ ?_ ?_
  · exact (((h1.I (fun r q => absurd q.symm (aRg_ne_aOb r o)) (fun _ _ => by decide)).Q (aOb_f (by decide)) (aOb_f (by decide)) (fun q => absurd q (aOb_f (by decide))) (aOb_f (by decide)) (fun r q => absurd q.symm (aRg_ne_aOb _ _)) (fun r q => by decide)).Q (by decide) (by decide) (by decide) (by decide) (fun r q => absurd q.symm (aRg_f (by decide))) (fun r q => absurd q.symm (aOb_f (by decide)))).I (fun r q => absurd q.symm (aRg_f (by decide))) (fun r q => absurd q.symm (aOb_f (by decide)))
  · exact C2.I (C2.Q (C2.Q (h2.I (aOb_f (by decide))))) (by decide)
  · exact C3.I (C3.Q (C3.Q (C3.I h3) (aOb_f (by decide))) (by decide))
  · exact C4.I (C4.Q (C4.Q (C4.I h4) (aOb_f (by decide))) (by decide))
  · have e16 : rSee A (o : Int) 16 0 = A 16 0 := see_k 16 0 (by decide) (by decide) (by decide)
    refine ⟨?_, ?_, ?_, ?_, ?_⟩
    · rw [mq_I, mq_ne (by omega), mq_ne (fun w => aOb_f (by decide) w.1.symm), mq_I, e16, see17N h12, if_pos (by omega), see15N h12, if_neg (by omega), c1, if_pos he]
    · rw [mq_I, mq_eq, e16, see17N h12, if_pos (by omega), see15N h12, if_pos (by omega)]
      simp
    · rw [mi_eq, e16, see17N h12, show A 17 0 - A 16 0 + 1 = A 17 0 + 1 - A 16 0 by omega]
    · intro i i1 i2
      rw [e16] at i1
      rw [see17N h12] at i2
      rw [mq_I, mq_ne (fun w => aOb_f (by decide) w.1), see15N h12, if_neg (by omega), see15N h12]
      have b15i := hI.b15 i
      by_cases w : (i : Int) + 1 = A 17 0
      · have ei : i = (A 17 0 - 1).toNat := by omega
        rw [if_pos (by omega), ei, mq_eq]
        simp
      · rw [if_neg (by omega), mq_ne (fun v => ?_), mq_I]
        · exact c4 i i1 (by omega)
        · have e1 := aOb_inj v.1
          have e2 := hR.2.2 i (A 17 0 - 1).toNat (by omega) (by omega) (by omega)
          omega
    · intro q hq hn
      rw [see_nn] at hq
      have hn' : ∀ i : Nat, A 16 0 ≤ i → (i : Int) < A 17 0 → A 15 i ≠ q := fun i i1 i2 => by
        have := hn i (by rw [e16]; exact i1) (by rw [see17N h12]; omega)
        rw [see15N h12, if_neg (by omega)] at this
        exact this
      rw [mq_I, mq_ne (fun w => aOb_f (by decide) w.1), mq_ne (fun v => ?_), mq_I]
      · exact c5 q hq (fun i i1 i2 => hn' i i1 (by omega))
      · have e1 := aOb_inj v.1
        exact hn' (A 17 0 - 1).toNat (by omega) (by omega) (by omega)
  · exact C6.I (C6.Q (C6.Q (h6.I (fun r q => aRg_ne_aOb r o q.symm)))) (fun r q => aRg_f (by decide) q.symm)
  · exact C7.I (C7.Q (C7.Q (C7.I h7) (fun r q => aOb_ne_aSt _ r q)) (fun r q => aSt_f (by decide) q.symm))
  · intro q hq
    refine ⟨?_, ?_, ?_, fun i => ?_, ?_⟩
    · rw [mq_I, mq_ne (fun w => aOb_f (by decide) w.1), mq_ne (fun w => absurd w.2 (by decide)), mq_I]
    · rw [mi_ne (fun w => aOb_f (by decide) w.1), mi_Q, mi_Q, mi_ne (fun w => absurd w.2 (by decide))]
    · rw [mi_ne (fun w => aOb_f (by decide) w.1), mi_Q, mi_Q, mi_ne (fun w => absurd w.2 (by decide))]
    · rw [mq_I, mq_ne (fun w => aFd_f (by decide) w.1), mq_ne (fun w => aOb_ne_aFd _ _ w.1.symm), mq_I]
    · rw [mi_ne (fun w => aOb_f (by decide) w.1), mi_Q, mi_Q, mi_I]
      by_cases w : q = o
      · rw [if_pos ⟨by rw [w], rfl⟩, if_pos w]
      · rw [if_neg (fun v => w (aOb_inj v.1)), if_neg w]
end
section
/-! the class relation when a cycle begins, and when the first that waits is taken -/
theorem start_CR {A : rS} {P G : Nat → Prop} {cy : Int} {μ : mM} (hc : CR A P cy μ) (hK : KK A P G) (h18 : A 18 0 = 0) (hcy : cy < 2000) : CR (rSt0 A) P (cy + 1) (setI (setI μ 1 3 (iv 1)) 1 4 (iv (cy + 1))) := by
  obtain ⟨h1, ⟨d1, d2, d3, d4, d5, d6⟩, h3, h4, ⟨c1, c2, c3, c4, c5⟩, h6, h7, h8, k0, k1⟩ := id hc
  have b6 := hK.1.1.b6 0
  have hrr := hK.2.2.2.1.1 (by omega)
  have h34 : ∀ r : Nat, r < RN A → A 3 r ≠ 4 := fun r hr => (hK.2.2.2.1.2.2.1 (by omega) r (by unfold RN at hr; omega)).2
  have e : ∀ k i, k ≠ 12 → k ≠ 13 → k ≠ 16 → k ≠ 17 → k ≠ 18 → rSt0 A k i = A k i := fun k i k1 k2 k3 k4 k5 => by unfold rSt0; rw [up_k _ _ k5, up_k _ _ k4, up_k _ _ k3, rClr_k _ _ _ _ _ k1 k2]
  have e12 : ∀ o, o < nn A → rSt0 A 12 o = 0 := fun o ho => by
    unfold nn at ho
    unfold rSt0
    rw [up_k _ _ (by decide), up_k _ _ (by decide), up_k _ _ (by decide), rClr_z 700 0 A 12 (Or.inl rfl) (by omega) (by omega), if_pos (by omega)]
  have e13 : ∀ o, o < nn A → rSt0 A 13 o = 0 := fun o ho => by
    unfold nn at ho
    unfold rSt0
    rw [up_k _ _ (by decide), up_k _ _ (by decide), up_k _ _ (by decide), rClr_z 700 0 A 13 (Or.inr rfl) (by omega) (by omega), if_pos (by omega)]
  have e16 : rSt0 A 16 0 = 0 := by unfold rSt0; rw [up_k _ _ (by decide), up_k _ _ (by decide), up_s]
  have e17 : rSt0 A 17 0 = 0 := by unfold rSt0; rw [up_k _ _ (by decide), up_s]
  have e18 : rSt0 A 18 0 = 1 := by unfold rSt0; rw [up_s]
  have e1 := e 1 0 (by decide) (by decide) (by decide) (by decide) (by decide)
  have e6 := e 6 0 (by decide) (by decide) (by decide) (by decide) (by decide)
  have e3 : ∀ r, rSt0 A 3 r = A 3 r := fun r => e 3 r (by decide) (by decide) (by decide) (by decide) (by decide)
  have en : nn (rSt0 A) = nn A := by unfold nn; rw [e6]
  refine ⟨?_, ⟨?_, ?_, ?_, ?_, ?_, ?_⟩, ?_, ?_, ⟨?_, ?_, ?_, ?_, ?_⟩, ?_, ?_, fun o ho => ?_, by omega, by omega⟩
  · exact ((h1.I (fun r q => absurd q.symm (aRg_f (by decide))) (fun r q => absurd q.symm (aOb_f (by decide)))).I (fun r q => absurd q.symm (aRg_f (by decide))) (fun r q => absurd q.symm (aOb_f (by decide)))).cg e1 e6 (fun o => e 9 o (by decide) (by decide) (by decide) (by decide) (by decide)) (fun o => e 10 o (by decide) (by decide) (by decide) (by decide) (by decide))
  · rw [mi_ne (by omega), mi_ne (by omega), e 2 0 (by decide) (by decide) (by decide) (by decide) (by decide)]; exact d1
  · rw [mi_ne (by omega), mi_eq, e18]
  · rw [mi_eq]
  · rw [mi_ne (by omega), mi_ne (by omega), e 19 0 (by decide) (by decide) (by decide) (by decide) (by decide)]; exact d4
  · rw [mi_ne (by omega), mi_ne (by omega), e 20 0 (by decide) (by decide) (by decide) (by decide) (by decide)]; exact d5
  · rw [mi_ne (by omega), mi_ne (by omega), e 21 0 (by decide) (by decide) (by decide) (by decide) (by decide)]; exact d6
  · exact C3.cg (C3.I (C3.I h3)) (fun k => e 14 k (by decide) (by decide) (by decide) (by decide) (by decide))
  · exact C4.cg (C4.I (C4.I h4)) e1 e3
  · rw [mq_I, mq_I, c1, if_neg (by omega), if_neg (by omega)]
  · rw [mq_I, mq_I, c2, if_neg (by omega), if_neg (by omega)]
  · rw [mi_ne (by omega), mi_ne (by omega), c3, e16, e17, hrr]; simp
  · intro i i1 i2; rw [e16] at i1; rw [e17] at i2; omega
  · intro o ho _
    rw [en] at ho
    rw [mq_I, mq_I]
    exact c5 o ho (fun i i1 i2 => by omega)
  · exact C6.cg4 (C6.I (C6.I h6 (fun r q => aRg_f (by decide) q.symm)) (fun r q => aRg_f (by decide) q.symm)) e1 e3 (fun r => e 4 r (by decide) (by decide) (by decide) (by decide) (by decide)) h34
  · exact C7.cg (C7.I (C7.I h7)) e1 (fun o => e 7 o (by decide) (by decide) (by decide) (by decide) (by decide)) (fun o => e 8 o (by decide) (by decide) (by decide) (by decide) (by decide))
  · rw [en] at ho
    obtain ⟨y1, y2, ⟨sv, y3, y3a, y3b, y3c⟩, ⟨fv, y4, y4a, y4b, y4c⟩, y5⟩ := h8 o ho
    rw [mq_I, mq_I, mi_ne (fun w => aOb_f (by decide) w.1), mi_ne (fun w => aOb_f (by decide) w.1), mi_ne (fun w => aOb_f (by decide) w.1), mi_ne (fun w => aOb_f (by decide) w.1), mi_ne (fun w => aOb_f (by decide) w.1), mi_ne (fun w => aOb_f (by decide) w.1), e 7 o (by decide) (by decide) (by decide) (by decide) (by decide), e 8 o (by decide) (by decide) (by decide) (by decide) (by decide), e 9 o (by decide) (by decide) (by decide) (by decide) (by decide), e12 o ho, e13 o ho]
    refine ⟨y1, y2, ⟨sv, y3, y3a, by omega, by omega⟩, ⟨fv, y4, y4a, by omega, by omega⟩, fun i hi => ?_⟩
    rw [mq_I, mq_I, e 11 _ (by decide) (by decide) (by decide) (by decide) (by decide)]
    exact y5 i hi
/-- a change of the row alone -/
theorem row_CR {A B : rS} {P : Nat → Prop} {cy : Int} {μ μ' : mM} (hc : CR A P cy μ) (he : ∀ k i, k ≠ 15 → k ≠ 16 → k ≠ 17 → B k i = A k i) (h5 : C5 B μ') (hs : ∀ a, sh μ' a = sh μ a) (hi : ∀ a k, a ≠ 3 → mi μ' a k = mi μ a k) (hq : ∀ a k, a ≠ 3 → (∀ o, a = aOb o → k ≠ 6) → mq μ' a k = mq μ a k) : CR B P cy μ' := by
  obtain ⟨h1, h2, h3, h4, -, h6, h7, h8, k0, k1⟩ := hc
  have hir : ∀ r k, mi μ' (aRg r) k = mi μ (aRg r) k := fun r k => hi _ k (aRg_f (by decide))
  have hio : ∀ r k, mi μ' (aOb r) k = mi μ (aOb r) k := fun r k => hi _ k (aOb_f (by decide))
  have hi1 : ∀ k, mi μ' 1 k = mi μ 1 k := fun k => hi 1 k (by decide)
  have hqf : ∀ a k, a < 6 → a ≠ 3 → mq μ' a k = mq μ a k := fun a k ha h3 => hq a k h3 (fun o e => absurd e.symm (aOb_f ha))
  have hqr : ∀ r k, mq μ' (aRg r) k = mq μ (aRg r) k := fun r k => hq _ k (aRg_f (by decide)) (fun o e => absurd e (aRg_ne_aOb _ _))
  have hqs : ∀ r k, mq μ' (aSt r) k = mq μ (aSt r) k := fun r k => hq _ k (aSt_f (by decide)) (fun o e => absurd e.symm (aOb_ne_aSt _ _))
  have hqd : ∀ r k, mq μ' (aFd r) k = mq μ (aFd r) k := fun r k => hq _ k (aFd_f (by decide)) (fun o e => absurd e.symm (aOb_ne_aFd _ _))
  have hqo : ∀ r k, k ≠ 6 → mq μ' (aOb r) k = mq μ (aOb r) k := fun r k hk => hq _ k (aOb_f (by decide)) (fun _ _ => hk)
  have e : ∀ k i, k ≠ 15 → k ≠ 16 → k ≠ 17 → B k i = A k i := he
  have e1 := e 1 0 (by decide) (by decide) (by decide)
  have e6 := e 6 0 (by decide) (by decide) (by decide)
  refine ⟨C1.cg (A := A) ?_ e1 e6 (fun o => e 9 o (by decide) (by decide) (by decide)) (fun o => e 10 o (by decide) (by decide) (by decide)), C2.cg (A := A) ?_ (e 2 0 (by decide) (by decide) (by decide)) (e 18 0 (by decide) (by decide) (by decide)) (e 19 0 (by decide) (by decide) (by decide)) (e 20 0 (by decide) (by decide) (by decide)) (e 21 0 (by decide) (by decide) (by decide)), C3.cg (A := A) ?_ (fun q => e 14 q (by decide) (by decide) (by decide)), C4.cg (A := A) ?_ e1 (fun q => e 3 q (by decide) (by decide) (by decide)), h5, C6.cg (A := A) ?_ e1 (fun q => e 3 q (by decide) (by decide) (by decide)) (fun q => e 4 q (by decide) (by decide) (by decide)) (fun q => e 5 q (by decide) (by decide) (by decide)) e6 (fun q => e 7 q (by decide) (by decide) (by decide)) (fun q => e 8 q (by decide) (by decide) (by decide)) (fun q => e 12 q (by decide) (by decide) (by decide)) (fun q => e 13 q (by decide) (by decide) (by decide)), C7.cg (A := A) ?_ e1 (fun q => e 7 q (by decide) (by decide) (by decide)) (fun q => e 8 q (by decide) (by decide) (by decide)), C8.cg (A := A) ?_ e6 (fun q => e 7 q (by decide) (by decide) (by decide)) (fun q => e 8 q (by decide) (by decide) (by decide)) (fun q => e 9 q (by decide) (by decide) (by decide)) (fun q => e 11 q (by decide) (by decide) (by decide)) (fun q => e 12 q (by decide) (by decide) (by decide)) (fun q => e 13 q (by decide) (by decide) (by decide)), k0, k1⟩
  · unfold C1 at *
    simp only [hs, hqf 0 0 (by decide) (by decide), hqf 0 1 (by decide) (by decide), hqf 1 0 (by decide) (by decide), hqf 1 2 (by decide) (by decide), hqf 2 0 (by decide) (by decide), hqf 2 1 (by decide) (by decide), hqr, hir, hio, hqo _ 1 (by decide), hqf 5 _ (by decide) (by decide)]
    exact h1
  · unfold C2 at *
    simp only [hi1]
    exact h2
  · intro k hk; rw [hqf 4 k (by decide) (by decide)]; exact h3 k hk
  · unfold C4 at *; rw [hqf 2 2 (by decide) (by decide), hqf 2 3 (by decide) (by decide)]; exact h4
  · unfold C6 at *; simp only [hir]; exact h6
  · unfold C7 at *; simp only [hqs]; exact h7
  · unfold C8 at *; simp only [hio, hqd, hqo _ 2 (by decide)]; exact h8
theorem pop_CRl {A : rS} {P : Nat → Prop} {cy : Int} {μ : mM} (hI : RI A) (hc : CR A P cy μ) (he : A 16 0 + 1 = A 17 0) : CR (up A 16 0 (A 16 0 + 1)) P cy (setI (setQ (setQ (setQ μ 3 0 none) 3 1 none) (aOb (A 15 (A 16 0).toNat).toNat) 6 none) 3 2 (iv (A 17 0 - A 16 0 - 1))) := by
  obtain ⟨c1, c2, c3, c4, c5⟩ := hc.2.2.2.2.1
  refine row_CR hc (fun k i _ h _ => up_k _ _ h) ⟨?_, ?_, ?_, ?_, ?_⟩ (fun _ => rfl) (fun a k ha => ?_) (fun a k ha hk => ?_)
  · rw [mq_I, mq_ne (fun w => aOb_f (by decide) w.1.symm), mq_ne (by omega), mq_eq, up_s, up_k _ _ (by decide), if_neg (by omega)]
  · rw [mq_I, mq_ne (fun w => aOb_f (by decide) w.1.symm), mq_eq, up_s, up_k _ _ (by decide), if_neg (by omega)]
  · rw [mi_eq, up_s, up_k _ _ (by decide)]; congr 1; omega
  · intro i i1 i2
    rw [up_s] at i1
    rw [up_k _ _ (by decide)] at i2
    omega
  · intro o ho _
    have ho : o < nn A := ho
    rw [mq_I]
    by_cases w : o = (A 15 (A 16 0).toNat).toNat
    · rw [w, mq_eq]
    · rw [mq_ne (fun v => w (aOb_inj v.1)), mq_ne (fun v => aOb_f (by decide) v.1), mq_ne (fun v => aOb_f (by decide) v.1)]
      have b15 := hI.b15 (A 16 0).toNat
      have b16 := hI.b16 0
      exact c5 o ho (fun i i1 i2 => by omega)
  · rw [mi_ne (fun v => ha v.1), mi_Q, mi_Q, mi_Q]
  · rw [mq_I, mq_ne (fun v => hk _ v.1 v.2), mq_ne (fun v => ha v.1), mq_ne (fun v => ha v.1)]
theorem pop_CRm {A : rS} {P : Nat → Prop} {cy : Int} {μ : mM} (hI : RI A) (hR : Rw A) (hc : CR A P cy μ) (he : A 16 0 + 1 < A 17 0) : CR (up A 16 0 (A 16 0 + 1)) P cy (setI (setQ (setQ μ 3 0 (some (aOb (A 15 ((A 16 0).toNat + 1)).toNat))) (aOb (A 15 (A 16 0).toNat).toNat) 6 none) 3 2 (iv (A 17 0 - A 16 0 - 1))) := by
  obtain ⟨c1, c2, c3, c4, c5⟩ := hc.2.2.2.2.1
  have b16 := hI.b16 0
  have b15 := hI.b15 (A 16 0).toNat
  refine row_CR hc (fun k i _ h _ => up_k _ _ h) ⟨?_, ?_, ?_, ?_, ?_⟩ (fun _ => rfl) (fun a k ha => ?_) (fun a k ha hk => ?_)
  · rw [mq_I, mq_ne (fun w => aOb_f (by decide) w.1.symm), mq_eq, up_s, up_k _ _ (by decide), if_pos (by omega), up_k _ _ (by decide), show (A 16 0 + 1).toNat = (A 16 0).toNat + 1 by omega]
  · rw [mq_I, mq_ne (fun w => aOb_f (by decide) w.1.symm), mq_ne (by omega), c2, up_s, up_k _ _ (by decide), if_pos (by omega), if_pos (by omega), up_k _ _ (by decide)]
  · rw [mi_eq, up_s, up_k _ _ (by decide)]; congr 1; omega
  · intro i i1 i2
    rw [up_s] at i1
    rw [up_k _ _ (by decide)] at i2
    rw [up_k _ _ (by decide), up_k _ _ (by decide), mq_I, mq_ne (fun v => ?_), mq_ne (fun v => aOb_f (by decide) v.1)]
    · exact c4 i (by omega) i2
    · have e1 := aOb_inj v.1
      have b15i := hI.b15 i
      have e2 := hR.2.2 i (A 16 0).toNat (by omega) (by omega) (by omega)
      omega
  · intro o ho hn
    have ho : o < nn A := ho
    rw [mq_I]
    by_cases w : o = (A 15 (A 16 0).toNat).toNat
    · rw [w, mq_eq]
    · rw [mq_ne (fun v => w (aOb_inj v.1)), mq_ne (fun v => aOb_f (by decide) v.1)]
      refine c5 o ho (fun i i1 i2 q => ?_)
      by_cases v : (i : Int) = A 16 0
      · have ei : i = (A 16 0).toNat := by omega
        rw [ei] at q
        exact w (by omega)
      · exact hn i (by rw [up_s]; omega) (by rw [up_k _ _ (by decide)]; exact i2) q
  · rw [mi_ne (fun v => ha v.1), mi_Q, mi_Q]
  · rw [mq_I, mq_ne (fun v => hk _ v.1 v.2), mq_ne (fun v => ha v.1)]
end
section
/-! the class relation, when regions change -/
theorem rWs_cg3 {A B : rS} {st : Int} (h1 : B 1 0 = A 1 0) (h3 : ∀ r : Nat, (r : Int) < A 1 0 → (B 3 r = st ↔ A 3 r = st)) : ∀ (f : Nat) (x : Int), 0 ≤ x → rWs B st f x = rWs A st f x := by
  intro f
  induction f with
  | zero => intro x _; rfl
  | succ f ih =>
    intro x hx
    rw [rWs, rWs, h1, ih (x + 1) (by omega)]
    by_cases w : A 1 0 ≤ x
    · rw [if_pos w, if_pos w]
    · rw [if_neg w, if_neg w]
      have := h3 x.toNat (by omega)
      by_cases v : A 3 x.toNat = st
      · rw [if_pos v, if_pos (this.mpr v)]
      · rw [if_neg v, if_neg (fun q => v (this.mp q))]
theorem rWith_cg3 {A B : rS} {st : Int} (h1 : B 1 0 = A 1 0) (h3 : ∀ r : Nat, (r : Int) < A 1 0 → (B 3 r = st ↔ A 3 r = st)) : rWith B st = rWith A st := rWs_cg3 h1 h3 20 0 (Int.le_refl 0)
theorem rWith_is {A : rS} (hI : RI A) {st : Int} {x : Nat} (hx : (x : Int) < A 1 0) (h3 : A 3 x = st) (hu : ∀ q : Nat, (q : Int) < A 1 0 → A 3 q = st → q = x) : rWith A st = (x : Int) := by
  by_cases e : rWith A st = -1
  · exact absurd h3 (rWith_none hI e x hx)
  · have := rWith_some e
    have := hu (rWith A st).toNat (by omega) this.2.2
    omega
theorem rWith_isn {A : rS} {st : Int} (h : ∀ q : Nat, (q : Int) < A 1 0 → A 3 q ≠ st) : rWith A st = -1 := by
  by_cases e : rWith A st = -1
  · exact e
  · have := rWith_some e
    exact absurd this.2.2 (h _ (by omega))
theorem reg_CR {A B : rS} {P P' : Nat → Prop} {cy : Int} {μ μ' : mM} (hc : CR A P cy μ) (he : ∀ k i, k ≠ 3 → k ≠ 4 → k ≠ 5 → k ≠ 18 → k ≠ 19 → B k i = A k i) (h2 : C2 B cy μ') (h4 : C4 B μ') (h6 : C6 B μ') (h7 : C7 B P' μ') (hs : ∀ a, sh μ' a = sh μ a) (hi : ∀ a k, a ≠ 1 → (∀ r, a = aRg r → k = 0) → mi μ' a k = mi μ a k) (hq : ∀ a k, (a = 2 → k < 2) → (∀ r, a ≠ aSt r) → mq μ' a k = mq μ a k) : CR B P' cy μ' := by
  obtain ⟨h1, -, h3, -, h5, -, -, h8, k0, k1⟩ := hc
  have hir : ∀ r, mi μ' (aRg r) 0 = mi μ (aRg r) 0 := fun r => hi _ 0 (aRg_f (by decide)) (fun _ _ => rfl)
  have hio : ∀ r k, mi μ' (aOb r) k = mi μ (aOb r) k := fun r k => hi _ k (aOb_f (by decide)) (fun r q => absurd q.symm (aRg_ne_aOb _ _))
  have hi3 : ∀ k, mi μ' 3 k = mi μ 3 k := fun k => hi 3 k (by decide) (fun r q => absurd q.symm (aRg_f (by decide)))
  have hqf : ∀ a k, a < 6 → a ≠ 2 → mq μ' a k = mq μ a k := fun a k ha h3 => hq a k (fun q => absurd q h3) (fun r q => aSt_f ha q.symm)
  have hq2 : ∀ k, k < 2 → mq μ' 2 k = mq μ 2 k := fun k hk => hq 2 k (fun _ => hk) (fun r q => aSt_f (by decide) q.symm)
  have hqr : ∀ r k, mq μ' (aRg r) k = mq μ (aRg r) k := fun r k => hq _ k (fun q => absurd q (aRg_f (by decide))) (fun q => aRg_ne_aSt _ _)
  have hqd : ∀ r k, mq μ' (aFd r) k = mq μ (aFd r) k := fun r k => hq _ k (fun q => absurd q (aFd_f (by decide))) (fun q w => aSt_ne_aFd _ _ w.symm)
  have hqo : ∀ r k, mq μ' (aOb r) k = mq μ (aOb r) k := fun r k => hq _ k (fun q => absurd q (aOb_f (by decide))) (fun q => aOb_ne_aSt _ _)
  have e1 := he 1 0 (by decide) (by decide) (by decide) (by decide) (by decide)
  have e6 := he 6 0 (by decide) (by decide) (by decide) (by decide) (by decide)
  refine ⟨C1.cg (A := A) ?_ e1 e6 (fun o => he 9 o (by decide) (by decide) (by decide) (by decide) (by decide)) (fun o => he 10 o (by decide) (by decide) (by decide) (by decide) (by decide)), h2, C3.cg (A := A) ?_ (fun q => he 14 q (by decide) (by decide) (by decide) (by decide) (by decide)), h4, C5.cg (A := A) ?_ e6 (fun q => he 15 q (by decide) (by decide) (by decide) (by decide) (by decide)) (he 16 0 (by decide) (by decide) (by decide) (by decide) (by decide)) (he 17 0 (by decide) (by decide) (by decide) (by decide) (by decide)), h6, h7, C8.cg (A := A) ?_ e6 (fun q => he 7 q (by decide) (by decide) (by decide) (by decide) (by decide)) (fun q => he 8 q (by decide) (by decide) (by decide) (by decide) (by decide)) (fun q => he 9 q (by decide) (by decide) (by decide) (by decide) (by decide)) (fun q => he 11 q (by decide) (by decide) (by decide) (by decide) (by decide)) (fun q => he 12 q (by decide) (by decide) (by decide) (by decide) (by decide)) (fun q => he 13 q (by decide) (by decide) (by decide) (by decide) (by decide)), k0, k1⟩
  · unfold C1 at *
    simp only [hs, hqf 0 0 (by decide) (by decide), hqf 0 1 (by decide) (by decide), hqf 1 0 (by decide) (by decide), hqf 1 2 (by decide) (by decide), hq2 0 (by decide), hq2 1 (by decide), hqr, hir, hio, hqo, hqf 5 _ (by decide) (by decide)]
    exact h1
  · intro k hk; rw [hqf 4 k (by decide) (by decide)]; exact h3 k hk
  · unfold C5 at *; simp only [hqf 3 _ (by decide) (by decide), hi3, hqo]; exact h5
  · unfold C8 at *; simp only [hio, hqd, hqo]; exact h8
/-- one region's kind, used, passed, keepsFailed -/
theorem C6.at {A B : rS} {μ μ' : mM} {x : Nat} (h : C6 A μ) (h1 : B 1 0 = A 1 0) (h6 : B 6 0 = A 6 0) (h3 : ∀ r, r ≠ x → B 3 r = A 3 r) (h4 : ∀ r, r ≠ x → B 4 r = A 4 r) (h5 : ∀ r, r ≠ x → B 5 r = A 5 r) (h7 : ∀ o, B 7 o = A 7 o) (h8 : ∀ o, B 8 o = A 8 o) (h12 : ∀ o, B 12 o = A 12 o) (h13 : ∀ o, B 13 o = A 13 o) (hi : ∀ r k, r ≠ x → mi μ' (aRg r) k = mi μ (aRg r) k)
    (hx : x < RN A → mi μ' (aRg x) 2 = iv (B 3 x) ∧ mi μ' (aRg x) 3 = iv (B 4 x) ∧ (∃ q : Int, mi μ' (aRg x) 5 = iv q ∧ (q = 0 ∨ q = 1) ∧ (B 3 x = 4 → q = B 5 x)) ∧ ∃ p : Int, mi μ' (aRg x) 4 = iv p ∧ 0 ≤ p ∧ p ≤ 128 ∧ (B 3 x = 4 → ∀ o, o < nn A → rToMove B (o : Int) = 1 → A 7 o = x → p ≤ A 8 o)) : C6 B μ' := by
  intro r hr
  have hr : r < RN A := by unfold RN at *; rw [h1] at hr; exact hr
  by_cases e : r = x
  · rw [e] at hr ⊢
    obtain ⟨a, b, c, p, d1, d2, d3, d4⟩ := hx hr
    refine ⟨a, b, c, p, d1, d2, d3, fun w o ho => ?_⟩
    unfold nn at ho
    rw [h6] at ho
    rw [h7, h8]
    exact d4 w o ho
  · obtain ⟨a, b, ⟨q, c1, c2, c3⟩, p, d1, d2, d3, d4⟩ := h r hr
    rw [hi r 2 e, hi r 3 e, hi r 4 e, hi r 5 e, h3 r e, h4 r e, h5 r e]
    refine ⟨a, b, ⟨q, c1, c2, c3⟩, p, d1, d2, d3, fun w o ho ht => ?_⟩
    unfold nn at ho
    rw [h6] at ho
    rw [h7, h8]
    intro e7
    refine d4 w o ho ?_ e7
    rw [toMoveN] at ht ⊢
    rw [h12, h13, h7, e7] at ht
    rw [e7]
    simp only [Int.toNat_natCast] at ht ⊢
    rw [h3 r e] at ht
    exact ht
theorem rSi_u5 {A : rS} {i : Nat} {v r : Int} : ∀ (f : Nat) (x n : Int), rSi (up A 5 i v) r f x n = rSi A r f x n := by
  intro f
  induction f with
  | zero => intro x n; rfl
  | succ f ih =>
    intro x n
    rw [rSi, rSi, ih]
    simp [up_k]
theorem rSeenIn_u5 {A : rS} {i : Nat} {v r : Int} : rSeenIn (up A 5 i v) r = rSeenIn A r := rSi_u5 700 0 0
/-! choosing the set: one region -/
def chS (A : rS) (x : Int) : rS := up (up A 5 x.toNat 0) 3 x.toNat (if A 3 x.toNat = 3 ∧ A 2 0 < A 4 x.toNat - rSeenIn (up A 5 x.toNat 0) x then 4 else A 3 x.toNat)
theorem choose_s {A : rS} {f : Nat} {x : Int} (h : ¬ A 1 0 ≤ x) : rChoose (f + 1) x A = rChoose f (x + 1) (chS A x) := by rw [rChoose, if_neg h]; rfl
theorem chS_n {A : rS} {x : Int} (h : ¬ (A 3 x.toNat = 3 ∧ A 2 0 < A 4 x.toNat - rSeenIn A x)) : chS A x = up (up A 5 x.toNat 0) 3 x.toNat (A 3 x.toNat) := by unfold chS; rw [rSeenIn_u5, if_neg h]
theorem chS_s {A : rS} {x : Int} (h : A 3 x.toNat = 3 ∧ A 2 0 < A 4 x.toNat - rSeenIn A x) : chS A x = up (up A 5 x.toNat 0) 3 x.toNat 4 := by unfold chS; rw [rSeenIn_u5, if_pos h]
theorem ch_3 {A : rS} {x : Nat} {v : Int} (r : Nat) : up (up A 5 x 0) 3 x v 3 r = if r = x then v else A 3 r := by simp [up]
theorem ch_5 {A : rS} {x : Nat} {v : Int} (r : Nat) : up (up A 5 x 0) 3 x v 5 r = if r = x then 0 else A 5 r := by simp [up]
theorem ch_k {A : rS} {x : Nat} {v : Int} (k r : Nat) (h3 : k ≠ 3) (h5 : k ≠ 5) : up (up A 5 x 0) 3 x v k r = A k r := by rw [up_k _ _ h3, up_k _ _ h5]
theorem ch_VSP {A : rS} {P : Nat → Prop} {x : Nat} {v : Int} (h : Vd A ∧ Sg A ∧ Pl A P) (hv : v = A 3 x ∨ (A 3 x = 3 ∧ v = 4)) : Vd (up (up A 5 x 0) 3 x v) ∧ Sg (up (up A 5 x 0) 3 x v) ∧ Pl (up (up A 5 x 0) 3 x v) P := by
  obtain ⟨hV, ⟨s1, s2, s3⟩, q1, q2, q3⟩ := h
  have b3 := hV.1.b3 x
  have k3 : ∀ r, up (up A 5 x 0) 3 x v 3 r = A 3 r ∨ (A 3 r = 3 ∧ up (up A 5 x 0) 3 x v 3 r = 4) := fun r => by
    rw [ch_3]
    by_cases e : r = x
    · rw [if_pos e, e]; exact hv
    · rw [if_neg e]; exact Or.inl rfl
  generalize hB : up (up A 5 x 0) 3 x v = B at k3
  have e : ∀ k i, k ≠ 3 → k ≠ 5 → B k i = A k i := fun k i h h' => by rw [← hB]; exact ch_k k i h h'
  have hI : RI B := by rw [← hB]; exact (hV.1.u5 _ (by omega)).u3 _ (by omega)
  have e1 := e 1 0 (by decide) (by decide)
  have e6 := e 6 0 (by decide) (by decide)
  have en : nn B = nn A := by unfold nn; rw [e6]
  refine ⟨⟨hI, ?_, ?_, ?_, ?_⟩, ⟨?_, ?_, ?_⟩, ?_, ?_, ?_⟩
  · intro o ho; rw [en] at ho; rw [e 9 _ (by decide) (by decide), e 7 _ (by decide) (by decide), e1]; exact hV.2.1 o ho
  · intro o i ho; rw [en] at ho; rw [e 9 _ (by decide) (by decide), e 11 _ (by decide) (by decide), e6]; exact hV.2.2.1 o i ho
  · intro k; rw [e 14 _ (by decide) (by decide), e6]; exact hV.2.2.2.1 k
  · rw [e6]; exact hV.2.2.2.2
  · intro r hr; rw [e 4 _ (by decide) (by decide)]; have := k3 r; exact s1 r (by omega)
  · intro r q; rw [e1]; intro a b c d; have := k3 r; have := k3 q; exact s2 r q a b (by omega) (by omega)
  · intro r q; rw [e1]; intro a b c d; have := k3 r; have := k3 q; exact s3 r q a b (by omega) (by omega)
  · intro o ho
    obtain ⟨a, b, c⟩ := q1 o ho
    rw [en, e 7 _ (by decide) (by decide), e 8 _ (by decide) (by decide), e 9 _ (by decide) (by decide), e 4 _ (by decide) (by decide)]
    refine ⟨a, ?_, c⟩
    have := k3 (A 7 o).toNat
    omega
  · intro o ho; rw [en] at ho; rw [e 12 _ (by decide) (by decide)]; exact q2 o ho
  · intro o q; rw [e 7 _ (by decide) (by decide), e 7 _ (by decide) (by decide), e 8 _ (by decide) (by decide), e 8 _ (by decide) (by decide)]; exact q3 o q
theorem chS_CRn {A : rS} {P : Nat → Prop} {cy : Int} {μ : mM} {x : Nat} (hc : CR A P cy μ) (h4 : A 3 x ≠ 4) : CR (up (up A 5 x 0) 3 x (A 3 x)) P cy μ := by
  have e3 : ∀ r, up (up A 5 x 0) 3 x (A 3 x) 3 r = A 3 r := fun r => by rw [ch_3]; split <;> first | rfl | (rename_i e; rw [e])
  have e : ∀ k i, k ≠ 3 → k ≠ 5 → up (up A 5 x 0) 3 x (A 3 x) k i = A k i := fun k i h h' => ch_k k i h h'
  refine reg_CR hc (fun k i k3 k4 k5 k18 k19 => e k i k3 k5) (C2.cg hc.2.1 (e 2 0 (by decide) (by decide)) (e 18 0 (by decide) (by decide)) (e 19 0 (by decide) (by decide)) (e 20 0 (by decide) (by decide)) (e 21 0 (by decide) (by decide))) (C4.cg hc.2.2.2.1 (e 1 0 (by decide) (by decide)) e3) ?_ (C7.cg hc.2.2.2.2.2.2.1 (e 1 0 (by decide) (by decide)) (fun o => e 7 o (by decide) (by decide)) (fun o => e 8 o (by decide) (by decide))) (fun _ => rfl) (fun _ _ _ _ => rfl) (fun _ _ _ _ => rfl)
  refine C6.at (x := x) hc.2.2.2.2.2.1 (e 1 0 (by decide) (by decide)) (e 6 0 (by decide) (by decide)) (fun r _ => e3 r) (fun r _ => e 4 r (by decide) (by decide)) (fun r w => by rw [ch_5, if_neg w]) (fun o => e 7 o (by decide) (by decide)) (fun o => e 8 o (by decide) (by decide)) (fun o => e 12 o (by decide) (by decide)) (fun o => e 13 o (by decide) (by decide)) (fun _ _ _ => rfl) (fun hx => ?_)
  obtain ⟨a, b, ⟨q, c1, c2, c3⟩, p, d1, d2, d3, d4⟩ := hc.2.2.2.2.2.1 x hx
  rw [e3, e 4 _ (by decide) (by decide)]
  exact ⟨a, b, ⟨q, c1, c2, fun w => absurd w h4⟩, p, d1, d2, d3, fun w => absurd w h4⟩
theorem chS_CRs {A : rS} {P : Nat → Prop} {cy : Int} {μ : mM} {x : Nat} (hI : RI A) (hc : CR A P cy μ) (h3 : A 3 x = 3) : CR (up (up A 5 x 0) 3 x 4) P cy (setI (setI (setI μ (aRg x) 2 (iv 4)) (aRg x) 4 (iv 0)) (aRg x) 5 (iv 0)) := by
  have e : ∀ k i, k ≠ 3 → k ≠ 5 → up (up A 5 x 0) 3 x 4 k i = A k i := fun k i h h' => ch_k k i h h'
  have hi : ∀ a k, a ≠ aRg x → mi (setI (setI (setI μ (aRg x) 2 (iv 4)) (aRg x) 4 (iv 0)) (aRg x) 5 (iv 0)) a k = mi μ a k := fun a k h => by rw [mi_ne (fun w => h w.1), mi_ne (fun w => h w.1), mi_ne (fun w => h w.1)]
  have h1 : ∀ k, mi (setI (setI (setI μ (aRg x) 2 (iv 4)) (aRg x) 4 (iv 0)) (aRg x) 5 (iv 0)) 1 k = mi μ 1 k := fun k => hi 1 k (fun w => aRg_f (by decide) w.symm)
  refine reg_CR hc (fun k i k3 k4 k5 k18 k19 => e k i k3 k5) ?_ ?_ ?_ (C7.cg (C7.I (C7.I (C7.I hc.2.2.2.2.2.2.1))) (e 1 0 (by decide) (by decide)) (fun o => e 7 o (by decide) (by decide)) (fun o => e 8 o (by decide) (by decide))) (fun _ => rfl) (fun a k h1 h2 => ?_) (fun _ _ _ _ => rfl)
  · have h2 := hc.2.1
    unfold C2 at *
    simp only [h1, e 2 _ (by decide) (by decide), e 18 _ (by decide) (by decide), e 19 _ (by decide) (by decide), e 20 _ (by decide) (by decide), e 21 _ (by decide) (by decide)]
    exact h2
  · have h4 := hc.2.2.2.1
    have k1 : ∀ st : Int, st ≠ 3 → st ≠ 4 → rWith (up (up A 5 x 0) 3 x 4) st = rWith A st := fun st n3 n4 => rWith_cg3 (e 1 0 (by decide) (by decide)) (fun r _ => by
      rw [ch_3]
      by_cases w : r = x
      · rw [if_pos w, w, h3]; omega
      · rw [if_neg w])
    unfold C4 at *
    rw [k1 1 (by decide) (by decide), k1 2 (by decide) (by decide)]
    exact h4
  · refine C6.at (x := x) hc.2.2.2.2.2.1 (e 1 0 (by decide) (by decide)) (e 6 0 (by decide) (by decide)) (fun r w => by rw [ch_3, if_neg w]) (fun r _ => e 4 r (by decide) (by decide)) (fun r w => by rw [ch_5, if_neg w]) (fun o => e 7 o (by decide) (by decide)) (fun o => e 8 o (by decide) (by decide)) (fun o => e 12 o (by decide) (by decide)) (fun o => e 13 o (by decide) (by decide)) (fun r k w => hi _ k (fun q => w (aRg_inj q))) (fun hx => ?_)
    obtain ⟨a, b, -⟩ := hc.2.2.2.2.2.1 x hx
    refine ⟨?_, ?_, ⟨0, ?_, Or.inl rfl, fun _ => ?_⟩, 0, ?_, by omega, by omega, fun _ o _ _ _ => (hI.b8 o).1⟩
    · rw [mi_ne (by omega), mi_ne (by omega), mi_eq, ch_3, if_pos rfl]
    · rw [mi_ne (by omega), mi_ne (by omega), mi_ne (by omega), e 4 _ (by decide) (by decide)]; exact b
    · rw [mi_eq]
    · rw [ch_5, if_pos rfl]
    · rw [mi_ne (by omega), mi_eq]
  · by_cases w : a = aRg x
    · rw [h2 x w, mi_ne (by omega), mi_ne (by omega), mi_ne (by omega)]
    · exact hi a k w
theorem ph_CR {A : rS} {P : Nat → Prop} {cy v : Int} {μ : mM} (hc : CR A P cy μ) : CR (up A 18 0 v) P cy (setI μ 1 3 (iv v)) := by
  have e : ∀ k i, k ≠ 18 → up A 18 0 v k i = A k i := fun k i h => up_k _ _ h
  refine reg_CR hc (fun k i _ _ _ k18 _ => e k i k18) ?_ (C4.cg (C4.I hc.2.2.2.1) (e 1 0 (by decide)) (fun r => e 3 r (by decide))) (C6.cg (A := A) (C6.I hc.2.2.2.2.2.1 (fun r q => aRg_f (by decide) q.symm)) (e 1 0 (by decide)) (fun r => e 3 r (by decide)) (fun r => e 4 r (by decide)) (fun r => e 5 r (by decide)) (e 6 0 (by decide)) (fun r => e 7 r (by decide)) (fun r => e 8 r (by decide)) (fun r => e 12 r (by decide)) (fun r => e 13 r (by decide))) (C7.cg (C7.I hc.2.2.2.2.2.2.1) (e 1 0 (by decide)) (fun o => e 7 o (by decide)) (fun o => e 8 o (by decide))) (fun _ => rfl) (fun a k h1 h2 => mi_ne (fun w => h1 w.1)) (fun _ _ _ _ => rfl)
  obtain ⟨a1, a2, a3, a4, a5, a6⟩ := hc.2.1
  refine ⟨?_, ?_, ?_, ?_, ?_, ?_⟩
  · rw [mi_ne (by omega), e 2 0 (by decide)]; exact a1
  · rw [mi_eq, up_s]
  · rw [mi_ne (by omega)]; exact a3
  · rw [mi_ne (by omega), e 19 0 (by decide)]; exact a4
  · rw [mi_ne (by omega), e 20 0 (by decide)]; exact a5
  · rw [mi_ne (by omega), e 21 0 (by decide)]; exact a6
theorem st0_34 {A : rS} {P G : Nat → Prop} (hK : KK A P G) (h18 : A 18 0 = 0) : ∀ r : Nat, r < RN (rSt0 A) → rSt0 A 3 r ≠ 4 := by
  have e : ∀ k i, k ≠ 12 → k ≠ 13 → k ≠ 16 → k ≠ 17 → k ≠ 18 → rSt0 A k i = A k i := fun k i k1 k2 k3 k4 k5 => by unfold rSt0; rw [up_k _ _ k5, up_k _ _ k4, up_k _ _ k3, rClr_k _ _ _ _ _ k1 k2]
  intro r hr
  unfold RN at hr
  rw [e 1 0 (by decide) (by decide) (by decide) (by decide) (by decide)] at hr
  rw [e 3 r (by decide) (by decide) (by decide) (by decide) (by decide)]
  exact (hK.2.2.2.1.2.2.1 (by omega) r (by omega)).2
theorem KK.n4 {A : rS} {P G : Nat → Prop} (hK : KK A P G) (h18 : A 18 0 ≤ 1) : ∀ r : Nat, r < RN A → A 3 r ≠ 4 := fun r hr => (hK.2.2.2.1.2.2.1 h18 r (by unfold RN at hr; omega)).2
end
section
/-! the collector marks (printed by wip/tools/cls3.py) -/
set_option maxHeartbeats 4000000 in
theorem k_X0_see_n {G : mG} {l : Launch} {z : Nat} {ρ : Nat → Nat} {μ : mM} : MZ G l yX0_see cX0_see 2 none 0 0 z ρ [.ref (ρ 1), .null] μ (cP none μ z) := by
  refine MZ.of (by decide) (by simp [Value.category]) (Nat.le_of_ble_eq_true rfl) (Nat.le_of_ble_eq_true rfl) ?_
  intro p e s m args below meth c ls H locs hC hx hb hr hlk X hL
  refine m_aload_nq (x := none) hx hb hL dX0_see_0 rfl ?_
  refine lv_ifnullN (tgt := 31) hx hb dX0_see_1 (by decide) ?_
  exact m_vret hC X hr hlk ⟨rfl, rfl, rfl⟩ dX0_see_31

set_option maxHeartbeats 4000000 in
theorem k_X0_see_s {G : mG} {l : Launch} {z : Nat} {ρ : Nat → Nat} {μ : mM} {A : rS} {P : Nat → Prop} {cy : Int} {o : Nat} (hc : CR A P cy μ) (hI : RI A) (hR : Rw A) (ho : o < nn A) (h34 : ∀ r : Nat, r < RN A → A 3 r ≠ 4) : MZ G l yX0_see cX0_see 2 none 1 21 z ρ [.ref (ρ 1), .ref (ρ (aOb o))] μ (cR none (rSee A (o : Int)) P cy μ z) := by
  refine MZ.of (by decide) (by simp [Value.category]) (Nat.le_of_ble_eq_true rfl) (Nat.le_of_ble_eq_true rfl) ?_
  intro p e s m args below meth c ls H locs hC hx hb hr hlk X hL
  obtain ⟨h1, h2, h3, h4, h5, h6, h7, h8, hcy0, hcy1⟩ := id hc
  obtain ⟨⟨f00, f01, f02⟩, ⟨f10, f11, f12⟩, ⟨f20, f21, f22⟩, ⟨f30, f40, f50⟩, frr, foo⟩ := id h1
  obtain ⟨g1, g3, g4, g5, g6, g7⟩ := id h2
  obtain ⟨o1, o2, o3, o4⟩ := foo o ho
  obtain ⟨oh, oo, ⟨ov, os, osa, osb, osc⟩, ⟨ow, of, ofa, ofb, ofc⟩, oz⟩ := h8 o ho
  refine m_aload_n hx hb hL dX0_see_0 rfl ?_
  refine lv_ifnull hx hb dX0_see_1 ?_
  refine m_aload_n hx hb hL dX0_see_4 rfl ?_
  refine c_geti (x := ov) hC X FX0_61 o1 rfl os dX0_see_5 ?_
  refine m_aload_n hx hb hL dX0_see_8 rfl ?_
  refine c_geti (x := cy) hC X FX0_34 f10 rfl g4 dX0_see_9 ?_
  refine m_icmp_eq (tgt := 31) hx hb dX0_see_12 (by decide) (by omega) (by omega) (fun c12 => ?_) (fun c12 => ?_)
  · exact m_vret hC X hr hlk ⟨rfl, rfl, by rw [rSee_n (Or.inr (by have := osc.mp c12; simp only [Int.toNat_natCast]; omega))]; exact hc, cfr.rf μ⟩ dX0_see_31
  · refine m_aload_n hx hb hL dX0_see_15 rfl ?_
    refine m_aload_n hx hb hL dX0_see_16 rfl ?_
    refine c_geti (x := cy) hC X FX0_34 f10 rfl g4 dX0_see_17 ?_
    refine c_puti (x := cy) hC X FwX0_61 o1 rfl dX0_see_20 (fun H locs X => ?_)
    refine m_aload_n hx hb hL dX0_see_23 rfl ?_
    refine m_getr (b := 3) hC X FX0_27 f10 rfl (by rw [mq_I]; exact f12) dX0_see_24 ?_
    refine m_aload_n hx hb hL dX0_see_27 rfl ?_
    have hb12 := hI.b12 o
    have h12 : A 12 o = 0 := by have := fun q => c12 (osc.mpr q); omega
    have hb17 := hI.b17 0
    have hb16 := hI.b16 0
    by_cases he : A 16 0 < A 17 0
    · have hrow := (hR.2.1 (A 17 0 - 1).toNat (by omega)).1
      have hb15 := hI.b15 (A 17 0 - 1).toNat
      have hob := (foo (A 15 (A 17 0 - 1).toNat).toNat (by unfold nn; omega)).1
      refine c_callV hC X (k_X4_append_s (q := aOb (A 15 (A 17 0 - 1).toNat).toNat) (n := A 17 0 - A 16 0) f30 o1 hob (by rw [mq_I, h5.2.1, if_pos he]) (by rw [mi_ne (fun w => aOb_f (by decide) w.1.symm)]; exact h5.2.2.1)) VX0_73 f30 rfl ⟨by decide, by decide⟩ ⟨by decide, by decide⟩ hL.1 rfl (Nat.le_of_ble_eq_true rfl) dX0_see_28 (fun v28 μ28 z28 H locs hp X => ?_)
      obtain ⟨rfl, hm_, hz_⟩ := hp
      have hm_ := hm_.symm
      have hz_ := hz_.symm
      subst hm_
      subst hz_
      exact m_vret hC X hr hlk ⟨rfl, rfl, see_CRs hI hR hc ho h12 h34 he, ((((cfr.rf μ).I (cad_o o) 4 _).Q (cad_o _) 6 _).Q (cad_f (by decide)) 1 _).I (cad_f (by decide)) 2 _⟩ dX0_see_31
    · refine c_callV hC X (k_X4_append_n (n := A 17 0 - A 16 0) f30 o1 (by rw [mq_I, h5.2.1, if_neg he]) (by rw [mi_ne (fun w => aOb_f (by decide) w.1.symm)]; exact h5.2.2.1)) VX0_73 f30 rfl ⟨by decide, by decide⟩ ⟨by decide, by decide⟩ hL.1 rfl (Nat.le_of_ble_eq_true rfl) dX0_see_28 (fun v28 μ28 z28 H locs hp X => ?_)
      obtain ⟨rfl, hm_, hz_⟩ := hp
      have hm_ := hm_.symm
      have hz_ := hz_.symm
      subst hm_
      subst hz_
      exact m_vret hC X hr hlk ⟨rfl, rfl, see_CRn hI hR hc ho h12 h34 he, ((((cfr.rf μ).I (cad_o o) 4 _).Q (cad_f (by decide)) 0 _).Q (cad_f (by decide)) 1 _).I (cad_f (by decide)) 2 _⟩ dX0_see_31

set_option maxHeartbeats 4000000 in
theorem k_X0_startCycle {G : mG} {l : Launch} {z : Nat} {ρ : Nat → Nat} {μ : mM} {A : rS} {P Gs : Nat → Prop} {cy : Int} (hc : CR A P cy μ) (hK : KK A P Gs) (h18 : A 18 0 = 0) (hcy : cy < 2000) : MZ G l yX0_startCycle cX0_startCycle 5 none 2 42 z ρ [.ref (ρ 1)] μ (cR none (rStart A) P (cy + 1) μ z) := by
  refine MZ.of (by decide) (by simp [Value.category]) (Nat.le_of_ble_eq_true rfl) (Nat.le_of_ble_eq_true rfl) ?_
  intro p e s m args below meth c ls H locs hC hx hb hr hlk X hL
  obtain ⟨h1, h2, h3, h4, h5, h6, h7, h8, hcy0, hcy1⟩ := id hc
  obtain ⟨⟨f00, f01, f02⟩, ⟨f10, f11, f12⟩, ⟨f20, f21, f22⟩, ⟨f30, f40, f50⟩, frr, foo⟩ := id h1
  obtain ⟨g1, g3, g4, g5, g6, g7⟩ := id h2
  refine m_aload_n hx hb hL dX0_startCycle_0 rfl ?_
  refine lv_iconst (v := iv 1) hx hb dX0_startCycle_1 rfl ?_
  refine c_puti (x := 1) hC X FwX0_31 f10 rfl dX0_startCycle_2 (fun H locs X => ?_)
  refine m_aload_n hx hb hL dX0_startCycle_5 rfl ?_
  refine lv_dup hx hb dX0_startCycle_6 rfl ?_
  refine c_geti (x := cy) hC X FX0_34 f10 rfl (by rw [mi_I, if_neg (fun q => absurd q.2 (by decide))]; exact g4) dX0_startCycle_7 ?_
  refine lv_iconst (v := iv 1) hx hb dX0_startCycle_10 rfl ?_
  refine m_iadd hx hb dX0_startCycle_11 ?_
  refine c_puti (x := (cy + 1)) hC X FwX0_34 f10 rfl dX0_startCycle_12 (fun H locs X => ?_)
  refine m_aload_n hx hb hL dX0_startCycle_15 rfl ?_
  refine m_getr (b := 2) hC X FX0_14 f10 rfl (by rw [mq_I, mq_I]; exact f11) dX0_startCycle_16 ?_
  refine m_getr (b := 4) hC X FX0_37 f20 rfl (by rw [mq_I, mq_I]; exact f21) dX0_startCycle_19 ?_
  refine c_astore_nr hx hb hL dX0_startCycle_22 (Nat.le_of_ble_eq_true rfl) (fun ls hL => ?_)
  refine m_aload_n hx hb hL dX0_startCycle_23 rfl ?_
  refine c_alen hC X f40 (by decide) dX0_startCycle_24 ?_
  refine m_istore_n hx hb hL dX0_startCycle_25 (Nat.le_of_ble_eq_true rfl) (fun ls hL => ?_)
  refine lv_iconst (v := iv 0) hx hb dX0_startCycle_26 rfl ?_
  refine m_istore_n hx hb hL dX0_startCycle_27 (Nat.le_of_ble_eq_true rfl) (fun ls hL => ?_)
  have lp : ∀ (f : Nat) (B : rS) (i : Int) (μ1 : mM) (H : Heap) (locs : List Loc) (ls : Array Slot), CR B P (cy + 1) μ1 → KM B P (rch A) (GE B i) → (∀ r : Nat, r < RN B → B 3 r ≠ 4) → 0 ≤ i ∧ i ≤ 10 → (f : Int) + i = 20 → rStart A = rSeeR f i B → cfr μ μ1 → mX G ρ (mA ρ μ z) s.heap μ1 z H locs → lq ls [some (.ref (ρ 1)), some (.ref (ρ 4)), some (.int (iv ((10 : Nat) : Int))), some (.int (iv i)), none] → W p l e (rm 2 42 0 0) s m args below meth c H locs 0 0 (wQ G ρ μ z (cR none (rStart A) P (cy + 1) μ z) below args s 0 0) (F0 m 28 ls []) := by
    intro f
    induction f with
    | zero =>
      intro B i μ1 H locs ls hc hM h34 h0 hf1 hv hfr X hL
      omega
    | succ f ih =>
      intro B i μ1 H locs ls hc hM h34 h0 hf1 hv hfr X hL
      obtain ⟨h1, h2, h3, h4, h5, h6, h7, h8, hcy0, hcy1⟩ := id hc
      obtain ⟨⟨f00, f01, f02⟩, ⟨f10, f11, f12⟩, ⟨f20, f21, f22⟩, ⟨f30, f40, f50⟩, frr, foo⟩ := id h1
      obtain ⟨g1, g3, g4, g5, g6, g7⟩ := id h2
      refine m_iload_n hx hb hL dX0_startCycle_28 rfl ?_
      refine m_iload_n hx hb hL dX0_startCycle_29 rfl ?_
      refine m_icmp_ge (tgt := 50) hx hb dX0_startCycle_30 (by decide) (by omega) (by omega) (fun c30 => ?_) (fun c30 => ?_)
      · exact m_vret hC X hr hlk ⟨rfl, rfl, by rw [hv, rSeeR, if_pos (by omega)]; exact hc, hfr⟩ dX0_startCycle_50
      · refine m_aload_n hx hb hL dX0_startCycle_33 rfl ?_
        refine m_iload_n hx hb hL dX0_startCycle_34 rfl ?_
        have hop := h3 (i : Int).toNat (by omega)
        by_cases hreg : B 14 (i : Int).toNat = -1
        · rw [hreg, oref_n] at hop
          refine c_aaldn (x := i) hC X f40 (Or.inl rfl) (by omega) (by omega) (by omega) hop dX0_startCycle_35 ?_
          refine c_astoren hx hb hL dX0_startCycle_36 (Nat.le_of_ble_eq_true rfl) (fun ls hL => ?_)
          refine m_aload_n hx hb hL dX0_startCycle_38 rfl ?_
          refine m_aloadq (x := none) hx hb hL dX0_startCycle_39 rfl ?_
          refine c_callV hC X (k_X0_see_n) VX0_41 f10 rfl ⟨by decide, by decide⟩ ⟨by decide, by decide⟩ hL.1 rfl (Nat.le_of_ble_eq_true rfl) dX0_startCycle_41 (fun v41 μ41 z41 H locs hp X => ?_)
          obtain ⟨rfl, hm_, hz_⟩ := hp
          have hm_ := hm_.symm
          have hz_ := hz_.symm
          subst hm_
          subst hz_
          refine m_iincv hx hb hL dX0_startCycle_44 rfl (fun ls hL => ?_)
          refine lv_goto (tgt := 28) hx hb dX0_startCycle_47 (by decide) ?_
          exact ih _ (i + 1) _ _ _ ls hc (by have q := seeR_step (x := i) ⟨by omega, by omega⟩ hM; rw [rSee_n (Or.inl hreg)] at q; exact q) h34 ⟨by omega, by omega⟩ (by omega) (by rw [hv, rSeeR, if_neg (by omega), rSee_n (Or.inl hreg)]) hfr X (lq_none 4 hL)
        · rw [oref_s hreg] at hop
          refine c_aaldr (x := i) hC X f40 (Or.inl rfl) (by omega) (by omega) (by omega) hop dX0_startCycle_35 ?_
          refine c_astorer hx hb hL dX0_startCycle_36 (Nat.le_of_ble_eq_true rfl) (fun ls hL => ?_)
          refine m_aload_n hx hb hL dX0_startCycle_38 rfl ?_
          refine m_aload hx hb hL dX0_startCycle_39 rfl ?_
          have hvb := And.intro (hM.1.1.b14 (i : Int).toNat) (hM.1.2.2.2.1 (i : Int).toNat (by omega))
          refine c_callV hC X (k_X0_see_s (o := (B 14 (i : Int).toNat).toNat) hc hM.1.1 hM.2.1 (by unfold nn; omega) h34) VX0_41 f10 rfl ⟨by decide, by decide⟩ ⟨by decide, by decide⟩ hL.1 rfl (Nat.le_of_ble_eq_true rfl) dX0_startCycle_41 (fun v41 μ41 z41 H locs hp X => ?_)
          obtain ⟨rfl, hz_, hc2, hf2⟩ := hp
          have hz_ := hz_.symm
          subst hz_
          rw [show (((B 14 (i : Int).toNat).toNat : Nat) : Int) = B 14 (i : Int).toNat by omega] at hc2
          refine m_iincv hx hb hL dX0_startCycle_44 rfl (fun ls hL => ?_)
          refine lv_goto (tgt := 28) hx hb dX0_startCycle_47 (by decide) ?_
          exact ih _ (i + 1) _ _ _ ls hc2 (seeR_step (x := i) ⟨by omega, by omega⟩ hM) (fun r hr => by rw [see_k 3 r (by decide) (by decide) (by decide)]; exact h34 r (by unfold RN at hr ⊢; rw [see_k 1 0 (by decide) (by decide) (by decide)] at hr; exact hr)) ⟨by omega, by omega⟩ (by omega) (by rw [hv, rSeeR, if_neg (by omega)]) (hfr.tr hf2) X (lq_none 4 hL)
  exact lp 20 (rSt0 A) 0 _ _ _ ls (start_CR hc hK h18 hcy) (st0_KM hK) (st0_34 hK h18) ⟨by omega, by omega⟩ (by omega) (start_eq A) (((cfr.rf μ).I (cad_f (by decide)) 3 _).I (cad_f (by decide)) 4 _) X hL

set_option maxHeartbeats 4000000 in
theorem k_X0_chooseSet {G : mG} {l : Launch} {z : Nat} {ρ : Nat → Nat} {μ : mM} {A : rS} {P Gs : Nat → Prop} {cy : Int} (hc : CR A P cy μ) (hK : KK A P Gs) (h34 : ∀ r : Nat, r < RN A → A 3 r ≠ 4) : MZ G l yX0_chooseSet cX0_chooseSet 5 none 2 44 z ρ [.ref (ρ 1)] μ (cR none (rChoose 20 0 A) P cy μ z) := by
  refine MZ.of (by decide) (by simp [Value.category]) (Nat.le_of_ble_eq_true rfl) (Nat.le_of_ble_eq_true rfl) ?_
  intro p e s m args below meth c ls H locs hC hx hb hr hlk X hL
  obtain ⟨h1, h2, h3, h4, h5, h6, h7, h8, hcy0, hcy1⟩ := id hc
  obtain ⟨⟨f00, f01, f02⟩, ⟨f10, f11, f12⟩, ⟨f20, f21, f22⟩, ⟨f30, f40, f50⟩, frr, foo⟩ := id h1
  obtain ⟨g1, g3, g4, g5, g6, g7⟩ := id h2
  have b1A := hK.1.1.b1 0
  have hRN : ((RN A : Nat) : Int) = A 1 0 := by unfold RN; omega
  refine m_aload_n hx hb hL dX0_chooseSet_0 rfl ?_
  refine m_getr (b := 2) hC X FX0_14 f10 rfl f11 dX0_chooseSet_1 ?_
  refine m_getr (b := 5) hC X FX0_86 f20 rfl f22 dX0_chooseSet_4 ?_
  refine c_astore_nr hx hb hL dX0_chooseSet_7 (Nat.le_of_ble_eq_true rfl) (fun ls hL => ?_)
  refine m_aload_n hx hb hL dX0_chooseSet_8 rfl ?_
  refine c_alen hC X f50 (by decide) dX0_chooseSet_9 ?_
  refine m_istore_n hx hb hL dX0_chooseSet_10 (Nat.le_of_ble_eq_true rfl) (fun ls hL => ?_)
  refine lv_iconst (v := iv 0) hx hb dX0_chooseSet_11 rfl ?_
  refine m_istore_n hx hb hL dX0_chooseSet_12 (Nat.le_of_ble_eq_true rfl) (fun ls hL => ?_)
  have lp : ∀ (f : Nat) (B : rS) (i : Int) (μ1 : mM) (H : Heap) (locs : List Loc) (ls : Array Slot), CR B P cy μ1 → (Vd B ∧ Sg B ∧ Pl B P) → (∀ r : Nat, i ≤ (r : Int) → (r : Int) < A 1 0 → B 3 r ≠ 4) → 0 ≤ i ∧ i ≤ A 1 0 → (f : Int) + i = 20 → rChoose 20 0 A = rChoose f i B → cfr μ μ1 → B 1 0 = A 1 0 → mX G ρ (mA ρ μ z) s.heap μ1 z H locs → lq ls [some (.ref (ρ 1)), some (.ref (ρ 5)), some (.int (iv ((RN A : Nat) : Int))), some (.int (iv i)), none] → W p l e (rm 2 44 0 0) s m args below meth c H locs 0 0 (wQ G ρ μ z (cR none (rChoose 20 0 A) P cy μ z) below args s 0 0) (F0 m 13 ls []) := by
    intro f
    induction f with
    | zero =>
      intro B i μ1 H locs ls hc hS h34 h0 hf1 hv hfr h1A X hL
      omega
    | succ f ih =>
      intro B i μ1 H locs ls hc hS h34 h0 hf1 hv hfr h1A X hL
      obtain ⟨h1, h2, h3, h4, h5, h6, h7, h8, hcy0, hcy1⟩ := id hc
      obtain ⟨⟨f00, f01, f02⟩, ⟨f10, f11, f12⟩, ⟨f20, f21, f22⟩, ⟨f30, f40, f50⟩, frr, foo⟩ := id h1
      obtain ⟨g1, g3, g4, g5, g6, g7⟩ := id h2
      have hei : ((i.toNat : Nat) : Int) = i := by omega
      refine m_iload_n hx hb hL dX0_chooseSet_13 rfl ?_
      refine m_iload_n hx hb hL dX0_chooseSet_14 rfl ?_
      refine m_icmp_ge (tgt := 65) hx hb dX0_chooseSet_15 (by decide) (by omega) (by omega) (fun c15 => ?_) (fun c15 => ?_)
      · exact m_vret hC X hr hlk ⟨rfl, rfl, by rw [hv, rChoose, if_pos (by omega)]; exact hc, hfr⟩ dX0_chooseSet_65
      · refine m_aload_n hx hb hL dX0_chooseSet_18 rfl ?_
        refine m_iload_n hx hb hL dX0_chooseSet_19 rfl ?_
        have b1 := hS.1.1.b1 0
        have hRB : ((RN B : Nat) : Int) = B 1 0 := by unfold RN; omega
        have hrn : i.toNat < RN B := by omega
        obtain ⟨r1, r2, r3, r4, r5⟩ := frr i.toNat hrn
        obtain ⟨rk, ru, ⟨rq, re, rea, reb⟩, rp, rd, rda, rdb, rdc⟩ := h6 i.toNat hrn
        have rkb := hS.1.1.b3 i.toNat
        have rub := hS.1.1.b4 i.toNat
        have rsb := rSeenIn_b hS.1.1 ((i.toNat : Nat) : Int)
        have rtb := hS.1.1.b2 0
        have hn4 := h34 i.toNat (by omega) (by omega)
        refine c_aaldr (x := i) hC X f50 (Or.inr rfl) (by omega) (by omega) (by omega) r1 dX0_chooseSet_20 ?_
        refine c_astorer hx hb hL dX0_chooseSet_21 (Nat.le_of_ble_eq_true rfl) (fun ls hL => ?_)
        refine m_aload hx hb hL dX0_chooseSet_23 rfl ?_
        refine c_geti (x := (B 3 i.toNat)) hC X FX0_90 r2 rfl rk dX0_chooseSet_25 ?_
        refine lv_iconst (v := iv 3) hx hb dX0_chooseSet_28 rfl ?_
        refine m_icmp_ne (tgt := 59) hx hb dX0_chooseSet_29 (by decide) (by omega) (by omega) (fun c29 => ?_) (fun c29 => ?_)
        · refine m_iincv hx hb hL dX0_chooseSet_59 rfl (fun ls hL => ?_)
          refine lv_goto (tgt := 13) hx hb dX0_chooseSet_62 (by decide) ?_
          exact ih _ (i + 1) _ _ _ ls (chS_CRn (x := i.toNat) hc hn4) (ch_VSP hS (Or.inl rfl)) (fun r hr hr2 => by rw [ch_3, if_neg (by omega)]; exact h34 r (by omega) hr2) ⟨by omega, by omega⟩ (by omega) (by rw [hv, choose_s (by omega), chS_n (fun q => by have q2 := q.2; rw [← hei] at q2; simp only [Int.toNat_natCast] at q2; omega)]) hfr (by rw [ch_k 1 0 (by decide) (by decide)]; exact h1A) X (lq_none 4 hL)
        · refine m_aload hx hb hL dX0_chooseSet_32 rfl ?_
          refine c_geti (x := (B 4 i.toNat)) hC X FX0_95 r2 rfl ru dX0_chooseSet_34 ?_
          refine m_aload hx hb hL dX0_chooseSet_37 rfl ?_
          refine m_aload_n hx hb hL dX0_chooseSet_39 rfl ?_
          refine c_geti (x := cy) hC X FX0_34 f10 rfl g4 dX0_chooseSet_40 ?_
          refine c_callV hC X (k_X3_seenWords (r := i.toNat) hc hS.1 hS.2.1 hS.2.2 hrn) VX0_98 r2 rfl ⟨by decide, by decide⟩ ⟨by decide, by decide⟩ hL.1 rfl (Nat.le_of_ble_eq_true rfl) dX0_chooseSet_43 (fun v43 μ43 z43 H locs hp X => ?_)
          obtain ⟨rfl, hm_, hz_⟩ := hp
          have hm_ := hm_.symm
          have hz_ := hz_.symm
          subst hm_
          subst hz_
          refine m_isub hx hb dX0_chooseSet_46 ?_
          refine m_aload_n hx hb hL dX0_chooseSet_47 rfl ?_
          refine c_geti (x := (B 2 0)) hC X FX0_20 f10 rfl g1 dX0_chooseSet_48 ?_
          refine m_icmp_le (tgt := 59) hx hb dX0_chooseSet_51 (by decide) (by omega) (by omega) (fun c51 => ?_) (fun c51 => ?_)
          · refine m_iincv hx hb hL dX0_chooseSet_59 rfl (fun ls hL => ?_)
            refine lv_goto (tgt := 13) hx hb dX0_chooseSet_62 (by decide) ?_
            exact ih _ (i + 1) _ _ _ ls (chS_CRn (x := i.toNat) hc hn4) (ch_VSP hS (Or.inl rfl)) (fun r hr hr2 => by rw [ch_3, if_neg (by omega)]; exact h34 r (by omega) hr2) ⟨by omega, by omega⟩ (by omega) (by rw [hv, choose_s (by omega), chS_n (fun q => by have q2 := q.2; rw [← hei] at q2; simp only [Int.toNat_natCast] at q2; omega)]) hfr (by rw [ch_k 1 0 (by decide) (by decide)]; exact h1A) X (lq_none 4 hL)
          · refine m_aload hx hb hL dX0_chooseSet_54 rfl ?_
            refine c_callV hC X (k_X3_enterSet r2) VX0_102 r2 rfl ⟨by decide, by decide⟩ ⟨by decide, by decide⟩ hL.1 rfl (Nat.le_of_ble_eq_true rfl) dX0_chooseSet_56 (fun v56 μ56 z56 H locs hp X => ?_)
            obtain ⟨rfl, hm_, hz_⟩ := hp
            have hm_ := hm_.symm
            have hz_ := hz_.symm
            subst hm_
            subst hz_
            refine m_iincv hx hb hL dX0_chooseSet_59 rfl (fun ls hL => ?_)
            refine lv_goto (tgt := 13) hx hb dX0_chooseSet_62 (by decide) ?_
            exact ih _ (i + 1) _ _ _ ls (chS_CRs hS.1.1 hc (by omega)) (ch_VSP hS (Or.inr ⟨by omega, rfl⟩)) (fun r hr hr2 => by rw [ch_3, if_neg (by omega)]; exact h34 r (by omega) hr2) ⟨by omega, by omega⟩ (by omega) (by rw [hv, choose_s (by omega), chS_s ⟨by omega, by rw [← hei]; simp only [Int.toNat_natCast]; omega⟩]) (((hfr.I (cad_r _) 2 _).I (cad_r _) 4 _).I (cad_r _) 5 _) (by rw [ch_k 1 0 (by decide) (by decide)]; exact h1A) X (lq_none 4 hL)
  exact lp 20 A 0 _ _ _ ls hc ⟨hK.1, hK.2.2.1, hK.2.2.2.2.1⟩ (fun r _ hr => h34 r (by omega)) ⟨by omega, by omega⟩ (by omega) rfl (cfr.rf μ) rfl X hL

set_option maxHeartbeats 4000000 in
theorem k_X0_markNext {G : mG} {l : Launch} {z : Nat} {ρ : Nat → Nat} {μ : mM} {A : rS} {P Gs : Nat → Prop} {cy : Int} (hc : CR A P cy μ) (hK : KK A P Gs) (h18 : A 18 0 = 1) : MZ G l yX0_markNext cX0_markNext 6 none 3 68 z ρ [.ref (ρ 1)] μ (cR none (rMark A) P cy μ z) := by
  refine MZ.of (by decide) (by simp [Value.category]) (Nat.le_of_ble_eq_true rfl) (Nat.le_of_ble_eq_true rfl) ?_
  intro p e s m args below meth c ls H locs hC hx hb hr hlk X hL
  obtain ⟨h1, h2, h3, h4, h5, h6, h7, h8, hcy0, hcy1⟩ := id hc
  obtain ⟨⟨f00, f01, f02⟩, ⟨f10, f11, f12⟩, ⟨f20, f21, f22⟩, ⟨f30, f40, f50⟩, frr, foo⟩ := id h1
  obtain ⟨g1, g3, g4, g5, g6, g7⟩ := id h2
  refine m_aload_n hx hb hL dX0_markNext_0 rfl ?_
  refine m_getr (b := 3) hC X FX0_27 f10 rfl f12 dX0_markNext_1 ?_
  by_cases he0 : A 16 0 < A 17 0
  · have hM0 := pop_KM (KM.of hK h18) he0
    have b16 := hK.1.1.b16 0
    have b17 := hK.1.1.b17 0
    obtain ⟨oo, hoo⟩ : ∃ oo : Nat, A 15 (A 16 0).toNat = (oo : Int) := ⟨_, (Int.toNat_of_nonneg hM0.2.1).symm⟩
    have hon : oo < nn A := by have := (hK.2.1.2.1 (A 16 0).toNat (by omega)).1; unfold nn; omega
    have heo : (A 15 (A 16 0).toNat).toNat = oo := by omega
    have hob := (foo oo hon).1
    have hfi : mq μ 3 0 = some (aOb oo) := by rw [h5.1, if_pos he0, heo]
    by_cases he1 : A 16 0 + 1 < A 17 0
    · have hx6 := h5.2.2.2.1 (A 16 0).toNat (by omega) (by omega)
      rw [heo] at hx6
      have b15 := hK.1.1.b15 ((A 16 0).toNat + 1)
      have hob2 := (foo (A 15 ((A 16 0).toNat + 1)).toNat (by have := (hK.2.1.2.1 ((A 16 0).toNat + 1) (by omega)).1; unfold nn; omega)).1
      refine c_callV hC X (k_X4_takeFirst_m (o := aOb oo) f30 hob hob2 hfi hx6 h5.2.2.1) VX0_76 f30 rfl ⟨by decide, by decide⟩ ⟨by decide, by decide⟩ hL.1 rfl (Nat.le_of_ble_eq_true rfl) dX0_markNext_4 (fun v4 μ4 z4 H locs hp X => ?_)
      obtain ⟨rfl, hm_, hz_⟩ := hp
      have hz_ := hz_.symm
      subst hz_
      have hfr : cfr μ μ4 := by rw [hm_]; exact ((((cfr.rf μ).Q (cad_f (by decide)) 0 _).Q (cad_o oo) 6 _).I (cad_f (by decide)) 2 _)
      have hc := pop_CRm hK.1.1 hK.2.1 hc he1
      rw [heo, ← hm_] at hc
      obtain ⟨h1, h2, h3, h4, h5, h6, h7, h8, hcy0, hcy1⟩ := id hc
      obtain ⟨⟨f00, f01, f02⟩, ⟨f10, f11, f12⟩, ⟨f20, f21, f22⟩, ⟨f30, f40, f50⟩, frr, foo⟩ := id h1
      obtain ⟨g1, g3, g4, g5, g6, g7⟩ := id h2
      have hM0a := hM0.1
      have hM0g := hM0.2.2
      rw [heo] at hM0a hM0g
      obtain ⟨q1, q2, q3, q4⟩ := foo oo hon
      have q3 : sh μ4 (aFd oo) = some (.inr (3, (A 9 oo - 2).toNat)) := q3
      have ho9 := (hK.1.2.1 oo hon).1
      have hb9 := hK.1.1.b9 oo
      refine c_astore_nr hx hb hL dX0_markNext_7 (Nat.le_of_ble_eq_true rfl) (fun ls hL => ?_)
      refine m_aload_n hx hb hL dX0_markNext_8 rfl ?_
      refine lv_ifnonnull (tgt := 22) hx hb dX0_markNext_9 (by decide) ?_
      refine m_aload_n hx hb hL dX0_markNext_22 rfl ?_
      refine m_getr (b := aFd oo) hC X FX0_83 q1 rfl q2 dX0_markNext_23 ?_
      refine c_astore_nr hx hb hL dX0_markNext_26 (Nat.le_of_ble_eq_true rfl) (fun ls hL => ?_)
      refine m_aload_n hx hb hL dX0_markNext_27 rfl ?_
      refine c_alen hC X q3 (by decide) dX0_markNext_28 ?_
      refine m_istore_n hx hb hL dX0_markNext_29 (Nat.le_of_ble_eq_true rfl) (fun ls hL => ?_)
      refine lv_iconst (v := iv 0) hx hb dX0_markNext_30 rfl ?_
      refine m_istore hx hb hL dX0_markNext_31 (Nat.le_of_ble_eq_true rfl) (fun ls hL => ?_)
      have lp : ∀ (f : Nat) (B : rS) (i : Int) (μ1 : mM) (H : Heap) (locs : List Loc) (ls : Array Slot), CR B P cy μ1 → KM B P Gs (FE B oo i) → (∀ r : Nat, r < RN B → B 3 r ≠ 4) → 0 ≤ i ∧ i ≤ A 9 oo - 2 → (f : Int) + i = 30 → rMark A = rSeeF (oo : Int) f i B → cfr μ μ1 → B 9 oo = A 9 oo ∧ B 6 0 = A 6 0 → mX G ρ (mA ρ μ z) s.heap μ1 z H locs → lq ls [some (.ref (ρ 1)), some (.ref (ρ (aOb oo))), some (.ref (ρ (aFd oo))), some (.int (iv (((A 9 oo - 2).toNat : Nat) : Int))), some (.int (iv i)), none] → W p l e (rm 3 68 0 0) s m args below meth c H locs 0 0 (wQ G ρ μ z (cR none (rMark A) P cy μ z) below args s 0 0) (F0 m 33 ls []) := by
        intro f
        induction f with
        | zero =>
          intro B i μ1 H locs ls hc hM h34 h0 hf1 hv hfr h9 X hL
          omega
        | succ f ih =>
          intro B i μ1 H locs ls hc hM h34 h0 hf1 hv hfr h9 X hL
          obtain ⟨h1, h2, h3, h4, h5, h6, h7, h8, hcy0, hcy1⟩ := id hc
          obtain ⟨⟨f00, f01, f02⟩, ⟨f10, f11, f12⟩, ⟨f20, f21, f22⟩, ⟨f30, f40, f50⟩, frr, foo⟩ := id h1
          obtain ⟨g1, g3, g4, g5, g6, g7⟩ := id h2
          obtain ⟨q1, q2, q3, q4⟩ := foo oo (by unfold nn at *; omega)
          rw [h9.1] at q3
          obtain ⟨-, -, -, -, ofl⟩ := h8 oo (by unfold nn at *; omega)
          refine m_iload hx hb hL dX0_markNext_33 rfl ?_
          refine m_iload_n hx hb hL dX0_markNext_35 rfl ?_
          refine m_icmp_ge (tgt := 57) hx hb dX0_markNext_36 (by decide) (by omega) (by omega) (fun c36 => ?_) (fun c36 => ?_)
          · exact m_vret hC X hr hlk ⟨rfl, rfl, by rw [hv, rSeeF, if_pos (by simp only [Int.toNat_natCast]; omega)]; exact hc, hfr⟩ dX0_markNext_57
          · refine m_aload_n hx hb hL dX0_markNext_39 rfl ?_
            refine m_iload hx hb hL dX0_markNext_40 rfl ?_
            have hop := ofl (i : Int).toNat (by omega)
            by_cases hreg : B 11 (21 * oo + (i : Int).toNat) = -1
            · rw [hreg, oref_n] at hop
              refine c_aaldn (x := i) hC X q3 (Or.inl rfl) (by omega) (by omega) (by omega) hop dX0_markNext_42 ?_
              refine c_astoren hx hb hL dX0_markNext_43 (Nat.le_of_ble_eq_true rfl) (fun ls hL => ?_)
              refine m_aload_n hx hb hL dX0_markNext_45 rfl ?_
              refine m_aloadq (x := none) hx hb hL dX0_markNext_46 rfl ?_
              refine c_callV hC X (k_X0_see_n) VX0_41 f10 rfl ⟨by decide, by decide⟩ ⟨by decide, by decide⟩ hL.1 rfl (Nat.le_of_ble_eq_true rfl) dX0_markNext_48 (fun v48 μ48 z48 H locs hp X => ?_)
              obtain ⟨rfl, hm_, hz_⟩ := hp
              have hm_ := hm_.symm
              have hz_ := hz_.symm
              subst hm_
              subst hz_
              refine m_iincv hx hb hL dX0_markNext_51 rfl (fun ls hL => ?_)
              refine lv_goto (tgt := 33) hx hb dX0_markNext_54 (by decide) ?_
              exact ih _ (i + 1) _ _ _ ls hc (by have q := seeF_step (o := (oo : Int)) (x := i) (by omega) hM0g ⟨by omega, by simp only [Int.toNat_natCast]; omega⟩ hM; rw [(show (21 * (oo : Int) + i).toNat = 21 * oo + i.toNat by omega), rSee_n (Or.inl hreg)] at q; exact q) h34 ⟨by omega, by omega⟩ (by omega) (by rw [hv, rSeeF, if_neg (by simp only [Int.toNat_natCast]; omega), (show (21 * (oo : Int) + i).toNat = 21 * oo + i.toNat by omega), rSee_n (Or.inl hreg)]) hfr h9 X (lq_none 5 hL)
            · rw [oref_s hreg] at hop
              refine c_aaldr (x := i) hC X q3 (Or.inl rfl) (by omega) (by omega) (by omega) hop dX0_markNext_42 ?_
              refine c_astorer hx hb hL dX0_markNext_43 (Nat.le_of_ble_eq_true rfl) (fun ls hL => ?_)
              refine m_aload_n hx hb hL dX0_markNext_45 rfl ?_
              refine m_aload hx hb hL dX0_markNext_46 rfl ?_
              have hvb := And.intro (hM.1.1.b11 (21 * oo + (i : Int).toNat)) (hM.1.2.2.1 oo (i : Int).toNat (by unfold nn at *; omega) (by omega))
              refine c_callV hC X (k_X0_see_s (o := (B 11 (21 * oo + (i : Int).toNat)).toNat) hc hM.1.1 hM.2.1 (by unfold nn; omega) h34) VX0_41 f10 rfl ⟨by decide, by decide⟩ ⟨by decide, by decide⟩ hL.1 rfl (Nat.le_of_ble_eq_true rfl) dX0_markNext_48 (fun v48 μ48 z48 H locs hp X => ?_)
              obtain ⟨rfl, hz_, hc2, hf2⟩ := hp
              have hz_ := hz_.symm
              subst hz_
              rw [show (((B 11 (21 * oo + (i : Int).toNat)).toNat : Nat) : Int) = B 11 (21 * oo + (i : Int).toNat) by omega] at hc2
              refine m_iincv hx hb hL dX0_markNext_51 rfl (fun ls hL => ?_)
              refine lv_goto (tgt := 33) hx hb dX0_markNext_54 (by decide) ?_
              exact ih _ (i + 1) _ _ _ ls hc2 (by have q := seeF_step (o := (oo : Int)) (x := i) (by omega) hM0g ⟨by omega, by simp only [Int.toNat_natCast]; omega⟩ hM; rw [(show (21 * (oo : Int) + i).toNat = 21 * oo + i.toNat by omega)] at q; exact q) (fun r hr => by rw [see_k 3 r (by decide) (by decide) (by decide)]; exact h34 r (by unfold RN at hr ⊢; rw [see_k 1 0 (by decide) (by decide) (by decide)] at hr; exact hr)) ⟨by omega, by omega⟩ (by omega) (by rw [hv, rSeeF, if_neg (by simp only [Int.toNat_natCast]; omega), (show (21 * (oo : Int) + i).toNat = 21 * oo + i.toNat by omega)]) (hfr.tr hf2) (by rw [see_k 9 _ (by decide) (by decide) (by decide), see_k 6 0 (by decide) (by decide) (by decide)]; exact h9) X (lq_none 5 hL)
      exact lp 30 (up A 16 0 (A 16 0 + 1)) 0 _ _ _ ls hc hM0a (hK.n4 (by omega)) ⟨by omega, by omega⟩ (by omega) (by unfold rMark; rw [if_neg (by omega), hoo]) hfr ⟨rfl, rfl⟩ X hL
    · have hx6 := h5.2.2.2.2 oo hon (fun i i1 i2 => by omega)
      refine c_callV hC X (k_X4_takeFirst_l (o := aOb oo) f30 hob hfi hx6 h5.2.2.1) VX0_76 f30 rfl ⟨by decide, by decide⟩ ⟨by decide, by decide⟩ hL.1 rfl (Nat.le_of_ble_eq_true rfl) dX0_markNext_4 (fun v4 μ4 z4 H locs hp X => ?_)
      obtain ⟨rfl, hm_, hz_⟩ := hp
      have hz_ := hz_.symm
      subst hz_
      have hfr : cfr μ μ4 := by rw [hm_]; exact (((((cfr.rf μ).Q (cad_f (by decide)) 0 _).Q (cad_f (by decide)) 1 _).Q (cad_o oo) 6 _).I (cad_f (by decide)) 2 _)
      have hc := pop_CRl hK.1.1 hc (by omega)
      rw [heo, ← hm_] at hc
      obtain ⟨h1, h2, h3, h4, h5, h6, h7, h8, hcy0, hcy1⟩ := id hc
      obtain ⟨⟨f00, f01, f02⟩, ⟨f10, f11, f12⟩, ⟨f20, f21, f22⟩, ⟨f30, f40, f50⟩, frr, foo⟩ := id h1
      obtain ⟨g1, g3, g4, g5, g6, g7⟩ := id h2
      have hM0a := hM0.1
      have hM0g := hM0.2.2
      rw [heo] at hM0a hM0g
      obtain ⟨q1, q2, q3, q4⟩ := foo oo hon
      have q3 : sh μ4 (aFd oo) = some (.inr (3, (A 9 oo - 2).toNat)) := q3
      have ho9 := (hK.1.2.1 oo hon).1
      have hb9 := hK.1.1.b9 oo
      refine c_astore_nr hx hb hL dX0_markNext_7 (Nat.le_of_ble_eq_true rfl) (fun ls hL => ?_)
      refine m_aload_n hx hb hL dX0_markNext_8 rfl ?_
      refine lv_ifnonnull (tgt := 22) hx hb dX0_markNext_9 (by decide) ?_
      refine m_aload_n hx hb hL dX0_markNext_22 rfl ?_
      refine m_getr (b := aFd oo) hC X FX0_83 q1 rfl q2 dX0_markNext_23 ?_
      refine c_astore_nr hx hb hL dX0_markNext_26 (Nat.le_of_ble_eq_true rfl) (fun ls hL => ?_)
      refine m_aload_n hx hb hL dX0_markNext_27 rfl ?_
      refine c_alen hC X q3 (by decide) dX0_markNext_28 ?_
      refine m_istore_n hx hb hL dX0_markNext_29 (Nat.le_of_ble_eq_true rfl) (fun ls hL => ?_)
      refine lv_iconst (v := iv 0) hx hb dX0_markNext_30 rfl ?_
      refine m_istore hx hb hL dX0_markNext_31 (Nat.le_of_ble_eq_true rfl) (fun ls hL => ?_)
      have lp : ∀ (f : Nat) (B : rS) (i : Int) (μ1 : mM) (H : Heap) (locs : List Loc) (ls : Array Slot), CR B P cy μ1 → KM B P Gs (FE B oo i) → (∀ r : Nat, r < RN B → B 3 r ≠ 4) → 0 ≤ i ∧ i ≤ A 9 oo - 2 → (f : Int) + i = 30 → rMark A = rSeeF (oo : Int) f i B → cfr μ μ1 → B 9 oo = A 9 oo ∧ B 6 0 = A 6 0 → mX G ρ (mA ρ μ z) s.heap μ1 z H locs → lq ls [some (.ref (ρ 1)), some (.ref (ρ (aOb oo))), some (.ref (ρ (aFd oo))), some (.int (iv (((A 9 oo - 2).toNat : Nat) : Int))), some (.int (iv i)), none] → W p l e (rm 3 68 0 0) s m args below meth c H locs 0 0 (wQ G ρ μ z (cR none (rMark A) P cy μ z) below args s 0 0) (F0 m 33 ls []) := by
        intro f
        induction f with
        | zero =>
          intro B i μ1 H locs ls hc hM h34 h0 hf1 hv hfr h9 X hL
          omega
        | succ f ih =>
          intro B i μ1 H locs ls hc hM h34 h0 hf1 hv hfr h9 X hL
          obtain ⟨h1, h2, h3, h4, h5, h6, h7, h8, hcy0, hcy1⟩ := id hc
          obtain ⟨⟨f00, f01, f02⟩, ⟨f10, f11, f12⟩, ⟨f20, f21, f22⟩, ⟨f30, f40, f50⟩, frr, foo⟩ := id h1
          obtain ⟨g1, g3, g4, g5, g6, g7⟩ := id h2
          obtain ⟨q1, q2, q3, q4⟩ := foo oo (by unfold nn at *; omega)
          rw [h9.1] at q3
          obtain ⟨-, -, -, -, ofl⟩ := h8 oo (by unfold nn at *; omega)
          refine m_iload hx hb hL dX0_markNext_33 rfl ?_
          refine m_iload_n hx hb hL dX0_markNext_35 rfl ?_
          refine m_icmp_ge (tgt := 57) hx hb dX0_markNext_36 (by decide) (by omega) (by omega) (fun c36 => ?_) (fun c36 => ?_)
          · exact m_vret hC X hr hlk ⟨rfl, rfl, by rw [hv, rSeeF, if_pos (by simp only [Int.toNat_natCast]; omega)]; exact hc, hfr⟩ dX0_markNext_57
          · refine m_aload_n hx hb hL dX0_markNext_39 rfl ?_
            refine m_iload hx hb hL dX0_markNext_40 rfl ?_
            have hop := ofl (i : Int).toNat (by omega)
            by_cases hreg : B 11 (21 * oo + (i : Int).toNat) = -1
            · rw [hreg, oref_n] at hop
              refine c_aaldn (x := i) hC X q3 (Or.inl rfl) (by omega) (by omega) (by omega) hop dX0_markNext_42 ?_
              refine c_astoren hx hb hL dX0_markNext_43 (Nat.le_of_ble_eq_true rfl) (fun ls hL => ?_)
              refine m_aload_n hx hb hL dX0_markNext_45 rfl ?_
              refine m_aloadq (x := none) hx hb hL dX0_markNext_46 rfl ?_
              refine c_callV hC X (k_X0_see_n) VX0_41 f10 rfl ⟨by decide, by decide⟩ ⟨by decide, by decide⟩ hL.1 rfl (Nat.le_of_ble_eq_true rfl) dX0_markNext_48 (fun v48 μ48 z48 H locs hp X => ?_)
              obtain ⟨rfl, hm_, hz_⟩ := hp
              have hm_ := hm_.symm
              have hz_ := hz_.symm
              subst hm_
              subst hz_
              refine m_iincv hx hb hL dX0_markNext_51 rfl (fun ls hL => ?_)
              refine lv_goto (tgt := 33) hx hb dX0_markNext_54 (by decide) ?_
              exact ih _ (i + 1) _ _ _ ls hc (by have q := seeF_step (o := (oo : Int)) (x := i) (by omega) hM0g ⟨by omega, by simp only [Int.toNat_natCast]; omega⟩ hM; rw [(show (21 * (oo : Int) + i).toNat = 21 * oo + i.toNat by omega), rSee_n (Or.inl hreg)] at q; exact q) h34 ⟨by omega, by omega⟩ (by omega) (by rw [hv, rSeeF, if_neg (by simp only [Int.toNat_natCast]; omega), (show (21 * (oo : Int) + i).toNat = 21 * oo + i.toNat by omega), rSee_n (Or.inl hreg)]) hfr h9 X (lq_none 5 hL)
            · rw [oref_s hreg] at hop
              refine c_aaldr (x := i) hC X q3 (Or.inl rfl) (by omega) (by omega) (by omega) hop dX0_markNext_42 ?_
              refine c_astorer hx hb hL dX0_markNext_43 (Nat.le_of_ble_eq_true rfl) (fun ls hL => ?_)
              refine m_aload_n hx hb hL dX0_markNext_45 rfl ?_
              refine m_aload hx hb hL dX0_markNext_46 rfl ?_
              have hvb := And.intro (hM.1.1.b11 (21 * oo + (i : Int).toNat)) (hM.1.2.2.1 oo (i : Int).toNat (by unfold nn at *; omega) (by omega))
              refine c_callV hC X (k_X0_see_s (o := (B 11 (21 * oo + (i : Int).toNat)).toNat) hc hM.1.1 hM.2.1 (by unfold nn; omega) h34) VX0_41 f10 rfl ⟨by decide, by decide⟩ ⟨by decide, by decide⟩ hL.1 rfl (Nat.le_of_ble_eq_true rfl) dX0_markNext_48 (fun v48 μ48 z48 H locs hp X => ?_)
              obtain ⟨rfl, hz_, hc2, hf2⟩ := hp
              have hz_ := hz_.symm
              subst hz_
              rw [show (((B 11 (21 * oo + (i : Int).toNat)).toNat : Nat) : Int) = B 11 (21 * oo + (i : Int).toNat) by omega] at hc2
              refine m_iincv hx hb hL dX0_markNext_51 rfl (fun ls hL => ?_)
              refine lv_goto (tgt := 33) hx hb dX0_markNext_54 (by decide) ?_
              exact ih _ (i + 1) _ _ _ ls hc2 (by have q := seeF_step (o := (oo : Int)) (x := i) (by omega) hM0g ⟨by omega, by simp only [Int.toNat_natCast]; omega⟩ hM; rw [(show (21 * (oo : Int) + i).toNat = 21 * oo + i.toNat by omega)] at q; exact q) (fun r hr => by rw [see_k 3 r (by decide) (by decide) (by decide)]; exact h34 r (by unfold RN at hr ⊢; rw [see_k 1 0 (by decide) (by decide) (by decide)] at hr; exact hr)) ⟨by omega, by omega⟩ (by omega) (by rw [hv, rSeeF, if_neg (by simp only [Int.toNat_natCast]; omega), (show (21 * (oo : Int) + i).toNat = 21 * oo + i.toNat by omega)]) (hfr.tr hf2) (by rw [see_k 9 _ (by decide) (by decide) (by decide), see_k 6 0 (by decide) (by decide) (by decide)]; exact h9) X (lq_none 5 hL)
      exact lp 30 (up A 16 0 (A 16 0 + 1)) 0 _ _ _ ls hc hM0a (hK.n4 (by omega)) ⟨by omega, by omega⟩ (by omega) (by unfold rMark; rw [if_neg (by omega), hoo]) hfr ⟨rfl, rfl⟩ X hL
  · refine c_callV hC X (k_X4_takeFirst_n f30 (by rw [h5.1, if_neg he0])) VX0_76 f30 rfl ⟨by decide, by decide⟩ ⟨by decide, by decide⟩ hL.1 rfl (Nat.le_of_ble_eq_true rfl) dX0_markNext_4 (fun v4 μ4 z4 H locs hp X => ?_)
    obtain ⟨rfl, hm_, hz_⟩ := hp
    have hm_ := hm_.symm
    have hz_ := hz_.symm
    subst hm_
    subst hz_
    refine c_astore_nn hx hb hL dX0_markNext_7 (Nat.le_of_ble_eq_true rfl) (fun ls hL => ?_)
    refine m_aload_nq (x := none) hx hb hL dX0_markNext_8 rfl ?_
    refine lv_ifnonnullN hx hb dX0_markNext_9 ?_
    refine m_aload_n hx hb hL dX0_markNext_12 rfl ?_
    refine c_callV hC X (k_X0_chooseSet hc hK (hK.n4 (by omega))) VX0_80 f10 rfl ⟨by decide, by decide⟩ ⟨by decide, by decide⟩ hL.1 rfl (Nat.le_of_ble_eq_true rfl) dX0_markNext_13 (fun v13 μ13 z13 H locs hp X => ?_)
    obtain ⟨rfl, hz_, hc2, hf2⟩ := hp
    have hz_ := hz_.symm
    subst hz_
    have hc := hc2
    obtain ⟨h1, h2, h3, h4, h5, h6, h7, h8, hcy0, hcy1⟩ := id hc
    obtain ⟨⟨f00, f01, f02⟩, ⟨f10, f11, f12⟩, ⟨f20, f21, f22⟩, ⟨f30, f40, f50⟩, frr, foo⟩ := id h1
    obtain ⟨g1, g3, g4, g5, g6, g7⟩ := id h2
    refine m_aload_n hx hb hL dX0_markNext_16 rfl ?_
    refine lv_iconst (v := iv 2) hx hb dX0_markNext_17 rfl ?_
    refine c_puti (x := 2) hC X FwX0_31 f10 rfl dX0_markNext_18 (fun H locs X => ?_)
    exact m_vret hC X hr hlk ⟨rfl, rfl, by unfold rMark; rw [if_pos (by omega)]; exact ph_CR hc, hf2.I (cad_f (by decide)) 3 _⟩ dX0_markNext_21
end
