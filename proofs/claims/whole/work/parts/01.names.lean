/-! ===== BEGIN words of one list among another's, by their places ===== -/
theorem goodIn_r {big : List Cond} (ws : List Cond) (ps : List Nat) (hp : ws = ps.filterMap (fun i => big[i]?)) (h : ws.all goodWord = true) : GoodIn big ws := by
  intro w hw
  have h1 := List.all_eq_true.mp h w hw
  rw [hp] at hw
  obtain ⟨i, -, hi⟩ := List.mem_filterMap.mp hw
  have hm : w ∈ big := by first | exact List.mem_of_getElem? hi | exact List.getElem?_mem hi
  exact ⟨hm, good_of_word h1⟩
theorem goodIn_app {big a b : List Cond} (ha : GoodIn big a) (hb : GoodIn big b) : GoodIn big (a ++ b) := fun w h => (List.mem_append.mp h).elim (ha w) (hb w)
theorem goodIn_ca {big a b : List Cond} {c : Cond} (ha : GoodIn big (c :: a)) (hb : GoodIn big b) : GoodIn big (c :: (a ++ b)) := fun w h => (List.mem_cons.mp h).elim (fun e => ha w (List.mem_cons.mpr (Or.inl e))) (fun h => (List.mem_append.mp h).elim (fun h => ha w (List.mem_cons.mpr (Or.inr h))) (hb w))
theorem goodIn_sub {big ws : List Cond} (hm : ∀ w ∈ ws, w ∈ big) (h : ws.all goodWord = true) : GoodIn big ws := fun w hw => ⟨hm w hw, good_of_word (List.all_eq_true.mp h w hw)⟩
/-! ===== END ===== -/
-- ===== PART A: goes FIRST, ahead of the names: the tables' words, and 'selects' of the private methods out of them =====
/-- a private method of a class that the tables say can be made, by its rows of tables_1 -/
def lw_okq (q : MethodName × Nat) : Prop := (q.1.cls ≠ "java/lang/invoke/MethodHandle" ∧ q.1.cls ≠ "java/lang/invoke/VarHandle") ∧ Cond.instantiable q.1.cls q.2 ∈ tables_1 ∧ Cond.privateMethod q.1 ∈ tables_1 ∧ Cond.instanceMethod q.1 ∈ tables_1
theorem lw_p0 : lw_okq (⟨"ForwardHeap$Collector", "see", "(LForwardHeap$HeapObject;)V"⟩, 8) := ⟨⟨by decide +kernel, by decide +kernel⟩, List.mem_of_getElem? (i := 24) (by decide +kernel), List.mem_of_getElem? (i := 162) (by decide +kernel), List.mem_of_getElem? (i := 163) (by decide +kernel)⟩
theorem lw_p1 : lw_okq (⟨"ForwardHeap$Collector", "markNext", "()V"⟩, 8) := ⟨⟨by decide +kernel, by decide +kernel⟩, List.mem_of_getElem? (i := 24) (by decide +kernel), List.mem_of_getElem? (i := 183) (by decide +kernel), List.mem_of_getElem? (i := 184) (by decide +kernel)⟩
theorem lw_p2 : lw_okq (⟨"ForwardHeap$Collector", "chooseSet", "()V"⟩, 8) := ⟨⟨by decide +kernel, by decide +kernel⟩, List.mem_of_getElem? (i := 24) (by decide +kernel), List.mem_of_getElem? (i := 191) (by decide +kernel), List.mem_of_getElem? (i := 192) (by decide +kernel)⟩
theorem lw_p3 : lw_okq (⟨"ForwardHeap$Collector", "moveNext", "()V"⟩, 8) := ⟨⟨by decide +kernel, by decide +kernel⟩, List.mem_of_getElem? (i := 24) (by decide +kernel), List.mem_of_getElem? (i := 207) (by decide +kernel), List.mem_of_getElem? (i := 208) (by decide +kernel)⟩
theorem lw_p4 : lw_okq (⟨"ForwardHeap$Collector", "moveOrFail", "(LForwardHeap$HeapObject;)V"⟩, 8) := ⟨⟨by decide +kernel, by decide +kernel⟩, List.mem_of_getElem? (i := 24) (by decide +kernel), List.mem_of_getElem? (i := 215) (by decide +kernel), List.mem_of_getElem? (i := 216) (by decide +kernel)⟩
theorem lw_p5 : lw_okq (⟨"ForwardHeap$Collector", "updateNext", "()V"⟩, 8) := ⟨⟨by decide +kernel, by decide +kernel⟩, List.mem_of_getElem? (i := 24) (by decide +kernel), List.mem_of_getElem? (i := 240) (by decide +kernel), List.mem_of_getElem? (i := 241) (by decide +kernel)⟩
theorem lw_p6 : lw_okq (⟨"ForwardHeap$Collector", "endCycle", "()V"⟩, 8) := ⟨⟨by decide +kernel, by decide +kernel⟩, List.mem_of_getElem? (i := 24) (by decide +kernel), List.mem_of_getElem? (i := 244) (by decide +kernel), List.mem_of_getElem? (i := 245) (by decide +kernel)⟩
theorem lw_p7 : lw_okq (⟨"java/lang/Throwable", "fillInStackTrace", "(I)Ljava/lang/Throwable;"⟩, 6) := ⟨⟨by decide +kernel, by decide +kernel⟩, List.mem_of_getElem? (i := 315) (by decide +kernel), List.mem_of_getElem? (i := 313) (by decide +kernel), List.mem_of_getElem? (i := 314) (by decide +kernel)⟩
theorem lw_p8 : lw_okq (⟨"ForwardHeap", "objectIn", "(I)LForwardHeap$HeapObject;"⟩, 2) := ⟨⟨by decide +kernel, by decide +kernel⟩, List.mem_of_getElem? (i := 16) (by decide +kernel), List.mem_of_getElem? (i := 436) (by decide +kernel), List.mem_of_getElem? (i := 437) (by decide +kernel)⟩
theorem lw_p9 : lw_okq (⟨"ForwardHeap$Collector", "mayMove", "(LForwardHeap$HeapObject;)Z"⟩, 8) := ⟨⟨by decide +kernel, by decide +kernel⟩, List.mem_of_getElem? (i := 24) (by decide +kernel), List.mem_of_getElem? (i := 474) (by decide +kernel), List.mem_of_getElem? (i := 475) (by decide +kernel)⟩
theorem lw_p10 : lw_okq (⟨"ForwardHeapModel", "good", "(ZZ)Z"⟩, 22) := ⟨⟨by decide +kernel, by decide +kernel⟩, List.mem_of_getElem? (i := 517) (by decide +kernel), List.mem_of_getElem? (i := 603) (by decide +kernel), List.mem_of_getElem? (i := 604) (by decide +kernel)⟩
theorem lw_p11 : lw_okq (⟨"ForwardHeapModel", "hasActive", "(I)Z"⟩, 22) := ⟨⟨by decide +kernel, by decide +kernel⟩, List.mem_of_getElem? (i := 517) (by decide +kernel), List.mem_of_getElem? (i := 607) (by decide +kernel), List.mem_of_getElem? (i := 608) (by decide +kernel)⟩
theorem lw_p12 : lw_okq (⟨"ForwardHeapModel", "withState", "(I)I"⟩, 22) := ⟨⟨by decide +kernel, by decide +kernel⟩, List.mem_of_getElem? (i := 517) (by decide +kernel), List.mem_of_getElem? (i := 611) (by decide +kernel), List.mem_of_getElem? (i := 612) (by decide +kernel)⟩
theorem lw_p13 : lw_okq (⟨"ForwardHeapModel", "whole", "()V"⟩, 22) := ⟨⟨by decide +kernel, by decide +kernel⟩, List.mem_of_getElem? (i := 517) (by decide +kernel), List.mem_of_getElem? (i := 615) (by decide +kernel), List.mem_of_getElem? (i := 616) (by decide +kernel)⟩
theorem lw_p14 : lw_okq (⟨"ForwardHeapModel", "finish", "()V"⟩, 22) := ⟨⟨by decide +kernel, by decide +kernel⟩, List.mem_of_getElem? (i := 517) (by decide +kernel), List.mem_of_getElem? (i := 619) (by decide +kernel), List.mem_of_getElem? (i := 620) (by decide +kernel)⟩
theorem lw_p15 : lw_okq (⟨"ForwardHeapModel", "unit", "()V"⟩, 22) := ⟨⟨by decide +kernel, by decide +kernel⟩, List.mem_of_getElem? (i := 517) (by decide +kernel), List.mem_of_getElem? (i := 623) (by decide +kernel), List.mem_of_getElem? (i := 624) (by decide +kernel)⟩
def lw_privs_1 : List (MethodName × Nat) := [(⟨"ForwardHeap$Collector", "see", "(LForwardHeap$HeapObject;)V"⟩, 8), (⟨"ForwardHeap$Collector", "markNext", "()V"⟩, 8), (⟨"ForwardHeap$Collector", "chooseSet", "()V"⟩, 8), (⟨"ForwardHeap$Collector", "moveNext", "()V"⟩, 8), (⟨"ForwardHeap$Collector", "moveOrFail", "(LForwardHeap$HeapObject;)V"⟩, 8), (⟨"ForwardHeap$Collector", "updateNext", "()V"⟩, 8), (⟨"ForwardHeap$Collector", "endCycle", "()V"⟩, 8), (⟨"java/lang/Throwable", "fillInStackTrace", "(I)Ljava/lang/Throwable;"⟩, 6), (⟨"ForwardHeap", "objectIn", "(I)LForwardHeap$HeapObject;"⟩, 2), (⟨"ForwardHeap$Collector", "mayMove", "(LForwardHeap$HeapObject;)Z"⟩, 8), (⟨"ForwardHeapModel", "good", "(ZZ)Z"⟩, 22), (⟨"ForwardHeapModel", "hasActive", "(I)Z"⟩, 22), (⟨"ForwardHeapModel", "withState", "(I)I"⟩, 22), (⟨"ForwardHeapModel", "whole", "()V"⟩, 22), (⟨"ForwardHeapModel", "finish", "()V"⟩, 22), (⟨"ForwardHeapModel", "unit", "()V"⟩, 22)]
theorem lw_r1 : ∀ q ∈ lw_privs_1, lw_okq q := List.forall_mem_cons.mpr ⟨lw_p0, List.forall_mem_cons.mpr ⟨lw_p1, List.forall_mem_cons.mpr ⟨lw_p2, List.forall_mem_cons.mpr ⟨lw_p3, List.forall_mem_cons.mpr ⟨lw_p4, List.forall_mem_cons.mpr ⟨lw_p5, List.forall_mem_cons.mpr ⟨lw_p6, List.forall_mem_cons.mpr ⟨lw_p7, List.forall_mem_cons.mpr ⟨lw_p8, List.forall_mem_cons.mpr ⟨lw_p9, List.forall_mem_cons.mpr ⟨lw_p10, List.forall_mem_cons.mpr ⟨lw_p11, List.forall_mem_cons.mpr ⟨lw_p12, List.forall_mem_cons.mpr ⟨lw_p13, List.forall_mem_cons.mpr ⟨lw_p14, List.forall_mem_cons.mpr ⟨lw_p15, fun _ h => absurd h List.not_mem_nil⟩⟩⟩⟩⟩⟩⟩⟩⟩⟩⟩⟩⟩⟩⟩⟩
theorem lw_p16 : lw_okq (⟨"ForwardHeapModel", "mark", "()V"⟩, 22) := ⟨⟨by decide +kernel, by decide +kernel⟩, List.mem_of_getElem? (i := 517) (by decide +kernel), List.mem_of_getElem? (i := 627) (by decide +kernel), List.mem_of_getElem? (i := 628) (by decide +kernel)⟩
theorem lw_p17 : lw_okq (⟨"ForwardHeapModel", "see", "(I)V"⟩, 22) := ⟨⟨by decide +kernel, by decide +kernel⟩, List.mem_of_getElem? (i := 517) (by decide +kernel), List.mem_of_getElem? (i := 631) (by decide +kernel), List.mem_of_getElem? (i := 632) (by decide +kernel)⟩
theorem lw_p18 : lw_okq (⟨"ForwardHeapModel", "seenIn", "(I)I"⟩, 22) := ⟨⟨by decide +kernel, by decide +kernel⟩, List.mem_of_getElem? (i := 517) (by decide +kernel), List.mem_of_getElem? (i := 635) (by decide +kernel), List.mem_of_getElem? (i := 636) (by decide +kernel)⟩
theorem lw_p19 : lw_okq (⟨"ForwardHeapModel", "moveOne", "()V"⟩, 22) := ⟨⟨by decide +kernel, by decide +kernel⟩, List.mem_of_getElem? (i := 517) (by decide +kernel), List.mem_of_getElem? (i := 639) (by decide +kernel), List.mem_of_getElem? (i := 640) (by decide +kernel)⟩
theorem lw_p20 : lw_okq (⟨"ForwardHeapModel", "isToMove", "(I)Z"⟩, 22) := ⟨⟨by decide +kernel, by decide +kernel⟩, List.mem_of_getElem? (i := 517) (by decide +kernel), List.mem_of_getElem? (i := 643) (by decide +kernel), List.mem_of_getElem? (i := 644) (by decide +kernel)⟩
theorem lw_p21 : lw_okq (⟨"ForwardHeapModel", "place", "(I)I"⟩, 22) := ⟨⟨by decide +kernel, by decide +kernel⟩, List.mem_of_getElem? (i := 517) (by decide +kernel), List.mem_of_getElem? (i := 647) (by decide +kernel), List.mem_of_getElem? (i := 648) (by decide +kernel)⟩
theorem lw_p22 : lw_okq (⟨"ForwardHeapModel", "carry", "(I)V"⟩, 22) := ⟨⟨by decide +kernel, by decide +kernel⟩, List.mem_of_getElem? (i := 517) (by decide +kernel), List.mem_of_getElem? (i := 651) (by decide +kernel), List.mem_of_getElem? (i := 652) (by decide +kernel)⟩
theorem lw_p23 : lw_okq (⟨"ForwardHeapModel", "update", "()V"⟩, 22) := ⟨⟨by decide +kernel, by decide +kernel⟩, List.mem_of_getElem? (i := 517) (by decide +kernel), List.mem_of_getElem? (i := 655) (by decide +kernel), List.mem_of_getElem? (i := 656) (by decide +kernel)⟩
theorem lw_p24 : lw_okq (⟨"ForwardHeapModel", "start", "()V"⟩, 22) := ⟨⟨by decide +kernel, by decide +kernel⟩, List.mem_of_getElem? (i := 517) (by decide +kernel), List.mem_of_getElem? (i := 659) (by decide +kernel), List.mem_of_getElem? (i := 660) (by decide +kernel)⟩
theorem lw_p25 : lw_okq (⟨"ForwardHeapModel", "hasField", "(IIII)Z"⟩, 22) := ⟨⟨by decide +kernel, by decide +kernel⟩, List.mem_of_getElem? (i := 517) (by decide +kernel), List.mem_of_getElem? (i := 675) (by decide +kernel), List.mem_of_getElem? (i := 676) (by decide +kernel)⟩
theorem lw_p26 : lw_okq (⟨"ForwardHeapModel", "tagOf", "(I)I"⟩, 22) := ⟨⟨by decide +kernel, by decide +kernel⟩, List.mem_of_getElem? (i := 517) (by decide +kernel), List.mem_of_getElem? (i := 679) (by decide +kernel), List.mem_of_getElem? (i := 680) (by decide +kernel)⟩
def lw_privs_2 : List (MethodName × Nat) := [(⟨"ForwardHeapModel", "mark", "()V"⟩, 22), (⟨"ForwardHeapModel", "see", "(I)V"⟩, 22), (⟨"ForwardHeapModel", "seenIn", "(I)I"⟩, 22), (⟨"ForwardHeapModel", "moveOne", "()V"⟩, 22), (⟨"ForwardHeapModel", "isToMove", "(I)Z"⟩, 22), (⟨"ForwardHeapModel", "place", "(I)I"⟩, 22), (⟨"ForwardHeapModel", "carry", "(I)V"⟩, 22), (⟨"ForwardHeapModel", "update", "()V"⟩, 22), (⟨"ForwardHeapModel", "start", "()V"⟩, 22), (⟨"ForwardHeapModel", "hasField", "(IIII)Z"⟩, 22), (⟨"ForwardHeapModel", "tagOf", "(I)I"⟩, 22)]
theorem lw_r2 : ∀ q ∈ lw_privs_2, lw_okq q := List.forall_mem_cons.mpr ⟨lw_p16, List.forall_mem_cons.mpr ⟨lw_p17, List.forall_mem_cons.mpr ⟨lw_p18, List.forall_mem_cons.mpr ⟨lw_p19, List.forall_mem_cons.mpr ⟨lw_p20, List.forall_mem_cons.mpr ⟨lw_p21, List.forall_mem_cons.mpr ⟨lw_p22, List.forall_mem_cons.mpr ⟨lw_p23, List.forall_mem_cons.mpr ⟨lw_p24, List.forall_mem_cons.mpr ⟨lw_p25, List.forall_mem_cons.mpr ⟨lw_p26, fun _ h => absurd h List.not_mem_nil⟩⟩⟩⟩⟩⟩⟩⟩⟩⟩⟩
def lw_privs : List (MethodName × Nat) := lw_privs_1 ++ (lw_privs_2)
def lw_tbl : List Cond := k2_sels lw_privs ++ tables_1
theorem lw_privs_ok : ∀ q ∈ lw_privs, lw_okq q := by
  show ∀ q ∈ lw_privs_1 ++ (lw_privs_2), lw_okq q
  exact List.forall_mem_append.mpr ⟨lw_r1, lw_r2⟩
def RX0 : String := "ForwardHeap$Collector"
def TX0 : u_T := fun k => match k with
  | 0 => ("ForwardHeap$Collector", "memory", "LForwardHeap$Memory;", true)
  | 1 => ("ForwardHeap$Collector", "threshold", "I", true)
  | 2 => ("ForwardHeap$Collector", "waiting", "LForwardHeap$WaitingRow;", true)
  | 3 => ("ForwardHeap$Collector", "phase", "I", false)
  | 4 => ("ForwardHeap$Collector", "cycle", "I", false)
  | 5 => ("ForwardHeap$Collector", "nextToUpdate", "I", false)
  | 6 => ("ForwardHeap$Collector", "movedInAll", "I", false)
  | _ => ("ForwardHeap$Collector", "failedInAll", "I", false)
def tyX0 : Nat → FieldType := fun k => match k with
  | 0 => .object "ForwardHeap$Memory"
  | 1 => .int
  | 2 => .object "ForwardHeap$WaitingRow"
  | 3 => .int
  | 4 => .int
  | 5 => .int
  | 6 => .int
  | _ => .int
abbrev wsX00 : List Cond := u_ws RX0 TX0 8
theorem nmX0 : ∀ a, a < 8 → ∀ b, b < 8 → a ≠ b → (TX0 a).2.1 ≠ (TX0 b).2.1 := by decide +kernel
theorem tyX0_ok : ∀ k, k < 8 → parseFieldDescriptor (TX0 k).2.2.1 = some (tyX0 k) := by decide +kernel
abbrev cX0_init : ByteArray := prog_2_method_1_code
def yX0_init : MethodName := ⟨RX0, "<init>", "(II)V"⟩
abbrev cX0_startCycle : ByteArray := prog_2_method_2_code
def yX0_startCycle : MethodName := ⟨RX0, "startCycle", "()V"⟩
abbrev cX0_collectWhole : ByteArray := prog_2_method_3_code
def yX0_collectWhole : MethodName := ⟨RX0, "collectWhole", "()V"⟩
abbrev cX0_runUnits : ByteArray := prog_2_method_4_code
def yX0_runUnits : MethodName := ⟨RX0, "runUnits", "(I)V"⟩
abbrev cX0_welcome : ByteArray := prog_2_method_5_code
def yX0_welcome : MethodName := ⟨RX0, "welcome", "(LForwardHeap$HeapObject;)V"⟩
abbrev cX0_prepareWrite : ByteArray := prog_2_method_6_code
def yX0_prepareWrite : MethodName := ⟨RX0, "prepareWrite", "(LForwardHeap$HeapObject;LForwardHeap$HeapObject;)V"⟩
abbrev cX0_see : ByteArray := prog_2_method_7_code
def yX0_see : MethodName := ⟨RX0, "see", "(LForwardHeap$HeapObject;)V"⟩
abbrev cX0_markNext : ByteArray := prog_2_method_8_code
def yX0_markNext : MethodName := ⟨RX0, "markNext", "()V"⟩
abbrev cX0_chooseSet : ByteArray := prog_2_method_9_code
def yX0_chooseSet : MethodName := ⟨RX0, "chooseSet", "()V"⟩
abbrev cX0_moveNext : ByteArray := prog_2_method_10_code
def yX0_moveNext : MethodName := ⟨RX0, "moveNext", "()V"⟩
abbrev cX0_mayMove : ByteArray := prog_2_method_11_code
def yX0_mayMove : MethodName := ⟨RX0, "mayMove", "(LForwardHeap$HeapObject;)Z"⟩
abbrev cX0_moveOrFail : ByteArray := prog_2_method_12_code
def yX0_moveOrFail : MethodName := ⟨RX0, "moveOrFail", "(LForwardHeap$HeapObject;)V"⟩
abbrev cX0_updateNext : ByteArray := prog_2_method_13_code
def yX0_updateNext : MethodName := ⟨RX0, "updateNext", "()V"⟩
abbrev cX0_endCycle : ByteArray := prog_2_method_14_code
def yX0_endCycle : MethodName := ⟨RX0, "endCycle", "()V"⟩
def RX1 : String := "ForwardHeap$HeapObject"
def TX1 : u_T := fun k => match k with
  | 0 => ("ForwardHeap$HeapObject", "tag", "I", true)
  | 1 => ("ForwardHeap$HeapObject", "fields", "[LForwardHeap$HeapObject;", true)
  | 2 => ("ForwardHeap$HeapObject", "home", "LForwardHeap$Region;", false)
  | 3 => ("ForwardHeap$HeapObject", "offset", "I", false)
  | 4 => ("ForwardHeap$HeapObject", "seenIn", "I", false)
  | 5 => ("ForwardHeap$HeapObject", "failedIn", "I", false)
  | _ => ("ForwardHeap$HeapObject", "nextWaiting", "LForwardHeap$HeapObject;", false)
def tyX1 : Nat → FieldType := fun k => match k with
  | 0 => .int
  | 1 => .array (.object "ForwardHeap$HeapObject")
  | 2 => .object "ForwardHeap$Region"
  | 3 => .int
  | 4 => .int
  | 5 => .int
  | _ => .object "ForwardHeap$HeapObject"
abbrev wsX10 : List Cond := u_ws RX1 TX1 7
theorem nmX1 : ∀ a, a < 7 → ∀ b, b < 7 → a ≠ b → (TX1 a).2.1 ≠ (TX1 b).2.1 := by decide +kernel
theorem tyX1_ok : ∀ k, k < 7 → parseFieldDescriptor (TX1 k).2.2.1 = some (tyX1 k) := by decide +kernel
abbrev cX1_init : ByteArray := prog_3_method_1_code
def yX1_init : MethodName := ⟨RX1, "<init>", "(LForwardHeap$Region;II)V"⟩
abbrev cX1_words : ByteArray := prog_3_method_2_code
def yX1_words : MethodName := ⟨RX1, "words", "()I"⟩
def RX2 : String := "ForwardHeap$Memory"
def TX2 : u_T := fun k => match k with
  | 0 => ("ForwardHeap$Memory", "registers", "[LForwardHeap$HeapObject;", true)
  | 1 => ("ForwardHeap$Memory", "regions", "[LForwardHeap$Region;", true)
  | 2 => ("ForwardHeap$Memory", "active", "LForwardHeap$Region;", false)
  | _ => ("ForwardHeap$Memory", "target", "LForwardHeap$Region;", false)
def tyX2 : Nat → FieldType := fun k => match k with
  | 0 => .array (.object "ForwardHeap$HeapObject")
  | 1 => .array (.object "ForwardHeap$Region")
  | 2 => .object "ForwardHeap$Region"
  | _ => .object "ForwardHeap$Region"
abbrev wsX20 : List Cond := u_ws RX2 TX2 4
theorem nmX2 : ∀ a, a < 4 → ∀ b, b < 4 → a ≠ b → (TX2 a).2.1 ≠ (TX2 b).2.1 := by decide +kernel
theorem tyX2_ok : ∀ k, k < 4 → parseFieldDescriptor (TX2 k).2.2.1 = some (tyX2 k) := by decide +kernel
abbrev cX2_init : ByteArray := prog_4_method_1_code
def yX2_init : MethodName := ⟨RX2, "<init>", "(I)V"⟩
abbrev cX2_leastFree : ByteArray := prog_4_method_2_code
def yX2_leastFree : MethodName := ⟨RX2, "leastFree", "()LForwardHeap$Region;"⟩
abbrev cX2_countFree : ByteArray := prog_4_method_3_code
def yX2_countFree : MethodName := ⟨RX2, "countFree", "()I"⟩
abbrev cX2_activeWithRoom : ByteArray := prog_4_method_4_code
def yX2_activeWithRoom : MethodName := ⟨RX2, "activeWithRoom", "(I)LForwardHeap$Region;"⟩
abbrev cX2_targetWithRoom : ByteArray := prog_4_method_5_code
def yX2_targetWithRoom : MethodName := ⟨RX2, "targetWithRoom", "(I)LForwardHeap$Region;"⟩
abbrev cX2_closeTarget : ByteArray := prog_4_method_6_code
def yX2_closeTarget : MethodName := ⟨RX2, "closeTarget", "()V"⟩
def RX3 : String := "ForwardHeap$Region"
def TX3 : u_T := fun k => match k with
  | 0 => ("ForwardHeap$Region", "number", "I", true)
  | 1 => ("ForwardHeap$Region", "starts", "[LForwardHeap$HeapObject;", true)
  | 2 => ("ForwardHeap$Region", "kind", "I", false)
  | 3 => ("ForwardHeap$Region", "used", "I", false)
  | 4 => ("ForwardHeap$Region", "passed", "I", false)
  | _ => ("ForwardHeap$Region", "keepsFailed", "Z", false)
def tyX3 : Nat → FieldType := fun k => match k with
  | 0 => .int
  | 1 => .array (.object "ForwardHeap$HeapObject")
  | 2 => .int
  | 3 => .int
  | 4 => .int
  | _ => .boolean
abbrev wsX30 : List Cond := u_ws RX3 TX3 6
theorem nmX3 : ∀ a, a < 6 → ∀ b, b < 6 → a ≠ b → (TX3 a).2.1 ≠ (TX3 b).2.1 := by decide +kernel
theorem tyX3_ok : ∀ k, k < 6 → parseFieldDescriptor (TX3 k).2.2.1 = some (tyX3 k) := by decide +kernel
abbrev cX3_init : ByteArray := prog_5_method_1_code
def yX3_init : MethodName := ⟨RX3, "<init>", "(I)V"⟩
abbrev cX3_hasRoom : ByteArray := prog_5_method_2_code
def yX3_hasRoom : MethodName := ⟨RX3, "hasRoom", "(I)Z"⟩
abbrev cX3_append : ByteArray := prog_5_method_3_code
def yX3_append : MethodName := ⟨RX3, "append", "(LForwardHeap$HeapObject;)V"⟩
abbrev cX3_seenWords : ByteArray := prog_5_method_4_code
def yX3_seenWords : MethodName := ⟨RX3, "seenWords", "(I)I"⟩
abbrev cX3_enterSet : ByteArray := prog_5_method_5_code
def yX3_enterSet : MethodName := ⟨RX3, "enterSet", "()V"⟩
abbrev cX3_nextToMove : ByteArray := prog_5_method_6_code
def yX3_nextToMove : MethodName := ⟨RX3, "nextToMove", "(I)LForwardHeap$HeapObject;"⟩
abbrev cX3_leaveSet : ByteArray := prog_5_method_7_code
def yX3_leaveSet : MethodName := ⟨RX3, "leaveSet", "()V"⟩
def RX4 : String := "ForwardHeap$WaitingRow"
def TX4 : u_T := fun k => match k with
  | 0 => ("ForwardHeap$WaitingRow", "first", "LForwardHeap$HeapObject;", false)
  | 1 => ("ForwardHeap$WaitingRow", "last", "LForwardHeap$HeapObject;", false)
  | _ => ("ForwardHeap$WaitingRow", "size", "I", false)
def tyX4 : Nat → FieldType := fun k => match k with
  | 0 => .object "ForwardHeap$HeapObject"
  | 1 => .object "ForwardHeap$HeapObject"
  | _ => .int
abbrev wsX40 : List Cond := u_ws RX4 TX4 3
theorem nmX4 : ∀ a, a < 3 → ∀ b, b < 3 → a ≠ b → (TX4 a).2.1 ≠ (TX4 b).2.1 := by decide +kernel
theorem tyX4_ok : ∀ k, k < 3 → parseFieldDescriptor (TX4 k).2.2.1 = some (tyX4 k) := by decide +kernel
abbrev cX4_init : ByteArray := prog_6_method_1_code
def yX4_init : MethodName := ⟨RX4, "<init>", "()V"⟩
abbrev cX4_append : ByteArray := prog_6_method_2_code
def yX4_append : MethodName := ⟨RX4, "append", "(LForwardHeap$HeapObject;)V"⟩
abbrev cX4_takeFirst : ByteArray := prog_6_method_3_code
def yX4_takeFirst : MethodName := ⟨RX4, "takeFirst", "()LForwardHeap$HeapObject;"⟩
def RX5 : String := "ForwardHeap"
def TX5 : u_T := fun k => match k with
  | 0 => ("ForwardHeap", "collector", "LForwardHeap$Collector;", true)
  | _ => ("ForwardHeap", "memory", "LForwardHeap$Memory;", true)
def tyX5 : Nat → FieldType := fun k => match k with
  | 0 => .object "ForwardHeap$Collector"
  | _ => .object "ForwardHeap$Memory"
abbrev wsX50 : List Cond := u_ws RX5 TX5 2
theorem nmX5 : ∀ a, a < 2 → ∀ b, b < 2 → a ≠ b → (TX5 a).2.1 ≠ (TX5 b).2.1 := by decide +kernel
theorem tyX5_ok : ∀ k, k < 2 → parseFieldDescriptor (TX5 k).2.2.1 = some (tyX5 k) := by decide +kernel
abbrev cX5_init : ByteArray := prog_1_method_1_code
def yX5_init : MethodName := ⟨RX5, "<init>", "(II)V"⟩
abbrev cX5_alloc : ByteArray := prog_1_method_2_code
def yX5_alloc : MethodName := ⟨RX5, "alloc", "(III)I"⟩
abbrev cX5_move : ByteArray := prog_1_method_3_code
def yX5_move : MethodName := ⟨RX5, "move", "(II)V"⟩
abbrev cX5_drop : ByteArray := prog_1_method_4_code
def yX5_drop : MethodName := ⟨RX5, "drop", "(I)Z"⟩
abbrev cX5_read : ByteArray := prog_1_method_5_code
def yX5_read : MethodName := ⟨RX5, "read", "(III)I"⟩
abbrev cX5_write : ByteArray := prog_1_method_6_code
def yX5_write : MethodName := ⟨RX5, "write", "(III)I"⟩
abbrev cX5_tag : ByteArray := prog_1_method_7_code
def yX5_tag : MethodName := ⟨RX5, "tag", "(I)I"⟩
abbrev cX5_same : ByteArray := prog_1_method_8_code
def yX5_same : MethodName := ⟨RX5, "same", "(II)Z"⟩
abbrev cX5_where : ByteArray := prog_1_method_9_code
def yX5_where : MethodName := ⟨RX5, "where", "(I)I"⟩
abbrev cX5_begin : ByteArray := prog_1_method_10_code
def yX5_begin : MethodName := ⟨RX5, "begin", "()I"⟩
abbrev cX5_work : ByteArray := prog_1_method_11_code
def yX5_work : MethodName := ⟨RX5, "work", "(I)I"⟩
abbrev cX5_collect : ByteArray := prog_1_method_12_code
def yX5_collect : MethodName := ⟨RX5, "collect", "()I"⟩
abbrev cX5_region : ByteArray := prog_1_method_13_code
def yX5_region : MethodName := ⟨RX5, "region", "(II)I"⟩
abbrev cX5_count : ByteArray := prog_1_method_14_code
def yX5_count : MethodName := ⟨RX5, "count", "(I)I"⟩
abbrev cX5_within : ByteArray := prog_1_method_15_code
def yX5_within : MethodName := ⟨RX5, "within", "(III)I"⟩
abbrev cX5_checkRegister : ByteArray := prog_1_method_16_code
def yX5_checkRegister : MethodName := ⟨RX5, "checkRegister", "(I)V"⟩
abbrev cX5_checkField : ByteArray := prog_1_method_17_code
def yX5_checkField : MethodName := ⟨RX5, "checkField", "(LForwardHeap$HeapObject;I)V"⟩
abbrev cX5_objectIn : ByteArray := prog_1_method_18_code
def yX5_objectIn : MethodName := ⟨RX5, "objectIn", "(I)LForwardHeap$HeapObject;"⟩
abbrev cX5_tagOf : ByteArray := prog_1_method_19_code
def yX5_tagOf : MethodName := ⟨RX5, "tagOf", "(LForwardHeap$HeapObject;)I"⟩
abbrev cX5_placeOf : ByteArray := prog_1_method_20_code
def yX5_placeOf : MethodName := ⟨RX5, "placeOf", "(LForwardHeap$HeapObject;)I"⟩
def RX6 : String := "ForwardHeapModel"
def TX6 : u_T := fun k => match k with
  | 0 => ("ForwardHeapModel", "thrown", "I", false)
  | 1 => ("ForwardHeapModel", "regions", "I", true)
  | 2 => ("ForwardHeapModel", "threshold", "I", true)
  | 3 => ("ForwardHeapModel", "states", "[I", true)
  | 4 => ("ForwardHeapModel", "used", "[I", true)
  | 5 => ("ForwardHeapModel", "failures", "[Z", true)
  | 6 => ("ForwardHeapModel", "objects", "I", false)
  | 7 => ("ForwardHeapModel", "home", "[I", true)
  | 8 => ("ForwardHeapModel", "first", "[I", true)
  | 9 => ("ForwardHeapModel", "sizes", "[I", true)
  | 10 => ("ForwardHeapModel", "tags", "[I", true)
  | 11 => ("ForwardHeapModel", "fields", "[I", true)
  | 12 => ("ForwardHeapModel", "seen", "[Z", true)
  | 13 => ("ForwardHeapModel", "failed", "[Z", true)
  | 14 => ("ForwardHeapModel", "registers", "[I", true)
  | 15 => ("ForwardHeapModel", "row", "[I", true)
  | 16 => ("ForwardHeapModel", "rowFirst", "I", false)
  | 17 => ("ForwardHeapModel", "rowCount", "I", false)
  | 18 => ("ForwardHeapModel", "phase", "I", false)
  | 19 => ("ForwardHeapModel", "next", "I", false)
  | 20 => ("ForwardHeapModel", "movedAll", "I", false)
  | _ => ("ForwardHeapModel", "failedAll", "I", false)
def tyX6 : Nat → FieldType := fun k => match k with
  | 0 => .int
  | 1 => .int
  | 2 => .int
  | 3 => .array .int
  | 4 => .array .int
  | 5 => .array .boolean
  | 6 => .int
  | 7 => .array .int
  | 8 => .array .int
  | 9 => .array .int
  | 10 => .array .int
  | 11 => .array .int
  | 12 => .array .boolean
  | 13 => .array .boolean
  | 14 => .array .int
  | 15 => .array .int
  | 16 => .int
  | 17 => .int
  | 18 => .int
  | 19 => .int
  | 20 => .int
  | _ => .int
abbrev wsX60 : List Cond := u_ws RX6 TX6 22
theorem nmX6 : ∀ a, a < 22 → ∀ b, b < 22 → a ≠ b → (TX6 a).2.1 ≠ (TX6 b).2.1 := by decide +kernel
theorem tyX6_ok : ∀ k, k < 22 → parseFieldDescriptor (TX6 k).2.2.1 = some (tyX6 k) := by decide +kernel
abbrev cX6_init : ByteArray := prog_8_method_1_code
def yX6_init : MethodName := ⟨RX6, "<init>", "(II)V"⟩
abbrev cX6_thrown : ByteArray := prog_8_method_2_code
def yX6_thrown : MethodName := ⟨RX6, "thrown", "()I"⟩
abbrev cX6_good : ByteArray := prog_8_method_3_code
def yX6_good : MethodName := ⟨RX6, "good", "(ZZ)Z"⟩
abbrev cX6_isRegister : ByteArray := prog_8_method_4_code
def yX6_isRegister : MethodName := ⟨RX6, "isRegister", "(I)Z"⟩
abbrev cX6_place : ByteArray := prog_8_method_5_code
def yX6_place : MethodName := ⟨RX6, "place", "(I)I"⟩
abbrev cX6_withState : ByteArray := prog_8_method_6_code
def yX6_withState : MethodName := ⟨RX6, "withState", "(I)I"⟩
abbrev cX6_seenIn : ByteArray := prog_8_method_7_code
def yX6_seenIn : MethodName := ⟨RX6, "seenIn", "(I)I"⟩
abbrev cX6_see : ByteArray := prog_8_method_8_code
def yX6_see : MethodName := ⟨RX6, "see", "(I)V"⟩
abbrev cX6_start : ByteArray := prog_8_method_9_code
def yX6_start : MethodName := ⟨RX6, "start", "()V"⟩
abbrev cX6_mark : ByteArray := prog_8_method_10_code
def yX6_mark : MethodName := ⟨RX6, "mark", "()V"⟩
abbrev cX6_isToMove : ByteArray := prog_8_method_11_code
def yX6_isToMove : MethodName := ⟨RX6, "isToMove", "(I)Z"⟩
abbrev cX6_carry : ByteArray := prog_8_method_12_code
def yX6_carry : MethodName := ⟨RX6, "carry", "(I)V"⟩
abbrev cX6_moveOne : ByteArray := prog_8_method_13_code
def yX6_moveOne : MethodName := ⟨RX6, "moveOne", "()V"⟩
abbrev cX6_update : ByteArray := prog_8_method_14_code
def yX6_update : MethodName := ⟨RX6, "update", "()V"⟩
abbrev cX6_unit : ByteArray := prog_8_method_15_code
def yX6_unit : MethodName := ⟨RX6, "unit", "()V"⟩
abbrev cX6_finish : ByteArray := prog_8_method_16_code
def yX6_finish : MethodName := ⟨RX6, "finish", "()V"⟩
abbrev cX6_whole : ByteArray := prog_8_method_17_code
def yX6_whole : MethodName := ⟨RX6, "whole", "()V"⟩
abbrev cX6_hasActive : ByteArray := prog_8_method_18_code
def yX6_hasActive : MethodName := ⟨RX6, "hasActive", "(I)Z"⟩
abbrev cX6_alloc : ByteArray := prog_8_method_19_code
def yX6_alloc : MethodName := ⟨RX6, "alloc", "(III)I"⟩
abbrev cX6_move : ByteArray := prog_8_method_20_code
def yX6_move : MethodName := ⟨RX6, "move", "(II)V"⟩
abbrev cX6_drop : ByteArray := prog_8_method_21_code
def yX6_drop : MethodName := ⟨RX6, "drop", "(I)Z"⟩
abbrev cX6_tagOf : ByteArray := prog_8_method_22_code
def yX6_tagOf : MethodName := ⟨RX6, "tagOf", "(I)I"⟩
abbrev cX6_hasField : ByteArray := prog_8_method_23_code
def yX6_hasField : MethodName := ⟨RX6, "hasField", "(IIII)Z"⟩
abbrev cX6_read : ByteArray := prog_8_method_24_code
def yX6_read : MethodName := ⟨RX6, "read", "(III)I"⟩
abbrev cX6_write : ByteArray := prog_8_method_25_code
def yX6_write : MethodName := ⟨RX6, "write", "(III)I"⟩
abbrev cX6_tag : ByteArray := prog_8_method_26_code
def yX6_tag : MethodName := ⟨RX6, "tag", "(I)I"⟩
abbrev cX6_same : ByteArray := prog_8_method_27_code
def yX6_same : MethodName := ⟨RX6, "same", "(II)Z"⟩
abbrev cX6_where : ByteArray := prog_8_method_28_code
def yX6_where : MethodName := ⟨RX6, "where", "(I)I"⟩
abbrev cX6_begin : ByteArray := prog_8_method_29_code
def yX6_begin : MethodName := ⟨RX6, "begin", "()I"⟩
abbrev cX6_work : ByteArray := prog_8_method_30_code
def yX6_work : MethodName := ⟨RX6, "work", "(I)I"⟩
abbrev cX6_collect : ByteArray := prog_8_method_31_code
def yX6_collect : MethodName := ⟨RX6, "collect", "()I"⟩
abbrev cX6_region : ByteArray := prog_8_method_32_code
def yX6_region : MethodName := ⟨RX6, "region", "(II)I"⟩
abbrev cX6_count : ByteArray := prog_8_method_33_code
def yX6_count : MethodName := ⟨RX6, "count", "(I)I"⟩
def RJ9 : String := "java/lang/Math"
def TJ9 : u_T := fun k => match k with
  | _ => ("", "", "", false)
def tyJ9 : Nat → FieldType := fun k => match k with
  | _ => .int
abbrev wsJ90 : List Cond := u_ws RJ9 TJ9 0
theorem nmJ9 : ∀ a, a < 0 → ∀ b, b < 0 → a ≠ b → (TJ9 a).2.1 ≠ (TJ9 b).2.1 := by decide +kernel
theorem tyJ9_ok : ∀ k, k < 0 → parseFieldDescriptor (TJ9 k).2.2.1 = some (tyJ9 k) := by decide +kernel
abbrev cJ9_max_7cf53 : ByteArray := prog_13_method_65_code
def yJ9_max_7cf53 : MethodName := ⟨RJ9, "max", "(II)I"⟩
abbrev cJ9_min_7cf53 : ByteArray := prog_13_method_69_code
def yJ9_min_7cf53 : MethodName := ⟨RJ9, "min", "(II)I"⟩
def RJ0 : String := "java/lang/String"
def TJ0 : u_T := fun k => match k with
  | _ => ("", "", "", false)
def tyJ0 : Nat → FieldType := fun k => match k with
  | _ => .int
abbrev wsJ00 : List Cond := u_ws RJ0 TJ0 0
theorem nmJ0 : ∀ a, a < 0 → ∀ b, b < 0 → a ≠ b → (TJ0 a).2.1 ≠ (TJ0 b).2.1 := by decide +kernel
theorem tyJ0_ok : ∀ k, k < 0 → parseFieldDescriptor (TJ0 k).2.2.1 = some (tyJ0 k) := by decide +kernel
def RL : String := "ForwardHeapLaw"
abbrev cL_cell : ByteArray := method_2_code
def yL_cell : MethodName := ⟨RL, "cell", "([II)I"⟩
abbrev cL_alloc : ByteArray := method_3_code
def yL_alloc : MethodName := ⟨RL, "alloc", "(LForwardHeap;III[J)I"⟩
abbrev cL_move : ByteArray := method_4_code
def yL_move : MethodName := ⟨RL, "move", "(LForwardHeap;II)I"⟩
abbrev cL_drop : ByteArray := method_5_code
def yL_drop : MethodName := ⟨RL, "drop", "(LForwardHeap;I[J)I"⟩
abbrev cL_read : ByteArray := method_6_code
def yL_read : MethodName := ⟨RL, "read", "(LForwardHeap;III[J)I"⟩
abbrev cL_write : ByteArray := method_7_code
def yL_write : MethodName := ⟨RL, "write", "(LForwardHeap;III[J)I"⟩
abbrev cL_tag : ByteArray := method_8_code
def yL_tag : MethodName := ⟨RL, "tag", "(LForwardHeap;I[J)I"⟩
abbrev cL_same : ByteArray := method_9_code
def yL_same : MethodName := ⟨RL, "same", "(LForwardHeap;II[J)I"⟩
abbrev cL_where : ByteArray := method_10_code
def yL_where : MethodName := ⟨RL, "where", "(LForwardHeap;I[J)I"⟩
abbrev cL_work : ByteArray := method_11_code
def yL_work : MethodName := ⟨RL, "work", "(LForwardHeap;I[J)I"⟩
abbrev cL_region : ByteArray := method_12_code
def yL_region : MethodName := ⟨RL, "region", "(LForwardHeap;II[J)I"⟩
abbrev cL_law : ByteArray := code
def yL_law : MethodName := ⟨RL, "law", "([I)Z"⟩
