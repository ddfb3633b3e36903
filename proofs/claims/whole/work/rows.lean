section
-- ===== PART A: goes FIRST, ahead of the names: the tables' words, and 'selects' of the private methods out of them =====
/-- a private method of a class that the tables say can be made, by its rows of tables_1 -/
def lw_okq (q : MethodName × Nat) : Prop := (q.1.cls ≠ "java/lang/invoke/MethodHandle" ∧ q.1.cls ≠ "java/lang/invoke/VarHandle") ∧ Cond.instantiable q.1.cls q.2 ∈ tables_1 ∧ Cond.privateMethod q.1 ∈ tables_1 ∧ Cond.instanceMethod q.1 ∈ tables_1
theorem lw_p0 : lw_okq (⟨"BeadBench", "thingFor", "(II)LBeadBench$Thing;"⟩, 7) := ⟨⟨by decide +kernel, by decide +kernel⟩, List.mem_of_getElem? (i := 8) (by decide +kernel), List.mem_of_getElem? (i := 96) (by decide +kernel), List.mem_of_getElem? (i := 97) (by decide +kernel)⟩
theorem lw_p1 : lw_okq (⟨"BeadBench", "newPiece", "(I)LBeadBench$Piece;"⟩, 7) := ⟨⟨by decide +kernel, by decide +kernel⟩, List.mem_of_getElem? (i := 8) (by decide +kernel), List.mem_of_getElem? (i := 103) (by decide +kernel), List.mem_of_getElem? (i := 104) (by decide +kernel)⟩
theorem lw_p2 : lw_okq (⟨"BeadBench", "keep", "(LBeadBench$Holding;)V"⟩, 7) := ⟨⟨by decide +kernel, by decide +kernel⟩, List.mem_of_getElem? (i := 8) (by decide +kernel), List.mem_of_getElem? (i := 153) (by decide +kernel), List.mem_of_getElem? (i := 154) (by decide +kernel)⟩
theorem lw_p3 : lw_okq (⟨"BeadBench", "carry", "(LBeadBench$Holding;ILBeadBench$Holding;II)I"⟩, 7) := ⟨⟨by decide +kernel, by decide +kernel⟩, List.mem_of_getElem? (i := 8) (by decide +kernel), List.mem_of_getElem? (i := 161) (by decide +kernel), List.mem_of_getElem? (i := 162) (by decide +kernel)⟩
theorem lw_p4 : lw_okq (⟨"BeadBench", "counted", "(I)I"⟩, 7) := ⟨⟨by decide +kernel, by decide +kernel⟩, List.mem_of_getElem? (i := 8) (by decide +kernel), List.mem_of_getElem? (i := 172) (by decide +kernel), List.mem_of_getElem? (i := 173) (by decide +kernel)⟩
theorem lw_p5 : lw_okq (⟨"BeadBenchModel", "isRow", "(I)Z"⟩, 16) := ⟨⟨by decide +kernel, by decide +kernel⟩, List.mem_of_getElem? (i := 251) (by decide +kernel), List.mem_of_getElem? (i := 329) (by decide +kernel), List.mem_of_getElem? (i := 330) (by decide +kernel)⟩
theorem lw_p6 : lw_okq (⟨"BeadBenchModel", "lacks", "(I)I"⟩, 16) := ⟨⟨by decide +kernel, by decide +kernel⟩, List.mem_of_getElem? (i := 251) (by decide +kernel), List.mem_of_getElem? (i := 333) (by decide +kernel), List.mem_of_getElem? (i := 334) (by decide +kernel)⟩
theorem lw_p7 : lw_okq (⟨"BeadBenchModel", "made", "(I)J"⟩, 16) := ⟨⟨by decide +kernel, by decide +kernel⟩, List.mem_of_getElem? (i := 251) (by decide +kernel), List.mem_of_getElem? (i := 346) (by decide +kernel), List.mem_of_getElem? (i := 347) (by decide +kernel)⟩
theorem lw_p8 : lw_okq (⟨"BeadBenchModel", "sizeOf", "(I)I"⟩, 16) := ⟨⟨by decide +kernel, by decide +kernel⟩, List.mem_of_getElem? (i := 251) (by decide +kernel), List.mem_of_getElem? (i := 350) (by decide +kernel), List.mem_of_getElem? (i := 351) (by decide +kernel)⟩
theorem lw_p9 : lw_okq (⟨"BeadBenchModel", "goes", "(IJ)Z"⟩, 16) := ⟨⟨by decide +kernel, by decide +kernel⟩, List.mem_of_getElem? (i := 251) (by decide +kernel), List.mem_of_getElem? (i := 354) (by decide +kernel), List.mem_of_getElem? (i := 355) (by decide +kernel)⟩
theorem lw_p10 : lw_okq (⟨"BeadBenchModel", "set", "(IIJ)V"⟩, 16) := ⟨⟨by decide +kernel, by decide +kernel⟩, List.mem_of_getElem? (i := 251) (by decide +kernel), List.mem_of_getElem? (i := 358) (by decide +kernel), List.mem_of_getElem? (i := 359) (by decide +kernel)⟩
theorem lw_p11 : lw_okq (⟨"BeadBenchModel", "keep", "(I)V"⟩, 16) := ⟨⟨by decide +kernel, by decide +kernel⟩, List.mem_of_getElem? (i := 251) (by decide +kernel), List.mem_of_getElem? (i := 366) (by decide +kernel), List.mem_of_getElem? (i := 367) (by decide +kernel)⟩
theorem lw_p12 : lw_okq (⟨"BeadBenchModel", "get", "(II)J"⟩, 16) := ⟨⟨by decide +kernel, by decide +kernel⟩, List.mem_of_getElem? (i := 251) (by decide +kernel), List.mem_of_getElem? (i := 370) (by decide +kernel), List.mem_of_getElem? (i := 371) (by decide +kernel)⟩
theorem lw_p13 : lw_okq (⟨"BeadBenchModel", "moved", "(IIIII)I"⟩, 16) := ⟨⟨by decide +kernel, by decide +kernel⟩, List.mem_of_getElem? (i := 251) (by decide +kernel), List.mem_of_getElem? (i := 374) (by decide +kernel), List.mem_of_getElem? (i := 375) (by decide +kernel)⟩
theorem lw_p14 : lw_okq (⟨"BeadBenchModel", "unlike", "(II)I"⟩, 16) := ⟨⟨by decide +kernel, by decide +kernel⟩, List.mem_of_getElem? (i := 251) (by decide +kernel), List.mem_of_getElem? (i := 378) (by decide +kernel), List.mem_of_getElem? (i := 379) (by decide +kernel)⟩
theorem lw_p15 : lw_okq (⟨"BeadBenchModel", "told0", "(I)I"⟩, 16) := ⟨⟨by decide +kernel, by decide +kernel⟩, List.mem_of_getElem? (i := 251) (by decide +kernel), List.mem_of_getElem? (i := 382) (by decide +kernel), List.mem_of_getElem? (i := 383) (by decide +kernel)⟩
def lw_privs_1 : List (MethodName × Nat) := [(⟨"BeadBench", "thingFor", "(II)LBeadBench$Thing;"⟩, 7), (⟨"BeadBench", "newPiece", "(I)LBeadBench$Piece;"⟩, 7), (⟨"BeadBench", "keep", "(LBeadBench$Holding;)V"⟩, 7), (⟨"BeadBench", "carry", "(LBeadBench$Holding;ILBeadBench$Holding;II)I"⟩, 7), (⟨"BeadBench", "counted", "(I)I"⟩, 7), (⟨"BeadBenchModel", "isRow", "(I)Z"⟩, 16), (⟨"BeadBenchModel", "lacks", "(I)I"⟩, 16), (⟨"BeadBenchModel", "made", "(I)J"⟩, 16), (⟨"BeadBenchModel", "sizeOf", "(I)I"⟩, 16), (⟨"BeadBenchModel", "goes", "(IJ)Z"⟩, 16), (⟨"BeadBenchModel", "set", "(IIJ)V"⟩, 16), (⟨"BeadBenchModel", "keep", "(I)V"⟩, 16), (⟨"BeadBenchModel", "get", "(II)J"⟩, 16), (⟨"BeadBenchModel", "moved", "(IIIII)I"⟩, 16), (⟨"BeadBenchModel", "unlike", "(II)I"⟩, 16), (⟨"BeadBenchModel", "told0", "(I)I"⟩, 16)]
theorem lw_r1 : ∀ q ∈ lw_privs_1, lw_okq q := List.forall_mem_cons.mpr ⟨lw_p0, List.forall_mem_cons.mpr ⟨lw_p1, List.forall_mem_cons.mpr ⟨lw_p2, List.forall_mem_cons.mpr ⟨lw_p3, List.forall_mem_cons.mpr ⟨lw_p4, List.forall_mem_cons.mpr ⟨lw_p5, List.forall_mem_cons.mpr ⟨lw_p6, List.forall_mem_cons.mpr ⟨lw_p7, List.forall_mem_cons.mpr ⟨lw_p8, List.forall_mem_cons.mpr ⟨lw_p9, List.forall_mem_cons.mpr ⟨lw_p10, List.forall_mem_cons.mpr ⟨lw_p11, List.forall_mem_cons.mpr ⟨lw_p12, List.forall_mem_cons.mpr ⟨lw_p13, List.forall_mem_cons.mpr ⟨lw_p14, List.forall_mem_cons.mpr ⟨lw_p15, fun _ h => absurd h List.not_mem_nil⟩⟩⟩⟩⟩⟩⟩⟩⟩⟩⟩⟩⟩⟩⟩⟩
def lw_privs : List (MethodName × Nat) := lw_privs_1
def lw_tbl : List Cond := k2_sels lw_privs ++ tables_1
theorem lw_privs_ok : ∀ q ∈ lw_privs, lw_okq q := lw_r1
end
section
/-! ===== BEGIN words of one list among another's, by their places ===== -/
theorem goodIn_r {big : List Cond} (ws : List Cond) (ps : List Nat) (hp : ws = ps.filterMap (fun i => big[i]?)) (h : ws.all goodWord = true) : GoodIn big ws := by
  intro w hw
  have h1 := List.all_eq_true.mp h w hw
  rw [hp] at hw
  obtain ⟨i, -, hi⟩ := List.mem_filterMap.mp hw
  have hm : w ∈ big := by first | exact List.mem_of_getElem? hi | exact List.getElem?_mem hi
  exact ⟨hm, good_of_word h1⟩
theorem goodIn_app {big a b : List Cond} (ha : GoodIn big a) (hb : GoodIn big b) : GoodIn big (a ++ b) := fun w h => (List.mem_append.mp h).elim (ha w) (hb w)
theorem goodIn_ca {big a b : List Cond} {c : Cond} (ha : GoodIn big (c :: a)) (hb : GoodIn big b) : GoodIn big (c :: (a ++ b)) := fun w h => (List.mem_cons.mp h).elim (fun e => ha w (List.mem_cons.mpr (Or.inl e))) (fun h => (List.mem_append.mp h).elim (fun h => ha w (List.mem_cons.mpr (Or.inr h))) (hb w))
theorem goodIn_sub {big ws : List Cond} (hm : ∀ w ∈ ws, w ∈ big) (h : ws.all goodWord = true) : GoodIn big ws := fun w hw => ⟨hm w hw, good_of_word (List.all_eq_true.mp h w hw)⟩
/-! ===== END ===== -/

/-! ===== BEGIN printed: names, fields, word lists, decode rows ===== -/
def RX0 : String := "BeadBench$Holding"
def TX0 : u_T := fun k => match k with
  | 0 => ("BeadBench$Holding", "kind", "I", true)
  | 1 => ("BeadBench$Holding", "size", "I", true)
  | 2 => ("BeadBench$Holding", "ticketNumber", "I", true)
  | 3 => ("BeadBench$Holding", "numbers", "[J", true)
  | _ => ("BeadBench$Holding", "things", "[LBeadBench$Thing;", true)
def tyX0 : Nat → FieldType := fun k => match k with
  | 0 => .int
  | 1 => .int
  | 2 => .int
  | 3 => .array .long
  | _ => .array (.object "BeadBench$Thing")
abbrev wsX00 : List Cond := u_ws RX0 TX0 5
theorem nmX0 : ∀ a, a < 5 → ∀ b, b < 5 → a ≠ b → (TX0 a).2.1 ≠ (TX0 b).2.1 := by decide +kernel
theorem tyX0_ok : ∀ k, k < 5 → parseFieldDescriptor (TX0 k).2.2.1 = some (tyX0 k) := by decide +kernel
abbrev cX0_init : ByteArray := prog_2_method_1_code
def yX0_init : MethodName := ⟨RX0, "<init>", "(III)V"⟩
abbrev cX0_sortOfThing : ByteArray := prog_2_method_2_code
def yX0_sortOfThing : MethodName := ⟨RX0, "sortOfThing", "()I"⟩
abbrev cX0_count : ByteArray := prog_2_method_3_code
def yX0_count : MethodName := ⟨RX0, "count", "()I"⟩
abbrev cX0_shine : ByteArray := prog_2_method_4_code
def yX0_shine : MethodName := ⟨RX0, "shine", "()I"⟩
abbrev cX0_refusal : ByteArray := prog_2_method_5_code
def yX0_refusal : MethodName := ⟨RX0, "refusal", "()I"⟩
abbrev cX0_isOfNumbers : ByteArray := prog_2_method_6_code
def yX0_isOfNumbers : MethodName := ⟨RX0, "isOfNumbers", "()Z"⟩
abbrev cX0_hasPlace : ByteArray := prog_2_method_7_code
def yX0_hasPlace : MethodName := ⟨RX0, "hasPlace", "(I)Z"⟩
abbrev cX0_hasPlaces : ByteArray := prog_2_method_8_code
def yX0_hasPlaces : MethodName := ⟨RX0, "hasPlaces", "(II)Z"⟩
abbrev cX0_accepts : ByteArray := prog_2_method_9_code
def yX0_accepts : MethodName := ⟨RX0, "accepts", "(LBeadBench$Thing;)Z"⟩
abbrev cX0_copyPlace : ByteArray := prog_2_method_10_code
def yX0_copyPlace : MethodName := ⟨RX0, "copyPlace", "(ILBeadBench$Holding;I)V"⟩
abbrev cX0_isAlike : ByteArray := prog_2_method_11_code
def yX0_isAlike : MethodName := ⟨RX0, "isAlike", "(ILBeadBench$Holding;I)Z"⟩
def RX1 : String := "BeadBench$Piece"
def TX1 : u_T := fun k => match k with
  | 0 => ("BeadBench$Piece", "sort", "I", true)
  | 1 => ("BeadBench$Piece", "number", "I", true)
  | _ => ("BeadBench$Piece", "gloss", "I", false)
def tyX1 : Nat → FieldType := fun k => match k with
  | 0 => .int
  | 1 => .int
  | _ => .int
abbrev wsX10 : List Cond := u_ws RX1 TX1 3
theorem nmX1 : ∀ a, a < 3 → ∀ b, b < 3 → a ≠ b → (TX1 a).2.1 ≠ (TX1 b).2.1 := by decide +kernel
theorem tyX1_ok : ∀ k, k < 3 → parseFieldDescriptor (TX1 k).2.2.1 = some (tyX1 k) := by decide +kernel
abbrev cX1_init : ByteArray := prog_3_method_1_code
def yX1_init : MethodName := ⟨RX1, "<init>", "(II)V"⟩
abbrev cX1_sortOfThing : ByteArray := prog_3_method_2_code
def yX1_sortOfThing : MethodName := ⟨RX1, "sortOfThing", "()I"⟩
abbrev cX1_count : ByteArray := prog_3_method_3_code
def yX1_count : MethodName := ⟨RX1, "count", "()I"⟩
abbrev cX1_shine : ByteArray := prog_3_method_4_code
def yX1_shine : MethodName := ⟨RX1, "shine", "()I"⟩
def RX2 : String := "BeadBench$Thing"
def TX2 : u_T := fun k => match k with
  | _ => ("", "", "", false)
def tyX2 : Nat → FieldType := fun k => match k with
  | _ => .int
abbrev wsX20 : List Cond := u_ws RX2 TX2 0
theorem nmX2 : ∀ a, a < 0 → ∀ b, b < 0 → a ≠ b → (TX2 a).2.1 ≠ (TX2 b).2.1 := by decide +kernel
theorem tyX2_ok : ∀ k, k < 0 → parseFieldDescriptor (TX2 k).2.2.1 = some (tyX2 k) := by decide +kernel
abbrev cX2_init : ByteArray := prog_4_method_1_code
def yX2_init : MethodName := ⟨RX2, "<init>", "()V"⟩
def RX3 : String := "BeadBench"
def TX3 : u_T := fun k => match k with
  | 0 => ("BeadBench", "nothing", "LBeadBench$Holding;", true)
  | 1 => ("BeadBench", "trays", "[LBeadBench$Holding;", true)
  | 2 => ("BeadBench", "before", "LBeadBench$Holding;", true)
  | 3 => ("BeadBench", "changed", "LBeadBench$Holding;", false)
  | 4 => ("BeadBench", "tally", "[I", true)
  | 5 => ("BeadBench", "filled", "I", false)
  | _ => ("BeadBench", "piecesMade", "I", false)
def tyX3 : Nat → FieldType := fun k => match k with
  | 0 => .object "BeadBench$Holding"
  | 1 => .array (.object "BeadBench$Holding")
  | 2 => .object "BeadBench$Holding"
  | 3 => .object "BeadBench$Holding"
  | 4 => .array .int
  | 5 => .int
  | _ => .int
abbrev wsX30 : List Cond := u_ws RX3 TX3 7
theorem nmX3 : ∀ a, a < 7 → ∀ b, b < 7 → a ≠ b → (TX3 a).2.1 ≠ (TX3 b).2.1 := by decide +kernel
theorem tyX3_ok : ∀ k, k < 7 → parseFieldDescriptor (TX3 k).2.2.1 = some (tyX3 k) := by decide +kernel
abbrev cX3_init : ByteArray := prog_1_method_1_code
def yX3_init : MethodName := ⟨RX3, "<init>", "()V"⟩
abbrev cX3_lay : ByteArray := prog_1_method_2_code
def yX3_lay : MethodName := ⟨RX3, "lay", "(III)I"⟩
abbrev cX3_ticket : ByteArray := prog_1_method_3_code
def yX3_ticket : MethodName := ⟨RX3, "ticket", "(III)Z"⟩
abbrev cX3_share : ByteArray := prog_1_method_4_code
def yX3_share : MethodName := ⟨RX3, "share", "(II)I"⟩
abbrev cX3_put : ByteArray := prog_1_method_5_code
def yX3_put : MethodName := ⟨RX3, "put", "(III)I"⟩
abbrev cX3_move : ByteArray := prog_1_method_6_code
def yX3_move : MethodName := ⟨RX3, "move", "(IIIII)I"⟩
abbrev cX3_open : ByteArray := prog_1_method_7_code
def yX3_open : MethodName := ⟨RX3, "open", "(III)I"⟩
abbrev cX3_close : ByteArray := prog_1_method_8_code
def yX3_close : MethodName := ⟨RX3, "close", "(III)I"⟩
abbrev cX3_turn : ByteArray := prog_1_method_9_code
def yX3_turn : MethodName := ⟨RX3, "turn", "(II)I"⟩
abbrev cX3_spread : ByteArray := prog_1_method_10_code
def yX3_spread : MethodName := ⟨RX3, "spread", "(II)I"⟩
abbrev cX3_undo : ByteArray := prog_1_method_11_code
def yX3_undo : MethodName := ⟨RX3, "undo", "()I"⟩
abbrev cX3_match : ByteArray := prog_1_method_12_code
def yX3_match : MethodName := ⟨RX3, "match", "(IIIII)I"⟩
abbrev cX3_polish : ByteArray := prog_1_method_13_code
def yX3_polish : MethodName := ⟨RX3, "polish", "(III)I"⟩
abbrev cX3_tray : ByteArray := prog_1_method_14_code
def yX3_tray : MethodName := ⟨RX3, "tray", "(II)I"⟩
abbrev cX3_what : ByteArray := prog_1_method_15_code
def yX3_what : MethodName := ⟨RX3, "what", "(II)I"⟩
abbrev cX3_at : ByteArray := prog_1_method_16_code
def yX3_at : MethodName := ⟨RX3, "at", "(II)J"⟩
abbrev cX3_polished : ByteArray := prog_1_method_17_code
def yX3_polished : MethodName := ⟨RX3, "polished", "(II)I"⟩
abbrev cX3_told : ByteArray := prog_1_method_18_code
def yX3_told : MethodName := ⟨RX3, "told", "(I)I"⟩
abbrev cX3_isTray : ByteArray := prog_1_method_19_code
def yX3_isTray : MethodName := ⟨RX3, "isTray", "(I)Z"⟩
abbrev cX3_keep : ByteArray := prog_1_method_20_code
def yX3_keep : MethodName := ⟨RX3, "keep", "(LBeadBench$Holding;)V"⟩
abbrev cX3_counted : ByteArray := prog_1_method_21_code
def yX3_counted : MethodName := ⟨RX3, "counted", "(I)I"⟩
abbrev cX3_carry : ByteArray := prog_1_method_22_code
def yX3_carry : MethodName := ⟨RX3, "carry", "(LBeadBench$Holding;ILBeadBench$Holding;II)I"⟩
abbrev cX3_refusalOfPair : ByteArray := prog_1_method_23_code
def yX3_refusalOfPair : MethodName := ⟨RX3, "refusalOfPair", "(LBeadBench$Holding;LBeadBench$Holding;)I"⟩
abbrev cX3_thingFor : ByteArray := prog_1_method_24_code
def yX3_thingFor : MethodName := ⟨RX3, "thingFor", "(II)LBeadBench$Thing;"⟩
abbrev cX3_newPiece : ByteArray := prog_1_method_25_code
def yX3_newPiece : MethodName := ⟨RX3, "newPiece", "(I)LBeadBench$Piece;"⟩
abbrev cX3_numberFor : ByteArray := prog_1_method_26_code
def yX3_numberFor : MethodName := ⟨RX3, "numberFor", "(II)J"⟩
def RX4 : String := "BeadBenchModel"
def TX4 : u_T := fun k => match k with
  | 0 => ("BeadBenchModel", "has", "[I", true)
  | 1 => ("BeadBenchModel", "holds", "[I", true)
  | 2 => ("BeadBenchModel", "rowKind", "[I", true)
  | 3 => ("BeadBenchModel", "rowFrom", "[I", true)
  | 4 => ("BeadBenchModel", "rowSize", "[I", true)
  | 5 => ("BeadBenchModel", "cell", "[J", true)
  | 6 => ("BeadBenchModel", "rows", "I", false)
  | 7 => ("BeadBenchModel", "cells", "I", false)
  | 8 => ("BeadBenchModel", "sort", "[I", true)
  | 9 => ("BeadBenchModel", "polish", "[I", true)
  | 10 => ("BeadBenchModel", "pieces", "I", false)
  | 11 => ("BeadBenchModel", "going", "[J", true)
  | 12 => ("BeadBenchModel", "before", "[J", true)
  | 13 => ("BeadBenchModel", "beforeRow", "I", false)
  | 14 => ("BeadBenchModel", "filled", "I", false)
  | _ => ("BeadBenchModel", "counts", "[I", true)
def tyX4 : Nat → FieldType := fun k => match k with
  | 0 => .array .int
  | 1 => .array .int
  | 2 => .array .int
  | 3 => .array .int
  | 4 => .array .int
  | 5 => .array .long
  | 6 => .int
  | 7 => .int
  | 8 => .array .int
  | 9 => .array .int
  | 10 => .int
  | 11 => .array .long
  | 12 => .array .long
  | 13 => .int
  | 14 => .int
  | _ => .array .int
abbrev wsX40 : List Cond := u_ws RX4 TX4 16
theorem nmX4 : ∀ a, a < 16 → ∀ b, b < 16 → a ≠ b → (TX4 a).2.1 ≠ (TX4 b).2.1 := by decide +kernel
theorem tyX4_ok : ∀ k, k < 16 → parseFieldDescriptor (TX4 k).2.2.1 = some (tyX4 k) := by decide +kernel
abbrev cX4_init : ByteArray := prog_6_method_1_code
def yX4_init : MethodName := ⟨RX4, "<init>", "()V"⟩
abbrev cX4_in : ByteArray := prog_6_method_2_code
def yX4_in : MethodName := ⟨RX4, "in", "(III)Z"⟩
abbrev cX4_isTray : ByteArray := prog_6_method_3_code
def yX4_isTray : MethodName := ⟨RX4, "isTray", "(I)Z"⟩
abbrev cX4_isNumbers : ByteArray := prog_6_method_4_code
def yX4_isNumbers : MethodName := ⟨RX4, "isNumbers", "(I)Z"⟩
abbrev cX4_isRow : ByteArray := prog_6_method_5_code
def yX4_isRow : MethodName := ⟨RX4, "isRow", "(I)Z"⟩
abbrev cX4_lacks : ByteArray := prog_6_method_6_code
def yX4_lacks : MethodName := ⟨RX4, "lacks", "(I)I"⟩
abbrev cX4_sizeOf : ByteArray := prog_6_method_7_code
def yX4_sizeOf : MethodName := ⟨RX4, "sizeOf", "(I)I"⟩
abbrev cX4_get : ByteArray := prog_6_method_8_code
def yX4_get : MethodName := ⟨RX4, "get", "(II)J"⟩
abbrev cX4_set : ByteArray := prog_6_method_9_code
def yX4_set : MethodName := ⟨RX4, "set", "(IIJ)V"⟩
abbrev cX4_goes : ByteArray := prog_6_method_10_code
def yX4_goes : MethodName := ⟨RX4, "goes", "(IJ)Z"⟩
abbrev cX4_lay : ByteArray := prog_6_method_11_code
def yX4_lay : MethodName := ⟨RX4, "lay", "(III)I"⟩
abbrev cX4_ticket : ByteArray := prog_6_method_12_code
def yX4_ticket : MethodName := ⟨RX4, "ticket", "(III)Z"⟩
abbrev cX4_share : ByteArray := prog_6_method_13_code
def yX4_share : MethodName := ⟨RX4, "share", "(II)I"⟩
abbrev cX4_narrowed : ByteArray := prog_6_method_14_code
def yX4_narrowed : MethodName := ⟨RX4, "narrowed", "(II)J"⟩
abbrev cX4_made : ByteArray := prog_6_method_15_code
def yX4_made : MethodName := ⟨RX4, "made", "(I)J"⟩
abbrev cX4_put : ByteArray := prog_6_method_16_code
def yX4_put : MethodName := ⟨RX4, "put", "(III)I"⟩
abbrev cX4_keep : ByteArray := prog_6_method_17_code
def yX4_keep : MethodName := ⟨RX4, "keep", "(I)V"⟩
abbrev cX4_told0 : ByteArray := prog_6_method_18_code
def yX4_told0 : MethodName := ⟨RX4, "told0", "(I)I"⟩
abbrev cX4_unlike : ByteArray := prog_6_method_19_code
def yX4_unlike : MethodName := ⟨RX4, "unlike", "(II)I"⟩
abbrev cX4_moved : ByteArray := prog_6_method_20_code
def yX4_moved : MethodName := ⟨RX4, "moved", "(IIIII)I"⟩
abbrev cX4_move : ByteArray := prog_6_method_21_code
def yX4_move : MethodName := ⟨RX4, "move", "(IIIII)I"⟩
abbrev cX4_open : ByteArray := prog_6_method_22_code
def yX4_open : MethodName := ⟨RX4, "open", "(III)I"⟩
abbrev cX4_close : ByteArray := prog_6_method_23_code
def yX4_close : MethodName := ⟨RX4, "close", "(III)I"⟩
abbrev cX4_turn : ByteArray := prog_6_method_24_code
def yX4_turn : MethodName := ⟨RX4, "turn", "(II)I"⟩
abbrev cX4_spread : ByteArray := prog_6_method_25_code
def yX4_spread : MethodName := ⟨RX4, "spread", "(II)I"⟩
abbrev cX4_undo : ByteArray := prog_6_method_26_code
def yX4_undo : MethodName := ⟨RX4, "undo", "()I"⟩
abbrev cX4_match : ByteArray := prog_6_method_27_code
def yX4_match : MethodName := ⟨RX4, "match", "(IIIII)I"⟩
abbrev cX4_polish : ByteArray := prog_6_method_28_code
def yX4_polish : MethodName := ⟨RX4, "polish", "(III)I"⟩
abbrev cX4_tray : ByteArray := prog_6_method_29_code
def yX4_tray : MethodName := ⟨RX4, "tray", "(II)I"⟩
abbrev cX4_what : ByteArray := prog_6_method_30_code
def yX4_what : MethodName := ⟨RX4, "what", "(II)I"⟩
abbrev cX4_at : ByteArray := prog_6_method_31_code
def yX4_at : MethodName := ⟨RX4, "at", "(II)J"⟩
abbrev cX4_polished : ByteArray := prog_6_method_32_code
def yX4_polished : MethodName := ⟨RX4, "polished", "(II)I"⟩
abbrev cX4_told : ByteArray := prog_6_method_33_code
def yX4_told : MethodName := ⟨RX4, "told", "(I)I"⟩
def RJ9 : String := "java/lang/Math"
def TJ9 : u_T := fun k => match k with
  | _ => ("", "", "", false)
def tyJ9 : Nat → FieldType := fun k => match k with
  | _ => .int
abbrev wsJ90 : List Cond := u_ws RJ9 TJ9 0
theorem nmJ9 : ∀ a, a < 0 → ∀ b, b < 0 → a ≠ b → (TJ9 a).2.1 ≠ (TJ9 b).2.1 := by decide +kernel
theorem tyJ9_ok : ∀ k, k < 0 → parseFieldDescriptor (TJ9 k).2.2.1 = some (tyJ9 k) := by decide +kernel
abbrev cJ9_floorMod_7cf53 : ByteArray := prog_7_method_50_code
def yJ9_floorMod_7cf53 : MethodName := ⟨RJ9, "floorMod", "(II)I"⟩
abbrev cJ9_min_7cf53 : ByteArray := prog_7_method_69_code
def yJ9_min_7cf53 : MethodName := ⟨RJ9, "min", "(II)I"⟩
def RL : String := "BeadBenchLaw"
abbrev cL_law : ByteArray := code
def yL_law : MethodName := ⟨RL, "law", "([I)Z"⟩
def wsX2_init : List Cond := .code yX2_init cX2_init 1 none :: ([.methodLink RX2 1 objectInit, .instanceMethod objectInit, .code objectInit ⟨#[0xb1]⟩ 1 none])
def wsX0_init : List Cond := .code yX0_init cX0_init 4 none :: ([.fieldLink RX0 9 "BeadBench$Holding" "kind" "I", .fieldLink RX0 15 "BeadBench$Holding" "size" "I", .fieldLink RX0 18 "BeadBench$Holding" "ticketNumber" "I", .arrayClass .long, .fieldLink RX0 21 "BeadBench$Holding" "numbers" "[J", .classLink RX0 4 RX2, .fieldLink RX0 25 "BeadBench$Holding" "things" "[LBeadBench$Thing;", .instanceMethod yX2_init, .initialized RX2, .code yX2_init cX2_init 1 none, .methodLink RX2 1 objectInit, .instanceMethod objectInit, .code objectInit ⟨#[0xb1]⟩ 1 none] ++ wsX00)
def wsX0_sortOfThing : List Cond := .code yX0_sortOfThing cX0_sortOfThing 1 (some .int) :: ([])
def wsX0_count : List Cond := .code yX0_count cX0_count 1 (some .int) :: ([.fieldLink RX0 15 "BeadBench$Holding" "size" "I"] ++ wsX00)
def wsX0_shine : List Cond := .code yX0_shine cX0_shine 3 (some .int) :: ([.fieldLink RX0 15 "BeadBench$Holding" "size" "I", .fieldLink RX0 21 "BeadBench$Holding" "numbers" "[J"] ++ wsX00)
def wsX0_refusal : List Cond := .code yX0_refusal cX0_refusal 1 (some .int) :: ([.fieldLink RX0 9 "BeadBench$Holding" "kind" "I"] ++ wsX00)
def wsX0_isOfNumbers : List Cond := .code yX0_isOfNumbers cX0_isOfNumbers 1 (some .boolean) :: ([.fieldLink RX0 9 "BeadBench$Holding" "kind" "I"] ++ wsX00)
def wsX0_hasPlace : List Cond := .code yX0_hasPlace cX0_hasPlace 2 (some .boolean) :: ([.fieldLink RX0 15 "BeadBench$Holding" "size" "I"] ++ wsX00)
def wsX0_hasPlaces : List Cond := .code yX0_hasPlaces cX0_hasPlaces 3 (some .boolean) :: ([.fieldLink RX0 15 "BeadBench$Holding" "size" "I"] ++ wsX00)
def wsX1_sortOfThing : List Cond := .code yX1_sortOfThing cX1_sortOfThing 1 (some .int) :: ([.fieldLink RX1 7 "BeadBench$Piece" "sort" "I"] ++ wsX10)
def wsX0_accepts : List Cond := .code yX0_accepts cX0_accepts 3 (some .boolean) :: ([.fieldLink RX0 9 "BeadBench$Holding" "kind" "I", .methodLink RX0 29 ⟨"BeadBench$Thing", "sortOfThing", "()I"⟩, .sameMethod "BeadBench$Thing" "BeadBench$Thing" "sortOfThing" "()I", .selects RX0 ⟨"BeadBench$Thing", "sortOfThing", "()I"⟩ yX0_sortOfThing, .instanceMethod yX0_sortOfThing, .initialized RX0, .code yX0_sortOfThing cX0_sortOfThing 1 (some .int), .selects RX1 ⟨"BeadBench$Thing", "sortOfThing", "()I"⟩ yX1_sortOfThing, .instanceMethod yX1_sortOfThing, .initialized RX1, .code yX1_sortOfThing cX1_sortOfThing 1 (some .int), .fieldLink RX1 7 "BeadBench$Piece" "sort" "I"] ++ wsX00 ++ wsX10)
def wsX0_copyPlace : List Cond := .code yX0_copyPlace cX0_copyPlace 4 none :: ([.fieldLink RX0 21 "BeadBench$Holding" "numbers" "[J", .fieldLink RX0 25 "BeadBench$Holding" "things" "[LBeadBench$Thing;"] ++ wsX00)
def wsX0_isAlike : List Cond := .code yX0_isAlike cX0_isAlike 4 (some .boolean) :: ([.fieldLink RX0 21 "BeadBench$Holding" "numbers" "[J", .fieldLink RX0 25 "BeadBench$Holding" "things" "[LBeadBench$Thing;"] ++ wsX00)
def wsX1_init : List Cond := .code yX1_init cX1_init 3 none :: ([.fieldLink RX1 7 "BeadBench$Piece" "sort" "I", .fieldLink RX1 13 "BeadBench$Piece" "number" "I", .fieldLink RX1 16 "BeadBench$Piece" "gloss" "I", .instanceMethod yX2_init, .initialized RX2, .code yX2_init cX2_init 1 none, .methodLink RX2 1 objectInit, .instanceMethod objectInit, .code objectInit ⟨#[0xb1]⟩ 1 none] ++ wsX10)
def wsX1_count : List Cond := .code yX1_count cX1_count 1 (some .int) :: ([.fieldLink RX1 13 "BeadBench$Piece" "number" "I"] ++ wsX10)
def wsX1_shine : List Cond := .code yX1_shine cX1_shine 1 (some .int) :: ([.fieldLink RX1 16 "BeadBench$Piece" "gloss" "I"] ++ wsX10)
def wsX3_init_r1 : List Cond := [Cond.methodLink RX3 1 objectInit, Cond.instanceMethod objectInit, Cond.code objectInit ⟨#[0xb1]⟩ 1 none, Cond.classLink RX3 7 RX0, Cond.instantiable RX0 5, Cond.initialized RX0, Cond.fieldLink RX3 14 "BeadBench" "nothing" "LBeadBench$Holding;", Cond.fieldLink RX3 18 "BeadBench" "trays" "[LBeadBench$Holding;", Cond.fieldLink RX3 22 "BeadBench" "before" "LBeadBench$Holding;", Cond.fieldLink RX3 25 "BeadBench" "changed" "LBeadBench$Holding;", Cond.arrayClass .int, Cond.fieldLink RX3 28 "BeadBench" "tally" "[I", Cond.fieldLink RX3 32 "BeadBench" "filled" "I", Cond.fieldLink RX3 36 "BeadBench" "piecesMade" "I", Cond.methodLink RX3 11 yX0_init, Cond.instanceMethod yX0_init, Cond.code yX0_init cX0_init 4 none, Cond.fieldLink RX0 9 "BeadBench$Holding" "kind" "I", Cond.fieldLink RX0 15 "BeadBench$Holding" "size" "I", Cond.fieldLink RX0 18 "BeadBench$Holding" "ticketNumber" "I", Cond.arrayClass .long, Cond.fieldLink RX0 21 "BeadBench$Holding" "numbers" "[J", Cond.classLink RX0 4 RX2, Cond.fieldLink RX0 25 "BeadBench$Holding" "things" "[LBeadBench$Thing;"]
def wsX3_init_r2 : List Cond := [Cond.instanceMethod yX2_init, Cond.initialized RX2, Cond.code yX2_init cX2_init 1 none, Cond.methodLink RX2 1 objectInit]
def wsX3_init : List Cond := .code yX3_init cX3_init 2 none :: ((wsX3_init_r1 ++ wsX3_init_r2) ++ wsX00 ++ wsX30)
def wsX3_isTray : List Cond := .code yX3_isTray cX3_isTray 1 (some .boolean) :: ([])
def wsX3_lay : List Cond := .code yX3_lay cX3_lay 4 (some .int) :: ([.fieldLink RX3 18 "BeadBench" "trays" "[LBeadBench$Holding;", .classLink RX3 7 RX0, .instantiable RX0 5, .initialized RX0, .methodLink RX3 39 yX3_isTray, .static yX3_isTray, .initialized RX3, .code yX3_isTray cX3_isTray 1 (some .boolean), .methodLink RX3 11 yX0_init, .instanceMethod yX0_init, .code yX0_init cX0_init 4 none, .fieldLink RX0 9 "BeadBench$Holding" "kind" "I", .fieldLink RX0 15 "BeadBench$Holding" "size" "I", .fieldLink RX0 18 "BeadBench$Holding" "ticketNumber" "I", .arrayClass .long, .fieldLink RX0 21 "BeadBench$Holding" "numbers" "[J", .classLink RX0 4 RX2, .fieldLink RX0 25 "BeadBench$Holding" "things" "[LBeadBench$Thing;", .instanceMethod yX2_init, .initialized RX2, .code yX2_init cX2_init 1 none, .methodLink RX2 1 objectInit, .instanceMethod objectInit, .code objectInit ⟨#[0xb1]⟩ 1 none] ++ wsX30 ++ wsX00)
def wsX3_ticket_r1 : List Cond := [Cond.fieldLink RX3 18 "BeadBench" "trays" "[LBeadBench$Holding;", Cond.classLink RX3 7 RX0, Cond.instantiable RX0 5, Cond.initialized RX0, Cond.fieldLink RX3 14 "BeadBench" "nothing" "LBeadBench$Holding;", Cond.methodLink RX3 39 yX3_isTray, Cond.static yX3_isTray, Cond.initialized RX3, Cond.code yX3_isTray cX3_isTray 1 (some .boolean), Cond.methodLink RX3 11 yX0_init, Cond.instanceMethod yX0_init, Cond.code yX0_init cX0_init 4 none, Cond.fieldLink RX0 9 "BeadBench$Holding" "kind" "I", Cond.fieldLink RX0 15 "BeadBench$Holding" "size" "I", Cond.fieldLink RX0 18 "BeadBench$Holding" "ticketNumber" "I", Cond.arrayClass .long, Cond.fieldLink RX0 21 "BeadBench$Holding" "numbers" "[J", Cond.classLink RX0 4 RX2, Cond.fieldLink RX0 25 "BeadBench$Holding" "things" "[LBeadBench$Thing;", Cond.instanceMethod yX2_init, Cond.initialized RX2, Cond.code yX2_init cX2_init 1 none, Cond.methodLink RX2 1 objectInit, Cond.instanceMethod objectInit]
def wsX3_ticket_r2 : List Cond := [Cond.code objectInit ⟨#[0xb1]⟩ 1 none]
def wsX3_ticket : List Cond := .code yX3_ticket cX3_ticket 4 (some .boolean) :: ((wsX3_ticket_r1 ++ wsX3_ticket_r2) ++ wsX30 ++ wsX00)
def wsX3_share : List Cond := .code yX3_share cX3_share 3 (some .int) :: ([.fieldLink RX3 18 "BeadBench" "trays" "[LBeadBench$Holding;", .methodLink RX3 39 yX3_isTray, .static yX3_isTray, .initialized RX3, .code yX3_isTray cX3_isTray 1 (some .boolean)] ++ wsX30 ++ wsX00)
def wsJ9_floorMod_7cf53 : List Cond := .code yJ9_floorMod_7cf53 cJ9_floorMod_7cf53 3 (some .int) :: ([])
def wsX3_newPiece : List Cond := .code yX3_newPiece cX3_newPiece 2 (some (.object "BeadBench$Piece")) :: ([.fieldLink RX3 36 "BeadBench" "piecesMade" "I", .classLink RX3 117 RX1, .instantiable RX1 3, .initialized RX1, .methodLink RX3 147 yX1_init, .instanceMethod yX1_init, .code yX1_init cX1_init 3 none, .fieldLink RX1 7 "BeadBench$Piece" "sort" "I", .fieldLink RX1 13 "BeadBench$Piece" "number" "I", .fieldLink RX1 16 "BeadBench$Piece" "gloss" "I", .instanceMethod yX2_init, .initialized RX2, .code yX2_init cX2_init 1 none, .methodLink RX2 1 objectInit, .instanceMethod objectInit, .code objectInit ⟨#[0xb1]⟩ 1 none] ++ wsX30 ++ wsX10)
def wsX3_thingFor_r1 : List Cond := [Cond.fieldLink RX3 18 "BeadBench" "trays" "[LBeadBench$Holding;", Cond.methodLink RX3 39 yX3_isTray, Cond.static yX3_isTray, Cond.initialized RX3, Cond.code yX3_isTray cX3_isTray 1 (some .boolean), Cond.methodLink RX3 96 yJ9_floorMod_7cf53, Cond.static yJ9_floorMod_7cf53, Cond.initialized RJ9, Cond.code yJ9_floorMod_7cf53 cJ9_floorMod_7cf53 3 (some .int), Cond.methodLink RX3 143 yX3_newPiece, Cond.instanceMethod yX3_newPiece, Cond.selects RX3 yX3_newPiece yX3_newPiece, Cond.code yX3_newPiece cX3_newPiece 2 (some (.object "BeadBench$Piece")), Cond.fieldLink RX3 36 "BeadBench" "piecesMade" "I", Cond.classLink RX3 117 RX1, Cond.instantiable RX1 3, Cond.initialized RX1, Cond.methodLink RX3 147 yX1_init, Cond.instanceMethod yX1_init, Cond.code yX1_init cX1_init 3 none, Cond.fieldLink RX1 7 "BeadBench$Piece" "sort" "I", Cond.fieldLink RX1 13 "BeadBench$Piece" "number" "I", Cond.fieldLink RX1 16 "BeadBench$Piece" "gloss" "I", Cond.instanceMethod yX2_init]
def wsX3_thingFor_r2 : List Cond := [Cond.initialized RX2, Cond.code yX2_init cX2_init 1 none, Cond.methodLink RX2 1 objectInit, Cond.instanceMethod objectInit, Cond.code objectInit ⟨#[0xb1]⟩ 1 none]
def wsX3_thingFor : List Cond := .code yX3_thingFor cX3_thingFor 3 (some (.object "BeadBench$Thing")) :: ((wsX3_thingFor_r1 ++ wsX3_thingFor_r2) ++ wsX30 ++ wsX00 ++ wsX10)
def wsX3_numberFor : List Cond := .code yX3_numberFor cX3_numberFor 2 (some .long) :: ([])
def wsX3_put_r1 : List Cond := [Cond.fieldLink RX3 18 "BeadBench" "trays" "[LBeadBench$Holding;", Cond.methodLink RX3 39 yX3_isTray, Cond.static yX3_isTray, Cond.initialized RX3, Cond.code yX3_isTray cX3_isTray 1 (some .boolean), Cond.methodLink RX3 46 yX0_refusal, Cond.instanceMethod yX0_refusal, Cond.selects RX0 yX0_refusal yX0_refusal, Cond.initialized RX0, Cond.code yX0_refusal cX0_refusal 1 (some .int), Cond.fieldLink RX0 9 "BeadBench$Holding" "kind" "I", Cond.methodLink RX3 50 yX3_thingFor, Cond.instanceMethod yX3_thingFor, Cond.selects RX3 yX3_thingFor yX3_thingFor, Cond.code yX3_thingFor cX3_thingFor 3 (some (.object "BeadBench$Thing")), Cond.methodLink RX3 96 yJ9_floorMod_7cf53, Cond.static yJ9_floorMod_7cf53, Cond.initialized RJ9, Cond.code yJ9_floorMod_7cf53 cJ9_floorMod_7cf53 3 (some .int), Cond.methodLink RX3 143 yX3_newPiece, Cond.instanceMethod yX3_newPiece, Cond.selects RX3 yX3_newPiece yX3_newPiece, Cond.code yX3_newPiece cX3_newPiece 2 (some (.object "BeadBench$Piece")), Cond.fieldLink RX3 36 "BeadBench" "piecesMade" "I"]
def wsX3_put_r2 : List Cond := [Cond.classLink RX3 117 RX1, Cond.instantiable RX1 3, Cond.initialized RX1, Cond.methodLink RX3 147 yX1_init, Cond.instanceMethod yX1_init, Cond.code yX1_init cX1_init 3 none, Cond.fieldLink RX1 7 "BeadBench$Piece" "sort" "I", Cond.fieldLink RX1 13 "BeadBench$Piece" "number" "I", Cond.fieldLink RX1 16 "BeadBench$Piece" "gloss" "I", Cond.instanceMethod yX2_init, Cond.initialized RX2, Cond.code yX2_init cX2_init 1 none, Cond.methodLink RX2 1 objectInit, Cond.instanceMethod objectInit, Cond.code objectInit ⟨#[0xb1]⟩ 1 none, Cond.methodLink RX3 54 yX0_hasPlace, Cond.instanceMethod yX0_hasPlace, Cond.selects RX0 yX0_hasPlace yX0_hasPlace, Cond.code yX0_hasPlace cX0_hasPlace 2 (some .boolean), Cond.fieldLink RX0 15 "BeadBench$Holding" "size" "I", Cond.methodLink RX3 57 yX0_accepts, Cond.instanceMethod yX0_accepts, Cond.selects RX0 yX0_accepts yX0_accepts, Cond.code yX0_accepts cX0_accepts 3 (some .boolean)]
def wsX3_put_r3 : List Cond := [Cond.methodLink RX0 29 ⟨"BeadBench$Thing", "sortOfThing", "()I"⟩, Cond.sameMethod "BeadBench$Thing" "BeadBench$Thing" "sortOfThing" "()I", Cond.selects RX0 ⟨"BeadBench$Thing", "sortOfThing", "()I"⟩ yX0_sortOfThing, Cond.instanceMethod yX0_sortOfThing, Cond.code yX0_sortOfThing cX0_sortOfThing 1 (some .int), Cond.selects RX1 ⟨"BeadBench$Thing", "sortOfThing", "()I"⟩ yX1_sortOfThing, Cond.instanceMethod yX1_sortOfThing, Cond.code yX1_sortOfThing cX1_sortOfThing 1 (some .int), Cond.methodLink RX3 65 yX0_isOfNumbers, Cond.instanceMethod yX0_isOfNumbers, Cond.selects RX0 yX0_isOfNumbers yX0_isOfNumbers, Cond.code yX0_isOfNumbers cX0_isOfNumbers 1 (some .boolean), Cond.methodLink RX3 69 yX3_numberFor, Cond.static yX3_numberFor, Cond.code yX3_numberFor cX3_numberFor 2 (some .long)]
def wsX3_put : List Cond := .code yX3_put cX3_put 7 (some .int) :: ((wsX3_put_r1 ++ (wsX3_put_r2 ++ wsX3_put_r3)) ++ wsX30 ++ wsX00 ++ wsX10)
def wsX3_keep : List Cond := .code yX3_keep cX3_keep 3 none :: ([.fieldLink RX3 25 "BeadBench" "changed" "LBeadBench$Holding;", .fieldLink RX3 22 "BeadBench" "before" "LBeadBench$Holding;", .methodLink RX3 46 yX0_refusal, .instanceMethod yX0_refusal, .selects RX0 yX0_refusal yX0_refusal, .initialized RX0, .code yX0_refusal cX0_refusal 1 (some .int), .fieldLink RX0 9 "BeadBench$Holding" "kind" "I", .methodLink RX3 102 yX0_copyPlace, .instanceMethod yX0_copyPlace, .selects RX0 yX0_copyPlace yX0_copyPlace, .code yX0_copyPlace cX0_copyPlace 4 none, .fieldLink RX0 21 "BeadBench$Holding" "numbers" "[J", .fieldLink RX0 25 "BeadBench$Holding" "things" "[LBeadBench$Thing;"] ++ wsX30 ++ wsX00)
def wsX3_refusalOfPair : List Cond := .code yX3_refusalOfPair cX3_refusalOfPair 3 (some .int) :: ([.methodLink RX3 65 yX0_isOfNumbers, .instanceMethod yX0_isOfNumbers, .selects RX0 yX0_isOfNumbers yX0_isOfNumbers, .initialized RX0, .code yX0_isOfNumbers cX0_isOfNumbers 1 (some .boolean), .fieldLink RX0 9 "BeadBench$Holding" "kind" "I"] ++ wsX00)
def wsX3_carry_r1 : List Cond := [Cond.fieldLink RX3 32 "BeadBench" "filled" "I", Cond.fieldLink RX3 22 "BeadBench" "before" "LBeadBench$Holding;", Cond.methodLink RX3 106 yX3_refusalOfPair, Cond.static yX3_refusalOfPair, Cond.initialized RX3, Cond.code yX3_refusalOfPair cX3_refusalOfPair 3 (some .int), Cond.methodLink RX3 65 yX0_isOfNumbers, Cond.instanceMethod yX0_isOfNumbers, Cond.selects RX0 yX0_isOfNumbers yX0_isOfNumbers, Cond.initialized RX0, Cond.code yX0_isOfNumbers cX0_isOfNumbers 1 (some .boolean), Cond.fieldLink RX0 9 "BeadBench$Holding" "kind" "I", Cond.methodLink RX3 139 yX0_hasPlaces, Cond.instanceMethod yX0_hasPlaces, Cond.selects RX0 yX0_hasPlaces yX0_hasPlaces, Cond.code yX0_hasPlaces cX0_hasPlaces 3 (some .boolean), Cond.fieldLink RX0 15 "BeadBench$Holding" "size" "I", Cond.methodLink RX3 57 yX0_accepts, Cond.instanceMethod yX0_accepts, Cond.selects RX0 yX0_accepts yX0_accepts, Cond.code yX0_accepts cX0_accepts 3 (some .boolean), Cond.methodLink RX0 29 ⟨"BeadBench$Thing", "sortOfThing", "()I"⟩, Cond.sameMethod "BeadBench$Thing" "BeadBench$Thing" "sortOfThing" "()I", Cond.selects RX0 ⟨"BeadBench$Thing", "sortOfThing", "()I"⟩ yX0_sortOfThing]
def wsX3_carry_r2 : List Cond := [Cond.instanceMethod yX0_sortOfThing, Cond.code yX0_sortOfThing cX0_sortOfThing 1 (some .int), Cond.selects RX1 ⟨"BeadBench$Thing", "sortOfThing", "()I"⟩ yX1_sortOfThing, Cond.instanceMethod yX1_sortOfThing, Cond.initialized RX1, Cond.code yX1_sortOfThing cX1_sortOfThing 1 (some .int), Cond.fieldLink RX1 7 "BeadBench$Piece" "sort" "I", Cond.methodLink RX3 102 yX0_copyPlace, Cond.instanceMethod yX0_copyPlace, Cond.selects RX0 yX0_copyPlace yX0_copyPlace, Cond.code yX0_copyPlace cX0_copyPlace 4 none, Cond.fieldLink RX0 21 "BeadBench$Holding" "numbers" "[J", Cond.fieldLink RX0 25 "BeadBench$Holding" "things" "[LBeadBench$Thing;"]
def wsX3_carry : List Cond := .code yX3_carry cX3_carry 8 (some .int) :: ((wsX3_carry_r1 ++ wsX3_carry_r2) ++ wsX30 ++ wsX00 ++ wsX10)
def wsX3_counted : List Cond := .code yX3_counted cX3_counted 2 (some .int) :: ([.fieldLink RX3 28 "BeadBench" "tally" "[I"] ++ wsX30)
def wsX3_move_r1 : List Cond := [Cond.fieldLink RX3 18 "BeadBench" "trays" "[LBeadBench$Holding;", Cond.methodLink RX3 39 yX3_isTray, Cond.static yX3_isTray, Cond.initialized RX3, Cond.code yX3_isTray cX3_isTray 1 (some .boolean), Cond.methodLink RX3 77 yX3_keep, Cond.instanceMethod yX3_keep, Cond.selects RX3 yX3_keep yX3_keep, Cond.code yX3_keep cX3_keep 3 none, Cond.fieldLink RX3 25 "BeadBench" "changed" "LBeadBench$Holding;", Cond.fieldLink RX3 22 "BeadBench" "before" "LBeadBench$Holding;", Cond.methodLink RX3 46 yX0_refusal, Cond.instanceMethod yX0_refusal, Cond.selects RX0 yX0_refusal yX0_refusal, Cond.initialized RX0, Cond.code yX0_refusal cX0_refusal 1 (some .int), Cond.fieldLink RX0 9 "BeadBench$Holding" "kind" "I", Cond.methodLink RX3 102 yX0_copyPlace, Cond.instanceMethod yX0_copyPlace, Cond.selects RX0 yX0_copyPlace yX0_copyPlace, Cond.code yX0_copyPlace cX0_copyPlace 4 none, Cond.fieldLink RX0 21 "BeadBench$Holding" "numbers" "[J", Cond.fieldLink RX0 25 "BeadBench$Holding" "things" "[LBeadBench$Thing;", Cond.methodLink RX3 81 yX3_carry]
def wsX3_move_r2 : List Cond := [Cond.instanceMethod yX3_carry, Cond.selects RX3 yX3_carry yX3_carry, Cond.code yX3_carry cX3_carry 8 (some .int), Cond.fieldLink RX3 32 "BeadBench" "filled" "I", Cond.methodLink RX3 106 yX3_refusalOfPair, Cond.static yX3_refusalOfPair, Cond.code yX3_refusalOfPair cX3_refusalOfPair 3 (some .int), Cond.methodLink RX3 65 yX0_isOfNumbers, Cond.instanceMethod yX0_isOfNumbers, Cond.selects RX0 yX0_isOfNumbers yX0_isOfNumbers, Cond.code yX0_isOfNumbers cX0_isOfNumbers 1 (some .boolean), Cond.methodLink RX3 139 yX0_hasPlaces, Cond.instanceMethod yX0_hasPlaces, Cond.selects RX0 yX0_hasPlaces yX0_hasPlaces, Cond.code yX0_hasPlaces cX0_hasPlaces 3 (some .boolean), Cond.fieldLink RX0 15 "BeadBench$Holding" "size" "I", Cond.methodLink RX3 57 yX0_accepts, Cond.instanceMethod yX0_accepts, Cond.selects RX0 yX0_accepts yX0_accepts, Cond.code yX0_accepts cX0_accepts 3 (some .boolean), Cond.methodLink RX0 29 ⟨"BeadBench$Thing", "sortOfThing", "()I"⟩, Cond.sameMethod "BeadBench$Thing" "BeadBench$Thing" "sortOfThing" "()I", Cond.selects RX0 ⟨"BeadBench$Thing", "sortOfThing", "()I"⟩ yX0_sortOfThing, Cond.instanceMethod yX0_sortOfThing]
def wsX3_move_r3 : List Cond := [Cond.code yX0_sortOfThing cX0_sortOfThing 1 (some .int), Cond.selects RX1 ⟨"BeadBench$Thing", "sortOfThing", "()I"⟩ yX1_sortOfThing, Cond.instanceMethod yX1_sortOfThing, Cond.initialized RX1, Cond.code yX1_sortOfThing cX1_sortOfThing 1 (some .int), Cond.fieldLink RX1 7 "BeadBench$Piece" "sort" "I", Cond.methodLink RX3 85 yX3_counted, Cond.instanceMethod yX3_counted, Cond.selects RX3 yX3_counted yX3_counted, Cond.code yX3_counted cX3_counted 2 (some .int), Cond.fieldLink RX3 28 "BeadBench" "tally" "[I"]
def wsX3_move : List Cond := .code yX3_move cX3_move 6 (some .int) :: ((wsX3_move_r1 ++ (wsX3_move_r2 ++ wsX3_move_r3)) ++ wsX30 ++ wsX00 ++ wsX10)
def wsX3_open_r1 : List Cond := [Cond.fieldLink RX3 18 "BeadBench" "trays" "[LBeadBench$Holding;", Cond.methodLink RX3 39 yX3_isTray, Cond.static yX3_isTray, Cond.initialized RX3, Cond.code yX3_isTray cX3_isTray 1 (some .boolean), Cond.methodLink RX3 92 yX3_move, Cond.instanceMethod yX3_move, Cond.selects RX3 yX3_move yX3_move, Cond.code yX3_move cX3_move 6 (some .int), Cond.methodLink RX3 77 yX3_keep, Cond.instanceMethod yX3_keep, Cond.selects RX3 yX3_keep yX3_keep, Cond.code yX3_keep cX3_keep 3 none, Cond.fieldLink RX3 25 "BeadBench" "changed" "LBeadBench$Holding;", Cond.fieldLink RX3 22 "BeadBench" "before" "LBeadBench$Holding;", Cond.methodLink RX3 46 yX0_refusal, Cond.instanceMethod yX0_refusal, Cond.selects RX0 yX0_refusal yX0_refusal, Cond.initialized RX0, Cond.code yX0_refusal cX0_refusal 1 (some .int), Cond.fieldLink RX0 9 "BeadBench$Holding" "kind" "I", Cond.methodLink RX3 102 yX0_copyPlace, Cond.instanceMethod yX0_copyPlace, Cond.selects RX0 yX0_copyPlace yX0_copyPlace]
def wsX3_open_r2 : List Cond := [Cond.code yX0_copyPlace cX0_copyPlace 4 none, Cond.fieldLink RX0 21 "BeadBench$Holding" "numbers" "[J", Cond.fieldLink RX0 25 "BeadBench$Holding" "things" "[LBeadBench$Thing;", Cond.methodLink RX3 81 yX3_carry, Cond.instanceMethod yX3_carry, Cond.selects RX3 yX3_carry yX3_carry, Cond.code yX3_carry cX3_carry 8 (some .int), Cond.fieldLink RX3 32 "BeadBench" "filled" "I", Cond.methodLink RX3 106 yX3_refusalOfPair, Cond.static yX3_refusalOfPair, Cond.code yX3_refusalOfPair cX3_refusalOfPair 3 (some .int), Cond.methodLink RX3 65 yX0_isOfNumbers, Cond.instanceMethod yX0_isOfNumbers, Cond.selects RX0 yX0_isOfNumbers yX0_isOfNumbers, Cond.code yX0_isOfNumbers cX0_isOfNumbers 1 (some .boolean), Cond.methodLink RX3 139 yX0_hasPlaces, Cond.instanceMethod yX0_hasPlaces, Cond.selects RX0 yX0_hasPlaces yX0_hasPlaces, Cond.code yX0_hasPlaces cX0_hasPlaces 3 (some .boolean), Cond.fieldLink RX0 15 "BeadBench$Holding" "size" "I", Cond.methodLink RX3 57 yX0_accepts, Cond.instanceMethod yX0_accepts, Cond.selects RX0 yX0_accepts yX0_accepts, Cond.code yX0_accepts cX0_accepts 3 (some .boolean)]
def wsX3_open_r3 : List Cond := [Cond.methodLink RX0 29 ⟨"BeadBench$Thing", "sortOfThing", "()I"⟩, Cond.sameMethod "BeadBench$Thing" "BeadBench$Thing" "sortOfThing" "()I", Cond.selects RX0 ⟨"BeadBench$Thing", "sortOfThing", "()I"⟩ yX0_sortOfThing, Cond.instanceMethod yX0_sortOfThing, Cond.code yX0_sortOfThing cX0_sortOfThing 1 (some .int), Cond.selects RX1 ⟨"BeadBench$Thing", "sortOfThing", "()I"⟩ yX1_sortOfThing, Cond.instanceMethod yX1_sortOfThing, Cond.initialized RX1, Cond.code yX1_sortOfThing cX1_sortOfThing 1 (some .int), Cond.fieldLink RX1 7 "BeadBench$Piece" "sort" "I", Cond.methodLink RX3 85 yX3_counted, Cond.instanceMethod yX3_counted, Cond.selects RX3 yX3_counted yX3_counted, Cond.code yX3_counted cX3_counted 2 (some .int), Cond.fieldLink RX3 28 "BeadBench" "tally" "[I"]
def wsX3_open : List Cond := .code yX3_open cX3_open 4 (some .int) :: ((wsX3_open_r1 ++ (wsX3_open_r2 ++ wsX3_open_r3)) ++ wsX30 ++ wsX00 ++ wsX10)
def wsX3_close_r1 : List Cond := [Cond.fieldLink RX3 18 "BeadBench" "trays" "[LBeadBench$Holding;", Cond.methodLink RX3 39 yX3_isTray, Cond.static yX3_isTray, Cond.initialized RX3, Cond.code yX3_isTray cX3_isTray 1 (some .boolean), Cond.methodLink RX3 92 yX3_move, Cond.instanceMethod yX3_move, Cond.selects RX3 yX3_move yX3_move, Cond.code yX3_move cX3_move 6 (some .int), Cond.methodLink RX3 77 yX3_keep, Cond.instanceMethod yX3_keep, Cond.selects RX3 yX3_keep yX3_keep, Cond.code yX3_keep cX3_keep 3 none, Cond.fieldLink RX3 25 "BeadBench" "changed" "LBeadBench$Holding;", Cond.fieldLink RX3 22 "BeadBench" "before" "LBeadBench$Holding;", Cond.methodLink RX3 46 yX0_refusal, Cond.instanceMethod yX0_refusal, Cond.selects RX0 yX0_refusal yX0_refusal, Cond.initialized RX0, Cond.code yX0_refusal cX0_refusal 1 (some .int), Cond.fieldLink RX0 9 "BeadBench$Holding" "kind" "I", Cond.methodLink RX3 102 yX0_copyPlace, Cond.instanceMethod yX0_copyPlace, Cond.selects RX0 yX0_copyPlace yX0_copyPlace]
def wsX3_close_r2 : List Cond := [Cond.code yX0_copyPlace cX0_copyPlace 4 none, Cond.fieldLink RX0 21 "BeadBench$Holding" "numbers" "[J", Cond.fieldLink RX0 25 "BeadBench$Holding" "things" "[LBeadBench$Thing;", Cond.methodLink RX3 81 yX3_carry, Cond.instanceMethod yX3_carry, Cond.selects RX3 yX3_carry yX3_carry, Cond.code yX3_carry cX3_carry 8 (some .int), Cond.fieldLink RX3 32 "BeadBench" "filled" "I", Cond.methodLink RX3 106 yX3_refusalOfPair, Cond.static yX3_refusalOfPair, Cond.code yX3_refusalOfPair cX3_refusalOfPair 3 (some .int), Cond.methodLink RX3 65 yX0_isOfNumbers, Cond.instanceMethod yX0_isOfNumbers, Cond.selects RX0 yX0_isOfNumbers yX0_isOfNumbers, Cond.code yX0_isOfNumbers cX0_isOfNumbers 1 (some .boolean), Cond.methodLink RX3 139 yX0_hasPlaces, Cond.instanceMethod yX0_hasPlaces, Cond.selects RX0 yX0_hasPlaces yX0_hasPlaces, Cond.code yX0_hasPlaces cX0_hasPlaces 3 (some .boolean), Cond.fieldLink RX0 15 "BeadBench$Holding" "size" "I", Cond.methodLink RX3 57 yX0_accepts, Cond.instanceMethod yX0_accepts, Cond.selects RX0 yX0_accepts yX0_accepts, Cond.code yX0_accepts cX0_accepts 3 (some .boolean)]
def wsX3_close_r3 : List Cond := [Cond.methodLink RX0 29 ⟨"BeadBench$Thing", "sortOfThing", "()I"⟩, Cond.sameMethod "BeadBench$Thing" "BeadBench$Thing" "sortOfThing" "()I", Cond.selects RX0 ⟨"BeadBench$Thing", "sortOfThing", "()I"⟩ yX0_sortOfThing, Cond.instanceMethod yX0_sortOfThing, Cond.code yX0_sortOfThing cX0_sortOfThing 1 (some .int), Cond.selects RX1 ⟨"BeadBench$Thing", "sortOfThing", "()I"⟩ yX1_sortOfThing, Cond.instanceMethod yX1_sortOfThing, Cond.initialized RX1, Cond.code yX1_sortOfThing cX1_sortOfThing 1 (some .int), Cond.fieldLink RX1 7 "BeadBench$Piece" "sort" "I", Cond.methodLink RX3 85 yX3_counted, Cond.instanceMethod yX3_counted, Cond.selects RX3 yX3_counted yX3_counted, Cond.code yX3_counted cX3_counted 2 (some .int), Cond.fieldLink RX3 28 "BeadBench" "tally" "[I"]
def wsX3_close : List Cond := .code yX3_close cX3_close 4 (some .int) :: ((wsX3_close_r1 ++ (wsX3_close_r2 ++ wsX3_close_r3)) ++ wsX30 ++ wsX00 ++ wsX10)
def wsX3_turn_r1 : List Cond := [Cond.fieldLink RX3 18 "BeadBench" "trays" "[LBeadBench$Holding;", Cond.fieldLink RX3 22 "BeadBench" "before" "LBeadBench$Holding;", Cond.methodLink RX3 39 yX3_isTray, Cond.static yX3_isTray, Cond.initialized RX3, Cond.code yX3_isTray cX3_isTray 1 (some .boolean), Cond.methodLink RX3 77 yX3_keep, Cond.instanceMethod yX3_keep, Cond.selects RX3 yX3_keep yX3_keep, Cond.code yX3_keep cX3_keep 3 none, Cond.fieldLink RX3 25 "BeadBench" "changed" "LBeadBench$Holding;", Cond.methodLink RX3 46 yX0_refusal, Cond.instanceMethod yX0_refusal, Cond.selects RX0 yX0_refusal yX0_refusal, Cond.initialized RX0, Cond.code yX0_refusal cX0_refusal 1 (some .int), Cond.fieldLink RX0 9 "BeadBench$Holding" "kind" "I", Cond.methodLink RX3 102 yX0_copyPlace, Cond.instanceMethod yX0_copyPlace, Cond.selects RX0 yX0_copyPlace yX0_copyPlace, Cond.code yX0_copyPlace cX0_copyPlace 4 none, Cond.fieldLink RX0 21 "BeadBench$Holding" "numbers" "[J", Cond.fieldLink RX0 25 "BeadBench$Holding" "things" "[LBeadBench$Thing;", Cond.methodLink RX3 85 yX3_counted]
def wsX3_turn_r2 : List Cond := [Cond.instanceMethod yX3_counted, Cond.selects RX3 yX3_counted yX3_counted, Cond.code yX3_counted cX3_counted 2 (some .int), Cond.fieldLink RX3 28 "BeadBench" "tally" "[I", Cond.methodLink RX3 96 yJ9_floorMod_7cf53, Cond.static yJ9_floorMod_7cf53, Cond.initialized RJ9, Cond.code yJ9_floorMod_7cf53 cJ9_floorMod_7cf53 3 (some .int)]
def wsX3_turn : List Cond := .code yX3_turn cX3_turn 8 (some .int) :: ((wsX3_turn_r1 ++ wsX3_turn_r2) ++ wsX30 ++ wsX00)
def wsX3_spread_r1 : List Cond := [Cond.fieldLink RX3 18 "BeadBench" "trays" "[LBeadBench$Holding;", Cond.fieldLink RX3 22 "BeadBench" "before" "LBeadBench$Holding;", Cond.methodLink RX3 39 yX3_isTray, Cond.static yX3_isTray, Cond.initialized RX3, Cond.code yX3_isTray cX3_isTray 1 (some .boolean), Cond.methodLink RX3 77 yX3_keep, Cond.instanceMethod yX3_keep, Cond.selects RX3 yX3_keep yX3_keep, Cond.code yX3_keep cX3_keep 3 none, Cond.fieldLink RX3 25 "BeadBench" "changed" "LBeadBench$Holding;", Cond.methodLink RX3 46 yX0_refusal, Cond.instanceMethod yX0_refusal, Cond.selects RX0 yX0_refusal yX0_refusal, Cond.initialized RX0, Cond.code yX0_refusal cX0_refusal 1 (some .int), Cond.fieldLink RX0 9 "BeadBench$Holding" "kind" "I", Cond.methodLink RX3 102 yX0_copyPlace, Cond.instanceMethod yX0_copyPlace, Cond.selects RX0 yX0_copyPlace yX0_copyPlace, Cond.code yX0_copyPlace cX0_copyPlace 4 none, Cond.fieldLink RX0 21 "BeadBench$Holding" "numbers" "[J", Cond.fieldLink RX0 25 "BeadBench$Holding" "things" "[LBeadBench$Thing;", Cond.methodLink RX3 85 yX3_counted]
def wsX3_spread_r2 : List Cond := [Cond.instanceMethod yX3_counted, Cond.selects RX3 yX3_counted yX3_counted, Cond.code yX3_counted cX3_counted 2 (some .int), Cond.fieldLink RX3 28 "BeadBench" "tally" "[I"]
def wsX3_spread : List Cond := .code yX3_spread cX3_spread 6 (some .int) :: ((wsX3_spread_r1 ++ wsX3_spread_r2) ++ wsX30 ++ wsX00)
def wsX3_undo : List Cond := .code yX3_undo cX3_undo 3 (some .int) :: ([.fieldLink RX3 25 "BeadBench" "changed" "LBeadBench$Holding;", .fieldLink RX3 22 "BeadBench" "before" "LBeadBench$Holding;", .methodLink RX3 102 yX0_copyPlace, .instanceMethod yX0_copyPlace, .selects RX0 yX0_copyPlace yX0_copyPlace, .initialized RX0, .code yX0_copyPlace cX0_copyPlace 4 none, .fieldLink RX0 21 "BeadBench$Holding" "numbers" "[J", .fieldLink RX0 25 "BeadBench$Holding" "things" "[LBeadBench$Thing;"] ++ wsX30 ++ wsX00)
def wsX3_match : List Cond := .code yX3_match cX3_match 11 (some .int) :: ([.fieldLink RX3 18 "BeadBench" "trays" "[LBeadBench$Holding;", .methodLink RX3 110 Lib.Math.min.name, .static Lib.Math.min.name, .initialized "java/lang/Math", .code Lib.Math.min.name Lib.Math.min.code 2 (some .int), .methodLink RX3 39 yX3_isTray, .static yX3_isTray, .initialized RX3, .code yX3_isTray cX3_isTray 1 (some .boolean), .methodLink RX3 106 yX3_refusalOfPair, .static yX3_refusalOfPair, .code yX3_refusalOfPair cX3_refusalOfPair 3 (some .int), .methodLink RX3 65 yX0_isOfNumbers, .instanceMethod yX0_isOfNumbers, .selects RX0 yX0_isOfNumbers yX0_isOfNumbers, .initialized RX0, .code yX0_isOfNumbers cX0_isOfNumbers 1 (some .boolean), .fieldLink RX0 9 "BeadBench$Holding" "kind" "I", .methodLink RX3 113 yX0_isAlike, .instanceMethod yX0_isAlike, .selects RX0 yX0_isAlike yX0_isAlike, .code yX0_isAlike cX0_isAlike 4 (some .boolean), .fieldLink RX0 21 "BeadBench$Holding" "numbers" "[J", .fieldLink RX0 25 "BeadBench$Holding" "things" "[LBeadBench$Thing;"] ++ wsX30 ++ wsX00)
def wsX3_polish : List Cond := .code yX3_polish cX3_polish 8 (some .int) :: ([.fieldLink RX3 18 "BeadBench" "trays" "[LBeadBench$Holding;", .classLink RX3 117 "BeadBench$Piece", .methodLink RX3 39 yX3_isTray, .static yX3_isTray, .initialized RX3, .code yX3_isTray cX3_isTray 1 (some .boolean), .methodLink RX3 46 yX0_refusal, .instanceMethod yX0_refusal, .selects RX0 yX0_refusal yX0_refusal, .initialized RX0, .code yX0_refusal cX0_refusal 1 (some .int), .fieldLink RX0 9 "BeadBench$Holding" "kind" "I", .methodLink RX3 65 yX0_isOfNumbers, .instanceMethod yX0_isOfNumbers, .selects RX0 yX0_isOfNumbers yX0_isOfNumbers, .code yX0_isOfNumbers cX0_isOfNumbers 1 (some .boolean), .methodLink RX3 54 yX0_hasPlace, .instanceMethod yX0_hasPlace, .selects RX0 yX0_hasPlace yX0_hasPlace, .code yX0_hasPlace cX0_hasPlace 2 (some .boolean), .fieldLink RX0 15 "BeadBench$Holding" "size" "I"] ++ wsX30 ++ wsX00 ++ wsX10)
def wsX3_tray : List Cond := .code yX3_tray cX3_tray 4 (some .int) :: ([.fieldLink RX3 18 "BeadBench" "trays" "[LBeadBench$Holding;", .methodLink RX3 39 yX3_isTray, .static yX3_isTray, .initialized RX3, .code yX3_isTray cX3_isTray 1 (some .boolean)] ++ wsX30 ++ wsX00)
def wsX3_what_r1 : List Cond := [Cond.fieldLink RX3 18 "BeadBench" "trays" "[LBeadBench$Holding;", Cond.methodLink RX3 39 yX3_isTray, Cond.static yX3_isTray, Cond.initialized RX3, Cond.code yX3_isTray cX3_isTray 1 (some .boolean), Cond.methodLink RX3 46 yX0_refusal, Cond.instanceMethod yX0_refusal, Cond.selects RX0 yX0_refusal yX0_refusal, Cond.initialized RX0, Cond.code yX0_refusal cX0_refusal 1 (some .int), Cond.fieldLink RX0 9 "BeadBench$Holding" "kind" "I", Cond.methodLink RX3 54 yX0_hasPlace, Cond.instanceMethod yX0_hasPlace, Cond.selects RX0 yX0_hasPlace yX0_hasPlace, Cond.code yX0_hasPlace cX0_hasPlace 2 (some .boolean), Cond.fieldLink RX0 15 "BeadBench$Holding" "size" "I", Cond.methodLink RX3 65 yX0_isOfNumbers, Cond.instanceMethod yX0_isOfNumbers, Cond.selects RX0 yX0_isOfNumbers yX0_isOfNumbers, Cond.code yX0_isOfNumbers cX0_isOfNumbers 1 (some .boolean), Cond.methodLink RX3 128 ⟨"BeadBench$Thing", "sortOfThing", "()I"⟩, Cond.sameMethod "BeadBench$Thing" "BeadBench$Thing" "sortOfThing" "()I", Cond.selects RX0 ⟨"BeadBench$Thing", "sortOfThing", "()I"⟩ yX0_sortOfThing, Cond.instanceMethod yX0_sortOfThing]
def wsX3_what_r2 : List Cond := [Cond.code yX0_sortOfThing cX0_sortOfThing 1 (some .int), Cond.selects RX1 ⟨"BeadBench$Thing", "sortOfThing", "()I"⟩ yX1_sortOfThing, Cond.instanceMethod yX1_sortOfThing, Cond.initialized RX1, Cond.code yX1_sortOfThing cX1_sortOfThing 1 (some .int), Cond.fieldLink RX1 7 "BeadBench$Piece" "sort" "I"]
def wsX3_what : List Cond := .code yX3_what cX3_what 6 (some .int) :: ((wsX3_what_r1 ++ wsX3_what_r2) ++ wsX30 ++ wsX00 ++ wsX10)
def wsX3_at : List Cond := .code yX3_at cX3_at 5 (some .long) :: ([.fieldLink RX3 18 "BeadBench" "trays" "[LBeadBench$Holding;", .methodLink RX3 39 yX3_isTray, .static yX3_isTray, .initialized RX3, .code yX3_isTray cX3_isTray 1 (some .boolean), .methodLink RX3 54 yX0_hasPlace, .instanceMethod yX0_hasPlace, .selects RX0 yX0_hasPlace yX0_hasPlace, .initialized RX0, .code yX0_hasPlace cX0_hasPlace 2 (some .boolean), .fieldLink RX0 15 "BeadBench$Holding" "size" "I", .methodLink RX3 133 ⟨"BeadBench$Thing", "count", "()I"⟩, .sameMethod "BeadBench$Thing" "BeadBench$Thing" "count" "()I", .selects RX0 ⟨"BeadBench$Thing", "count", "()I"⟩ yX0_count, .instanceMethod yX0_count, .code yX0_count cX0_count 1 (some .int), .selects RX1 ⟨"BeadBench$Thing", "count", "()I"⟩ yX1_count, .instanceMethod yX1_count, .initialized RX1, .code yX1_count cX1_count 1 (some .int), .fieldLink RX1 13 "BeadBench$Piece" "number" "I"] ++ wsX30 ++ wsX00 ++ wsX10)
def wsX3_polished : List Cond := .code yX3_polished cX3_polished 4 (some .int) :: ([.fieldLink RX3 18 "BeadBench" "trays" "[LBeadBench$Holding;", .methodLink RX3 39 yX3_isTray, .static yX3_isTray, .initialized RX3, .code yX3_isTray cX3_isTray 1 (some .boolean), .methodLink RX3 54 yX0_hasPlace, .instanceMethod yX0_hasPlace, .selects RX0 yX0_hasPlace yX0_hasPlace, .initialized RX0, .code yX0_hasPlace cX0_hasPlace 2 (some .boolean), .fieldLink RX0 15 "BeadBench$Holding" "size" "I", .methodLink RX3 136 ⟨"BeadBench$Thing", "shine", "()I"⟩, .sameMethod "BeadBench$Thing" "BeadBench$Thing" "shine" "()I", .selects RX0 ⟨"BeadBench$Thing", "shine", "()I"⟩ yX0_shine, .instanceMethod yX0_shine, .code yX0_shine cX0_shine 3 (some .int), .fieldLink RX0 21 "BeadBench$Holding" "numbers" "[J", .selects RX1 ⟨"BeadBench$Thing", "shine", "()I"⟩ yX1_shine, .instanceMethod yX1_shine, .initialized RX1, .code yX1_shine cX1_shine 1 (some .int), .fieldLink RX1 16 "BeadBench$Piece" "gloss" "I"] ++ wsX30 ++ wsX00 ++ wsX10)
def wsX3_told : List Cond := .code yX3_told cX3_told 2 (some .int) :: ([.fieldLink RX3 32 "BeadBench" "filled" "I", .fieldLink RX3 28 "BeadBench" "tally" "[I", .fieldLink RX3 36 "BeadBench" "piecesMade" "I"] ++ wsX30)
def wsX4_init : List Cond := .code yX4_init cX4_init 1 none :: ([.methodLink RX4 1 objectInit, .instanceMethod objectInit, .code objectInit ⟨#[0xb1]⟩ 1 none, .arrayClass .int, .fieldLink RX4 7 "BeadBenchModel" "has" "[I", .fieldLink RX4 13 "BeadBenchModel" "holds" "[I", .fieldLink RX4 16 "BeadBenchModel" "rowKind" "[I", .fieldLink RX4 19 "BeadBenchModel" "rowFrom" "[I", .fieldLink RX4 22 "BeadBenchModel" "rowSize" "[I", .constant RX4 25 (33000), .arrayClass .long, .fieldLink RX4 26 "BeadBenchModel" "cell" "[J", .fieldLink RX4 30 "BeadBenchModel" "sort" "[I", .fieldLink RX4 33 "BeadBenchModel" "polish" "[I", .fieldLink RX4 36 "BeadBenchModel" "going" "[J", .fieldLink RX4 39 "BeadBenchModel" "before" "[J", .fieldLink RX4 42 "BeadBenchModel" "beforeRow" "I", .fieldLink RX4 46 "BeadBenchModel" "counts" "[I"] ++ wsX40)
def wsX4_in : List Cond := .code yX4_in cX4_in 3 (some .boolean) :: ([])
def wsX4_isTray : List Cond := .code yX4_isTray cX4_isTray 1 (some .boolean) :: ([.methodLink RX4 49 yX4_in, .static yX4_in, .initialized RX4, .code yX4_in cX4_in 3 (some .boolean)])
def wsX4_isNumbers : List Cond := .code yX4_isNumbers cX4_isNumbers 1 (some .boolean) :: ([.methodLink RX4 49 yX4_in, .static yX4_in, .initialized RX4, .code yX4_in cX4_in 3 (some .boolean)])
def wsX4_isRow : List Cond := .code yX4_isRow cX4_isRow 2 (some .boolean) :: ([.fieldLink RX4 7 "BeadBenchModel" "has" "[I"] ++ wsX40)
def wsX4_lacks : List Cond := .code yX4_lacks cX4_lacks 2 (some .int) :: ([.fieldLink RX4 7 "BeadBenchModel" "has" "[I"] ++ wsX40)
def wsX4_sizeOf : List Cond := .code yX4_sizeOf cX4_sizeOf 2 (some .int) :: ([.fieldLink RX4 22 "BeadBenchModel" "rowSize" "[I", .fieldLink RX4 13 "BeadBenchModel" "holds" "[I", .methodLink RX4 53 yX4_isRow, .instanceMethod yX4_isRow, .selects RX4 yX4_isRow yX4_isRow, .initialized RX4, .code yX4_isRow cX4_isRow 2 (some .boolean), .fieldLink RX4 7 "BeadBenchModel" "has" "[I"] ++ wsX40)
def wsX4_get : List Cond := .code yX4_get cX4_get 3 (some .long) :: ([.fieldLink RX4 26 "BeadBenchModel" "cell" "[J", .fieldLink RX4 19 "BeadBenchModel" "rowFrom" "[I", .fieldLink RX4 13 "BeadBenchModel" "holds" "[I"] ++ wsX40)
def wsX4_set : List Cond := .code yX4_set cX4_set 5 none :: ([.fieldLink RX4 26 "BeadBenchModel" "cell" "[J", .fieldLink RX4 19 "BeadBenchModel" "rowFrom" "[I", .fieldLink RX4 13 "BeadBenchModel" "holds" "[I"] ++ wsX40)
def wsX4_goes : List Cond := .code yX4_goes cX4_goes 5 (some .boolean) :: ([.fieldLink RX4 30 "BeadBenchModel" "sort" "[I", .methodLink RX4 57 yX4_isNumbers, .static yX4_isNumbers, .initialized RX4, .code yX4_isNumbers cX4_isNumbers 1 (some .boolean), .methodLink RX4 49 yX4_in, .static yX4_in, .code yX4_in cX4_in 3 (some .boolean)] ++ wsX40)
def wsX4_lay : List Cond := .code yX4_lay cX4_lay 4 (some .int) :: ([.fieldLink RX4 16 "BeadBenchModel" "rowKind" "[I", .fieldLink RX4 63 "BeadBenchModel" "rows" "I", .fieldLink RX4 19 "BeadBenchModel" "rowFrom" "[I", .fieldLink RX4 66 "BeadBenchModel" "cells" "I", .fieldLink RX4 22 "BeadBenchModel" "rowSize" "[I", .fieldLink RX4 7 "BeadBenchModel" "has" "[I", .fieldLink RX4 13 "BeadBenchModel" "holds" "[I", .methodLink RX4 60 yX4_isTray, .static yX4_isTray, .initialized RX4, .code yX4_isTray cX4_isTray 1 (some .boolean), .methodLink RX4 49 yX4_in, .static yX4_in, .code yX4_in cX4_in 3 (some .boolean)] ++ wsX40)
def wsX4_ticket : List Cond := .code yX4_ticket cX4_ticket 4 (some .boolean) :: ([.fieldLink RX4 7 "BeadBenchModel" "has" "[I", .fieldLink RX4 13 "BeadBenchModel" "holds" "[I", .methodLink RX4 60 yX4_isTray, .static yX4_isTray, .initialized RX4, .code yX4_isTray cX4_isTray 1 (some .boolean), .methodLink RX4 49 yX4_in, .static yX4_in, .code yX4_in cX4_in 3 (some .boolean)] ++ wsX40)
def wsX4_share : List Cond := .code yX4_share cX4_share 3 (some .int) :: ([.fieldLink RX4 7 "BeadBenchModel" "has" "[I", .fieldLink RX4 13 "BeadBenchModel" "holds" "[I", .methodLink RX4 60 yX4_isTray, .static yX4_isTray, .initialized RX4, .code yX4_isTray cX4_isTray 1 (some .boolean), .methodLink RX4 49 yX4_in, .static yX4_in, .code yX4_in cX4_in 3 (some .boolean)] ++ wsX40)
def wsX4_narrowed : List Cond := .code yX4_narrowed cX4_narrowed 2 (some .long) :: ([.constant RX4 69 (65535), .constant RX4 70 (65536)])
def wsX4_made : List Cond := .code yX4_made cX4_made 3 (some .long) :: ([.fieldLink RX4 71 "BeadBenchModel" "pieces" "I", .fieldLink RX4 30 "BeadBenchModel" "sort" "[I"] ++ wsX40)
def wsX4_put_r1 : List Cond := [Cond.fieldLink RX4 7 "BeadBenchModel" "has" "[I", Cond.constantLong RX4 82 (-1), Cond.fieldLink RX4 13 "BeadBenchModel" "holds" "[I", Cond.methodLink RX4 60 yX4_isTray, Cond.static yX4_isTray, Cond.initialized RX4, Cond.code yX4_isTray cX4_isTray 1 (some .boolean), Cond.methodLink RX4 49 yX4_in, Cond.static yX4_in, Cond.code yX4_in cX4_in 3 (some .boolean), Cond.methodLink RX4 53 yX4_isRow, Cond.instanceMethod yX4_isRow, Cond.selects RX4 yX4_isRow yX4_isRow, Cond.code yX4_isRow cX4_isRow 2 (some .boolean), Cond.methodLink RX4 74 yX4_lacks, Cond.instanceMethod yX4_lacks, Cond.selects RX4 yX4_lacks yX4_lacks, Cond.code yX4_lacks cX4_lacks 2 (some .int), Cond.methodLink RX4 57 yX4_isNumbers, Cond.static yX4_isNumbers, Cond.code yX4_isNumbers cX4_isNumbers 1 (some .boolean), Cond.methodLink RX4 78 yX4_narrowed, Cond.static yX4_narrowed, Cond.code yX4_narrowed cX4_narrowed 2 (some .long)]
def wsX4_put_r2 : List Cond := [Cond.constant RX4 69 (65535), Cond.constant RX4 70 (65536), Cond.methodLink RX4 84 yX4_made, Cond.instanceMethod yX4_made, Cond.selects RX4 yX4_made yX4_made, Cond.code yX4_made cX4_made 3 (some .long), Cond.fieldLink RX4 71 "BeadBenchModel" "pieces" "I", Cond.fieldLink RX4 30 "BeadBenchModel" "sort" "[I", Cond.methodLink RX4 88 yX4_sizeOf, Cond.instanceMethod yX4_sizeOf, Cond.selects RX4 yX4_sizeOf yX4_sizeOf, Cond.code yX4_sizeOf cX4_sizeOf 2 (some .int), Cond.fieldLink RX4 22 "BeadBenchModel" "rowSize" "[I", Cond.methodLink RX4 91 yX4_goes, Cond.instanceMethod yX4_goes, Cond.selects RX4 yX4_goes yX4_goes, Cond.code yX4_goes cX4_goes 5 (some .boolean), Cond.methodLink RX4 95 yX4_set, Cond.instanceMethod yX4_set, Cond.selects RX4 yX4_set yX4_set, Cond.code yX4_set cX4_set 5 none, Cond.fieldLink RX4 26 "BeadBenchModel" "cell" "[J", Cond.fieldLink RX4 19 "BeadBenchModel" "rowFrom" "[I"]
def wsX4_put : List Cond := .code yX4_put cX4_put 7 (some .int) :: ((wsX4_put_r1 ++ wsX4_put_r2) ++ wsX40)
def wsX4_keep : List Cond := .code yX4_keep cX4_keep 3 none :: ([.fieldLink RX4 13 "BeadBenchModel" "holds" "[I", .fieldLink RX4 42 "BeadBenchModel" "beforeRow" "I", .fieldLink RX4 39 "BeadBenchModel" "before" "[J", .methodLink RX4 53 yX4_isRow, .instanceMethod yX4_isRow, .selects RX4 yX4_isRow yX4_isRow, .initialized RX4, .code yX4_isRow cX4_isRow 2 (some .boolean), .fieldLink RX4 7 "BeadBenchModel" "has" "[I", .methodLink RX4 88 yX4_sizeOf, .instanceMethod yX4_sizeOf, .selects RX4 yX4_sizeOf yX4_sizeOf, .code yX4_sizeOf cX4_sizeOf 2 (some .int), .fieldLink RX4 22 "BeadBenchModel" "rowSize" "[I", .methodLink RX4 99 yX4_get, .instanceMethod yX4_get, .selects RX4 yX4_get yX4_get, .code yX4_get cX4_get 3 (some .long), .fieldLink RX4 26 "BeadBenchModel" "cell" "[J", .fieldLink RX4 19 "BeadBenchModel" "rowFrom" "[I"] ++ wsX40)
def wsX4_told0 : List Cond := .code yX4_told0 cX4_told0 2 (some .int) :: ([.fieldLink RX4 46 "BeadBenchModel" "counts" "[I"] ++ wsX40)
def wsX4_unlike : List Cond := .code yX4_unlike cX4_unlike 3 (some .int) :: ([.fieldLink RX4 7 "BeadBenchModel" "has" "[I", .methodLink RX4 57 yX4_isNumbers, .static yX4_isNumbers, .initialized RX4, .code yX4_isNumbers cX4_isNumbers 1 (some .boolean), .methodLink RX4 49 yX4_in, .static yX4_in, .code yX4_in cX4_in 3 (some .boolean)] ++ wsX40)
def wsX4_moved_r1 : List Cond := [Cond.fieldLink RX4 102 "BeadBenchModel" "filled" "I", Cond.fieldLink RX4 36 "BeadBenchModel" "going" "[J", Cond.fieldLink RX4 7 "BeadBenchModel" "has" "[I", Cond.methodLink RX4 105 yX4_unlike, Cond.instanceMethod yX4_unlike, Cond.selects RX4 yX4_unlike yX4_unlike, Cond.initialized RX4, Cond.code yX4_unlike cX4_unlike 3 (some .int), Cond.methodLink RX4 57 yX4_isNumbers, Cond.static yX4_isNumbers, Cond.code yX4_isNumbers cX4_isNumbers 1 (some .boolean), Cond.methodLink RX4 49 yX4_in, Cond.static yX4_in, Cond.code yX4_in cX4_in 3 (some .boolean), Cond.methodLink RX4 88 yX4_sizeOf, Cond.instanceMethod yX4_sizeOf, Cond.selects RX4 yX4_sizeOf yX4_sizeOf, Cond.code yX4_sizeOf cX4_sizeOf 2 (some .int), Cond.fieldLink RX4 22 "BeadBenchModel" "rowSize" "[I", Cond.fieldLink RX4 13 "BeadBenchModel" "holds" "[I", Cond.methodLink RX4 53 yX4_isRow, Cond.instanceMethod yX4_isRow, Cond.selects RX4 yX4_isRow yX4_isRow, Cond.code yX4_isRow cX4_isRow 2 (some .boolean)]
def wsX4_moved_r2 : List Cond := [Cond.methodLink RX4 99 yX4_get, Cond.instanceMethod yX4_get, Cond.selects RX4 yX4_get yX4_get, Cond.code yX4_get cX4_get 3 (some .long), Cond.fieldLink RX4 26 "BeadBenchModel" "cell" "[J", Cond.fieldLink RX4 19 "BeadBenchModel" "rowFrom" "[I", Cond.methodLink RX4 91 yX4_goes, Cond.instanceMethod yX4_goes, Cond.selects RX4 yX4_goes yX4_goes, Cond.code yX4_goes cX4_goes 5 (some .boolean), Cond.fieldLink RX4 30 "BeadBenchModel" "sort" "[I", Cond.methodLink RX4 95 yX4_set, Cond.instanceMethod yX4_set, Cond.selects RX4 yX4_set yX4_set, Cond.code yX4_set cX4_set 5 none]
def wsX4_moved : List Cond := .code yX4_moved cX4_moved 8 (some .int) :: ((wsX4_moved_r1 ++ wsX4_moved_r2) ++ wsX40)
def wsX4_move_r1 : List Cond := [Cond.methodLink RX4 60 yX4_isTray, Cond.static yX4_isTray, Cond.initialized RX4, Cond.code yX4_isTray cX4_isTray 1 (some .boolean), Cond.methodLink RX4 49 yX4_in, Cond.static yX4_in, Cond.code yX4_in cX4_in 3 (some .boolean), Cond.methodLink RX4 109 yX4_keep, Cond.instanceMethod yX4_keep, Cond.selects RX4 yX4_keep yX4_keep, Cond.code yX4_keep cX4_keep 3 none, Cond.fieldLink RX4 13 "BeadBenchModel" "holds" "[I", Cond.fieldLink RX4 42 "BeadBenchModel" "beforeRow" "I", Cond.fieldLink RX4 39 "BeadBenchModel" "before" "[J", Cond.methodLink RX4 53 yX4_isRow, Cond.instanceMethod yX4_isRow, Cond.selects RX4 yX4_isRow yX4_isRow, Cond.code yX4_isRow cX4_isRow 2 (some .boolean), Cond.fieldLink RX4 7 "BeadBenchModel" "has" "[I", Cond.methodLink RX4 88 yX4_sizeOf, Cond.instanceMethod yX4_sizeOf, Cond.selects RX4 yX4_sizeOf yX4_sizeOf, Cond.code yX4_sizeOf cX4_sizeOf 2 (some .int), Cond.fieldLink RX4 22 "BeadBenchModel" "rowSize" "[I"]
def wsX4_move_r2 : List Cond := [Cond.methodLink RX4 99 yX4_get, Cond.instanceMethod yX4_get, Cond.selects RX4 yX4_get yX4_get, Cond.code yX4_get cX4_get 3 (some .long), Cond.fieldLink RX4 26 "BeadBenchModel" "cell" "[J", Cond.fieldLink RX4 19 "BeadBenchModel" "rowFrom" "[I", Cond.methodLink RX4 113 yX4_moved, Cond.instanceMethod yX4_moved, Cond.selects RX4 yX4_moved yX4_moved, Cond.code yX4_moved cX4_moved 8 (some .int), Cond.fieldLink RX4 102 "BeadBenchModel" "filled" "I", Cond.fieldLink RX4 36 "BeadBenchModel" "going" "[J", Cond.methodLink RX4 105 yX4_unlike, Cond.instanceMethod yX4_unlike, Cond.selects RX4 yX4_unlike yX4_unlike, Cond.code yX4_unlike cX4_unlike 3 (some .int), Cond.methodLink RX4 57 yX4_isNumbers, Cond.static yX4_isNumbers, Cond.code yX4_isNumbers cX4_isNumbers 1 (some .boolean), Cond.methodLink RX4 91 yX4_goes, Cond.instanceMethod yX4_goes, Cond.selects RX4 yX4_goes yX4_goes, Cond.code yX4_goes cX4_goes 5 (some .boolean), Cond.fieldLink RX4 30 "BeadBenchModel" "sort" "[I"]
def wsX4_move_r3 : List Cond := [Cond.methodLink RX4 95 yX4_set, Cond.instanceMethod yX4_set, Cond.selects RX4 yX4_set yX4_set, Cond.code yX4_set cX4_set 5 none, Cond.methodLink RX4 117 yX4_told0, Cond.instanceMethod yX4_told0, Cond.selects RX4 yX4_told0 yX4_told0, Cond.code yX4_told0 cX4_told0 2 (some .int), Cond.fieldLink RX4 46 "BeadBenchModel" "counts" "[I"]
def wsX4_move : List Cond := .code yX4_move cX4_move 6 (some .int) :: ((wsX4_move_r1 ++ (wsX4_move_r2 ++ wsX4_move_r3)) ++ wsX40)
def wsX4_open_r1 : List Cond := [Cond.methodLink RX4 60 yX4_isTray, Cond.static yX4_isTray, Cond.initialized RX4, Cond.code yX4_isTray cX4_isTray 1 (some .boolean), Cond.methodLink RX4 49 yX4_in, Cond.static yX4_in, Cond.code yX4_in cX4_in 3 (some .boolean), Cond.methodLink RX4 109 yX4_keep, Cond.instanceMethod yX4_keep, Cond.selects RX4 yX4_keep yX4_keep, Cond.code yX4_keep cX4_keep 3 none, Cond.fieldLink RX4 13 "BeadBenchModel" "holds" "[I", Cond.fieldLink RX4 42 "BeadBenchModel" "beforeRow" "I", Cond.fieldLink RX4 39 "BeadBenchModel" "before" "[J", Cond.methodLink RX4 53 yX4_isRow, Cond.instanceMethod yX4_isRow, Cond.selects RX4 yX4_isRow yX4_isRow, Cond.code yX4_isRow cX4_isRow 2 (some .boolean), Cond.fieldLink RX4 7 "BeadBenchModel" "has" "[I", Cond.methodLink RX4 88 yX4_sizeOf, Cond.instanceMethod yX4_sizeOf, Cond.selects RX4 yX4_sizeOf yX4_sizeOf, Cond.code yX4_sizeOf cX4_sizeOf 2 (some .int), Cond.fieldLink RX4 22 "BeadBenchModel" "rowSize" "[I"]
def wsX4_open_r2 : List Cond := [Cond.methodLink RX4 99 yX4_get, Cond.instanceMethod yX4_get, Cond.selects RX4 yX4_get yX4_get, Cond.code yX4_get cX4_get 3 (some .long), Cond.fieldLink RX4 26 "BeadBenchModel" "cell" "[J", Cond.fieldLink RX4 19 "BeadBenchModel" "rowFrom" "[I", Cond.methodLink RX4 113 yX4_moved, Cond.instanceMethod yX4_moved, Cond.selects RX4 yX4_moved yX4_moved, Cond.code yX4_moved cX4_moved 8 (some .int), Cond.fieldLink RX4 102 "BeadBenchModel" "filled" "I", Cond.fieldLink RX4 36 "BeadBenchModel" "going" "[J", Cond.methodLink RX4 105 yX4_unlike, Cond.instanceMethod yX4_unlike, Cond.selects RX4 yX4_unlike yX4_unlike, Cond.code yX4_unlike cX4_unlike 3 (some .int), Cond.methodLink RX4 57 yX4_isNumbers, Cond.static yX4_isNumbers, Cond.code yX4_isNumbers cX4_isNumbers 1 (some .boolean), Cond.methodLink RX4 91 yX4_goes, Cond.instanceMethod yX4_goes, Cond.selects RX4 yX4_goes yX4_goes, Cond.code yX4_goes cX4_goes 5 (some .boolean), Cond.fieldLink RX4 30 "BeadBenchModel" "sort" "[I"]
def wsX4_open_r3 : List Cond := [Cond.methodLink RX4 95 yX4_set, Cond.instanceMethod yX4_set, Cond.selects RX4 yX4_set yX4_set, Cond.code yX4_set cX4_set 5 none, Cond.methodLink RX4 117 yX4_told0, Cond.instanceMethod yX4_told0, Cond.selects RX4 yX4_told0 yX4_told0, Cond.code yX4_told0 cX4_told0 2 (some .int), Cond.fieldLink RX4 46 "BeadBenchModel" "counts" "[I"]
def wsX4_open : List Cond := .code yX4_open cX4_open 4 (some .int) :: ((wsX4_open_r1 ++ (wsX4_open_r2 ++ wsX4_open_r3)) ++ wsX40)
def wsX4_close_r1 : List Cond := [Cond.methodLink RX4 60 yX4_isTray, Cond.static yX4_isTray, Cond.initialized RX4, Cond.code yX4_isTray cX4_isTray 1 (some .boolean), Cond.methodLink RX4 49 yX4_in, Cond.static yX4_in, Cond.code yX4_in cX4_in 3 (some .boolean), Cond.methodLink RX4 109 yX4_keep, Cond.instanceMethod yX4_keep, Cond.selects RX4 yX4_keep yX4_keep, Cond.code yX4_keep cX4_keep 3 none, Cond.fieldLink RX4 13 "BeadBenchModel" "holds" "[I", Cond.fieldLink RX4 42 "BeadBenchModel" "beforeRow" "I", Cond.fieldLink RX4 39 "BeadBenchModel" "before" "[J", Cond.methodLink RX4 53 yX4_isRow, Cond.instanceMethod yX4_isRow, Cond.selects RX4 yX4_isRow yX4_isRow, Cond.code yX4_isRow cX4_isRow 2 (some .boolean), Cond.fieldLink RX4 7 "BeadBenchModel" "has" "[I", Cond.methodLink RX4 88 yX4_sizeOf, Cond.instanceMethod yX4_sizeOf, Cond.selects RX4 yX4_sizeOf yX4_sizeOf, Cond.code yX4_sizeOf cX4_sizeOf 2 (some .int), Cond.fieldLink RX4 22 "BeadBenchModel" "rowSize" "[I"]
def wsX4_close_r2 : List Cond := [Cond.methodLink RX4 99 yX4_get, Cond.instanceMethod yX4_get, Cond.selects RX4 yX4_get yX4_get, Cond.code yX4_get cX4_get 3 (some .long), Cond.fieldLink RX4 26 "BeadBenchModel" "cell" "[J", Cond.fieldLink RX4 19 "BeadBenchModel" "rowFrom" "[I", Cond.methodLink RX4 113 yX4_moved, Cond.instanceMethod yX4_moved, Cond.selects RX4 yX4_moved yX4_moved, Cond.code yX4_moved cX4_moved 8 (some .int), Cond.fieldLink RX4 102 "BeadBenchModel" "filled" "I", Cond.fieldLink RX4 36 "BeadBenchModel" "going" "[J", Cond.methodLink RX4 105 yX4_unlike, Cond.instanceMethod yX4_unlike, Cond.selects RX4 yX4_unlike yX4_unlike, Cond.code yX4_unlike cX4_unlike 3 (some .int), Cond.methodLink RX4 57 yX4_isNumbers, Cond.static yX4_isNumbers, Cond.code yX4_isNumbers cX4_isNumbers 1 (some .boolean), Cond.methodLink RX4 91 yX4_goes, Cond.instanceMethod yX4_goes, Cond.selects RX4 yX4_goes yX4_goes, Cond.code yX4_goes cX4_goes 5 (some .boolean), Cond.fieldLink RX4 30 "BeadBenchModel" "sort" "[I"]
def wsX4_close_r3 : List Cond := [Cond.methodLink RX4 95 yX4_set, Cond.instanceMethod yX4_set, Cond.selects RX4 yX4_set yX4_set, Cond.code yX4_set cX4_set 5 none, Cond.methodLink RX4 117 yX4_told0, Cond.instanceMethod yX4_told0, Cond.selects RX4 yX4_told0 yX4_told0, Cond.code yX4_told0 cX4_told0 2 (some .int), Cond.fieldLink RX4 46 "BeadBenchModel" "counts" "[I"]
def wsX4_close : List Cond := .code yX4_close cX4_close 4 (some .int) :: ((wsX4_close_r1 ++ (wsX4_close_r2 ++ wsX4_close_r3)) ++ wsX40)
def wsX4_turn_r1 : List Cond := [Cond.fieldLink RX4 39 "BeadBenchModel" "before" "[J", Cond.methodLink RX4 60 yX4_isTray, Cond.static yX4_isTray, Cond.initialized RX4, Cond.code yX4_isTray cX4_isTray 1 (some .boolean), Cond.methodLink RX4 49 yX4_in, Cond.static yX4_in, Cond.code yX4_in cX4_in 3 (some .boolean), Cond.methodLink RX4 109 yX4_keep, Cond.instanceMethod yX4_keep, Cond.selects RX4 yX4_keep yX4_keep, Cond.code yX4_keep cX4_keep 3 none, Cond.fieldLink RX4 13 "BeadBenchModel" "holds" "[I", Cond.fieldLink RX4 42 "BeadBenchModel" "beforeRow" "I", Cond.methodLink RX4 53 yX4_isRow, Cond.instanceMethod yX4_isRow, Cond.selects RX4 yX4_isRow yX4_isRow, Cond.code yX4_isRow cX4_isRow 2 (some .boolean), Cond.fieldLink RX4 7 "BeadBenchModel" "has" "[I", Cond.methodLink RX4 88 yX4_sizeOf, Cond.instanceMethod yX4_sizeOf, Cond.selects RX4 yX4_sizeOf yX4_sizeOf, Cond.code yX4_sizeOf cX4_sizeOf 2 (some .int), Cond.fieldLink RX4 22 "BeadBenchModel" "rowSize" "[I"]
def wsX4_turn_r2 : List Cond := [Cond.methodLink RX4 99 yX4_get, Cond.instanceMethod yX4_get, Cond.selects RX4 yX4_get yX4_get, Cond.code yX4_get cX4_get 3 (some .long), Cond.fieldLink RX4 26 "BeadBenchModel" "cell" "[J", Cond.fieldLink RX4 19 "BeadBenchModel" "rowFrom" "[I", Cond.methodLink RX4 74 yX4_lacks, Cond.instanceMethod yX4_lacks, Cond.selects RX4 yX4_lacks yX4_lacks, Cond.code yX4_lacks cX4_lacks 2 (some .int), Cond.methodLink RX4 117 yX4_told0, Cond.instanceMethod yX4_told0, Cond.selects RX4 yX4_told0 yX4_told0, Cond.code yX4_told0 cX4_told0 2 (some .int), Cond.fieldLink RX4 46 "BeadBenchModel" "counts" "[I", Cond.methodLink RX4 95 yX4_set, Cond.instanceMethod yX4_set, Cond.selects RX4 yX4_set yX4_set, Cond.code yX4_set cX4_set 5 none]
def wsX4_turn : List Cond := .code yX4_turn cX4_turn 7 (some .int) :: ((wsX4_turn_r1 ++ wsX4_turn_r2) ++ wsX40)
def wsX4_spread_r1 : List Cond := [Cond.fieldLink RX4 39 "BeadBenchModel" "before" "[J", Cond.methodLink RX4 60 yX4_isTray, Cond.static yX4_isTray, Cond.initialized RX4, Cond.code yX4_isTray cX4_isTray 1 (some .boolean), Cond.methodLink RX4 49 yX4_in, Cond.static yX4_in, Cond.code yX4_in cX4_in 3 (some .boolean), Cond.methodLink RX4 109 yX4_keep, Cond.instanceMethod yX4_keep, Cond.selects RX4 yX4_keep yX4_keep, Cond.code yX4_keep cX4_keep 3 none, Cond.fieldLink RX4 13 "BeadBenchModel" "holds" "[I", Cond.fieldLink RX4 42 "BeadBenchModel" "beforeRow" "I", Cond.methodLink RX4 53 yX4_isRow, Cond.instanceMethod yX4_isRow, Cond.selects RX4 yX4_isRow yX4_isRow, Cond.code yX4_isRow cX4_isRow 2 (some .boolean), Cond.fieldLink RX4 7 "BeadBenchModel" "has" "[I", Cond.methodLink RX4 88 yX4_sizeOf, Cond.instanceMethod yX4_sizeOf, Cond.selects RX4 yX4_sizeOf yX4_sizeOf, Cond.code yX4_sizeOf cX4_sizeOf 2 (some .int), Cond.fieldLink RX4 22 "BeadBenchModel" "rowSize" "[I"]
def wsX4_spread_r2 : List Cond := [Cond.methodLink RX4 99 yX4_get, Cond.instanceMethod yX4_get, Cond.selects RX4 yX4_get yX4_get, Cond.code yX4_get cX4_get 3 (some .long), Cond.fieldLink RX4 26 "BeadBenchModel" "cell" "[J", Cond.fieldLink RX4 19 "BeadBenchModel" "rowFrom" "[I", Cond.methodLink RX4 74 yX4_lacks, Cond.instanceMethod yX4_lacks, Cond.selects RX4 yX4_lacks yX4_lacks, Cond.code yX4_lacks cX4_lacks 2 (some .int), Cond.methodLink RX4 117 yX4_told0, Cond.instanceMethod yX4_told0, Cond.selects RX4 yX4_told0 yX4_told0, Cond.code yX4_told0 cX4_told0 2 (some .int), Cond.fieldLink RX4 46 "BeadBenchModel" "counts" "[I", Cond.methodLink RX4 95 yX4_set, Cond.instanceMethod yX4_set, Cond.selects RX4 yX4_set yX4_set, Cond.code yX4_set cX4_set 5 none]
def wsX4_spread : List Cond := .code yX4_spread cX4_spread 5 (some .int) :: ((wsX4_spread_r1 ++ wsX4_spread_r2) ++ wsX40)
def wsX4_undo : List Cond := .code yX4_undo cX4_undo 3 (some .int) :: ([.fieldLink RX4 42 "BeadBenchModel" "beforeRow" "I", .fieldLink RX4 22 "BeadBenchModel" "rowSize" "[I", .fieldLink RX4 26 "BeadBenchModel" "cell" "[J", .fieldLink RX4 19 "BeadBenchModel" "rowFrom" "[I", .fieldLink RX4 39 "BeadBenchModel" "before" "[J"] ++ wsX40)
def wsX4_match_r1 : List Cond := [Cond.methodLink RX4 60 yX4_isTray, Cond.static yX4_isTray, Cond.initialized RX4, Cond.code yX4_isTray cX4_isTray 1 (some .boolean), Cond.methodLink RX4 49 yX4_in, Cond.static yX4_in, Cond.code yX4_in cX4_in 3 (some .boolean), Cond.methodLink RX4 105 yX4_unlike, Cond.instanceMethod yX4_unlike, Cond.selects RX4 yX4_unlike yX4_unlike, Cond.code yX4_unlike cX4_unlike 3 (some .int), Cond.fieldLink RX4 7 "BeadBenchModel" "has" "[I", Cond.methodLink RX4 57 yX4_isNumbers, Cond.static yX4_isNumbers, Cond.code yX4_isNumbers cX4_isNumbers 1 (some .boolean), Cond.methodLink RX4 88 yX4_sizeOf, Cond.instanceMethod yX4_sizeOf, Cond.selects RX4 yX4_sizeOf yX4_sizeOf, Cond.code yX4_sizeOf cX4_sizeOf 2 (some .int), Cond.fieldLink RX4 22 "BeadBenchModel" "rowSize" "[I", Cond.fieldLink RX4 13 "BeadBenchModel" "holds" "[I", Cond.methodLink RX4 53 yX4_isRow, Cond.instanceMethod yX4_isRow, Cond.selects RX4 yX4_isRow yX4_isRow]
def wsX4_match_r2 : List Cond := [Cond.code yX4_isRow cX4_isRow 2 (some .boolean), Cond.methodLink RX4 99 yX4_get, Cond.instanceMethod yX4_get, Cond.selects RX4 yX4_get yX4_get, Cond.code yX4_get cX4_get 3 (some .long), Cond.fieldLink RX4 26 "BeadBenchModel" "cell" "[J", Cond.fieldLink RX4 19 "BeadBenchModel" "rowFrom" "[I"]
def wsX4_match : List Cond := .code yX4_match cX4_match 8 (some .int) :: ((wsX4_match_r1 ++ wsX4_match_r2) ++ wsX40)
def wsX4_polish_r1 : List Cond := [Cond.fieldLink RX4 7 "BeadBenchModel" "has" "[I", Cond.fieldLink RX4 33 "BeadBenchModel" "polish" "[I", Cond.methodLink RX4 60 yX4_isTray, Cond.static yX4_isTray, Cond.initialized RX4, Cond.code yX4_isTray cX4_isTray 1 (some .boolean), Cond.methodLink RX4 49 yX4_in, Cond.static yX4_in, Cond.code yX4_in cX4_in 3 (some .boolean), Cond.methodLink RX4 53 yX4_isRow, Cond.instanceMethod yX4_isRow, Cond.selects RX4 yX4_isRow yX4_isRow, Cond.code yX4_isRow cX4_isRow 2 (some .boolean), Cond.methodLink RX4 74 yX4_lacks, Cond.instanceMethod yX4_lacks, Cond.selects RX4 yX4_lacks yX4_lacks, Cond.code yX4_lacks cX4_lacks 2 (some .int), Cond.methodLink RX4 88 yX4_sizeOf, Cond.instanceMethod yX4_sizeOf, Cond.selects RX4 yX4_sizeOf yX4_sizeOf, Cond.code yX4_sizeOf cX4_sizeOf 2 (some .int), Cond.fieldLink RX4 22 "BeadBenchModel" "rowSize" "[I", Cond.fieldLink RX4 13 "BeadBenchModel" "holds" "[I", Cond.methodLink RX4 99 yX4_get]
def wsX4_polish_r2 : List Cond := [Cond.instanceMethod yX4_get, Cond.selects RX4 yX4_get yX4_get, Cond.code yX4_get cX4_get 3 (some .long), Cond.fieldLink RX4 26 "BeadBenchModel" "cell" "[J", Cond.fieldLink RX4 19 "BeadBenchModel" "rowFrom" "[I"]
def wsX4_polish : List Cond := .code yX4_polish cX4_polish 5 (some .int) :: ((wsX4_polish_r1 ++ wsX4_polish_r2) ++ wsX40)
def wsX4_tray : List Cond := .code yX4_tray cX4_tray 3 (some .int) :: ([.fieldLink RX4 7 "BeadBenchModel" "has" "[I", .fieldLink RX4 13 "BeadBenchModel" "holds" "[I", .methodLink RX4 60 yX4_isTray, .static yX4_isTray, .initialized RX4, .code yX4_isTray cX4_isTray 1 (some .boolean), .methodLink RX4 49 yX4_in, .static yX4_in, .code yX4_in cX4_in 3 (some .boolean), .methodLink RX4 88 yX4_sizeOf, .instanceMethod yX4_sizeOf, .selects RX4 yX4_sizeOf yX4_sizeOf, .code yX4_sizeOf cX4_sizeOf 2 (some .int), .fieldLink RX4 22 "BeadBenchModel" "rowSize" "[I", .methodLink RX4 53 yX4_isRow, .instanceMethod yX4_isRow, .selects RX4 yX4_isRow yX4_isRow, .code yX4_isRow cX4_isRow 2 (some .boolean)] ++ wsX40)
def wsX4_what_r1 : List Cond := [Cond.fieldLink RX4 7 "BeadBenchModel" "has" "[I", Cond.fieldLink RX4 30 "BeadBenchModel" "sort" "[I", Cond.methodLink RX4 60 yX4_isTray, Cond.static yX4_isTray, Cond.initialized RX4, Cond.code yX4_isTray cX4_isTray 1 (some .boolean), Cond.methodLink RX4 49 yX4_in, Cond.static yX4_in, Cond.code yX4_in cX4_in 3 (some .boolean), Cond.methodLink RX4 53 yX4_isRow, Cond.instanceMethod yX4_isRow, Cond.selects RX4 yX4_isRow yX4_isRow, Cond.code yX4_isRow cX4_isRow 2 (some .boolean), Cond.methodLink RX4 74 yX4_lacks, Cond.instanceMethod yX4_lacks, Cond.selects RX4 yX4_lacks yX4_lacks, Cond.code yX4_lacks cX4_lacks 2 (some .int), Cond.methodLink RX4 88 yX4_sizeOf, Cond.instanceMethod yX4_sizeOf, Cond.selects RX4 yX4_sizeOf yX4_sizeOf, Cond.code yX4_sizeOf cX4_sizeOf 2 (some .int), Cond.fieldLink RX4 22 "BeadBenchModel" "rowSize" "[I", Cond.fieldLink RX4 13 "BeadBenchModel" "holds" "[I", Cond.methodLink RX4 57 yX4_isNumbers]
def wsX4_what_r2 : List Cond := [Cond.static yX4_isNumbers, Cond.code yX4_isNumbers cX4_isNumbers 1 (some .boolean), Cond.methodLink RX4 99 yX4_get, Cond.instanceMethod yX4_get, Cond.selects RX4 yX4_get yX4_get, Cond.code yX4_get cX4_get 3 (some .long), Cond.fieldLink RX4 26 "BeadBenchModel" "cell" "[J", Cond.fieldLink RX4 19 "BeadBenchModel" "rowFrom" "[I"]
def wsX4_what : List Cond := .code yX4_what cX4_what 5 (some .int) :: ((wsX4_what_r1 ++ wsX4_what_r2) ++ wsX40)
def wsX4_at_r1 : List Cond := [Cond.fieldLink RX4 22 "BeadBenchModel" "rowSize" "[I", Cond.constantLong RX4 82 (-1), Cond.methodLink RX4 120 yX4_what, Cond.instanceMethod yX4_what, Cond.selects RX4 yX4_what yX4_what, Cond.initialized RX4, Cond.code yX4_what cX4_what 5 (some .int), Cond.fieldLink RX4 7 "BeadBenchModel" "has" "[I", Cond.fieldLink RX4 30 "BeadBenchModel" "sort" "[I", Cond.methodLink RX4 60 yX4_isTray, Cond.static yX4_isTray, Cond.code yX4_isTray cX4_isTray 1 (some .boolean), Cond.methodLink RX4 49 yX4_in, Cond.static yX4_in, Cond.code yX4_in cX4_in 3 (some .boolean), Cond.methodLink RX4 53 yX4_isRow, Cond.instanceMethod yX4_isRow, Cond.selects RX4 yX4_isRow yX4_isRow, Cond.code yX4_isRow cX4_isRow 2 (some .boolean), Cond.methodLink RX4 74 yX4_lacks, Cond.instanceMethod yX4_lacks, Cond.selects RX4 yX4_lacks yX4_lacks, Cond.code yX4_lacks cX4_lacks 2 (some .int), Cond.methodLink RX4 88 yX4_sizeOf]
def wsX4_at_r2 : List Cond := [Cond.instanceMethod yX4_sizeOf, Cond.selects RX4 yX4_sizeOf yX4_sizeOf, Cond.code yX4_sizeOf cX4_sizeOf 2 (some .int), Cond.fieldLink RX4 13 "BeadBenchModel" "holds" "[I", Cond.methodLink RX4 57 yX4_isNumbers, Cond.static yX4_isNumbers, Cond.code yX4_isNumbers cX4_isNumbers 1 (some .boolean), Cond.methodLink RX4 99 yX4_get, Cond.instanceMethod yX4_get, Cond.selects RX4 yX4_get yX4_get, Cond.code yX4_get cX4_get 3 (some .long), Cond.fieldLink RX4 26 "BeadBenchModel" "cell" "[J", Cond.fieldLink RX4 19 "BeadBenchModel" "rowFrom" "[I"]
def wsX4_at : List Cond := .code yX4_at cX4_at 4 (some .long) :: ((wsX4_at_r1 ++ wsX4_at_r2) ++ wsX40)
def wsX4_polished_r1 : List Cond := [Cond.fieldLink RX4 33 "BeadBenchModel" "polish" "[I", Cond.constantLong RX4 82 (-1), Cond.fieldLink RX4 22 "BeadBenchModel" "rowSize" "[I", Cond.fieldLink RX4 26 "BeadBenchModel" "cell" "[J", Cond.fieldLink RX4 19 "BeadBenchModel" "rowFrom" "[I", Cond.methodLink RX4 120 yX4_what, Cond.instanceMethod yX4_what, Cond.selects RX4 yX4_what yX4_what, Cond.initialized RX4, Cond.code yX4_what cX4_what 5 (some .int), Cond.fieldLink RX4 7 "BeadBenchModel" "has" "[I", Cond.fieldLink RX4 30 "BeadBenchModel" "sort" "[I", Cond.methodLink RX4 60 yX4_isTray, Cond.static yX4_isTray, Cond.code yX4_isTray cX4_isTray 1 (some .boolean), Cond.methodLink RX4 49 yX4_in, Cond.static yX4_in, Cond.code yX4_in cX4_in 3 (some .boolean), Cond.methodLink RX4 53 yX4_isRow, Cond.instanceMethod yX4_isRow, Cond.selects RX4 yX4_isRow yX4_isRow, Cond.code yX4_isRow cX4_isRow 2 (some .boolean), Cond.methodLink RX4 74 yX4_lacks, Cond.instanceMethod yX4_lacks]
def wsX4_polished_r2 : List Cond := [Cond.selects RX4 yX4_lacks yX4_lacks, Cond.code yX4_lacks cX4_lacks 2 (some .int), Cond.methodLink RX4 88 yX4_sizeOf, Cond.instanceMethod yX4_sizeOf, Cond.selects RX4 yX4_sizeOf yX4_sizeOf, Cond.code yX4_sizeOf cX4_sizeOf 2 (some .int), Cond.fieldLink RX4 13 "BeadBenchModel" "holds" "[I", Cond.methodLink RX4 57 yX4_isNumbers, Cond.static yX4_isNumbers, Cond.code yX4_isNumbers cX4_isNumbers 1 (some .boolean), Cond.methodLink RX4 99 yX4_get, Cond.instanceMethod yX4_get, Cond.selects RX4 yX4_get yX4_get, Cond.code yX4_get cX4_get 3 (some .long)]
def wsX4_polished : List Cond := .code yX4_polished cX4_polished 9 (some .int) :: ((wsX4_polished_r1 ++ wsX4_polished_r2) ++ wsX40)
def wsX4_told : List Cond := .code yX4_told cX4_told 2 (some .int) :: ([.fieldLink RX4 102 "BeadBenchModel" "filled" "I", .fieldLink RX4 71 "BeadBenchModel" "pieces" "I", .fieldLink RX4 46 "BeadBenchModel" "counts" "[I", .methodLink RX4 49 yX4_in, .static yX4_in, .initialized RX4, .code yX4_in cX4_in 3 (some .boolean)] ++ wsX40)
def wsJ9_min_7cf53 : List Cond := .code yJ9_min_7cf53 cJ9_min_7cf53 2 (some .int) :: ([])
def wsL_law_r1 : List Cond := [Cond.classLink RL 7 RX3, Cond.instantiable RX3 7, Cond.initialized RX3, Cond.classLink RL 10 RX4, Cond.instantiable RX4 16, Cond.initialized RX4, Cond.methodLink RL 9 yX3_init, Cond.instanceMethod yX3_init, Cond.code yX3_init cX3_init 2 none, Cond.methodLink RX3 1 objectInit, Cond.instanceMethod objectInit, Cond.code objectInit ⟨#[0xb1]⟩ 1 none, Cond.classLink RX3 7 RX0, Cond.instantiable RX0 5, Cond.initialized RX0, Cond.fieldLink RX3 14 "BeadBench" "nothing" "LBeadBench$Holding;", Cond.fieldLink RX3 18 "BeadBench" "trays" "[LBeadBench$Holding;", Cond.fieldLink RX3 22 "BeadBench" "before" "LBeadBench$Holding;", Cond.fieldLink RX3 25 "BeadBench" "changed" "LBeadBench$Holding;", Cond.arrayClass .int, Cond.fieldLink RX3 28 "BeadBench" "tally" "[I", Cond.fieldLink RX3 32 "BeadBench" "filled" "I", Cond.fieldLink RX3 36 "BeadBench" "piecesMade" "I", Cond.methodLink RX3 11 yX0_init]
def wsL_law_r2 : List Cond := [Cond.instanceMethod yX0_init, Cond.code yX0_init cX0_init 4 none, Cond.fieldLink RX0 9 "BeadBench$Holding" "kind" "I", Cond.fieldLink RX0 15 "BeadBench$Holding" "size" "I", Cond.fieldLink RX0 18 "BeadBench$Holding" "ticketNumber" "I", Cond.arrayClass .long, Cond.fieldLink RX0 21 "BeadBench$Holding" "numbers" "[J", Cond.classLink RX0 4 RX2, Cond.fieldLink RX0 25 "BeadBench$Holding" "things" "[LBeadBench$Thing;", Cond.instanceMethod yX2_init, Cond.initialized RX2, Cond.code yX2_init cX2_init 1 none, Cond.methodLink RX2 1 objectInit, Cond.methodLink RL 12 yX4_init, Cond.instanceMethod yX4_init, Cond.code yX4_init cX4_init 1 none, Cond.methodLink RX4 1 objectInit, Cond.fieldLink RX4 7 "BeadBenchModel" "has" "[I", Cond.fieldLink RX4 13 "BeadBenchModel" "holds" "[I", Cond.fieldLink RX4 16 "BeadBenchModel" "rowKind" "[I", Cond.fieldLink RX4 19 "BeadBenchModel" "rowFrom" "[I", Cond.fieldLink RX4 22 "BeadBenchModel" "rowSize" "[I", Cond.constant RX4 25 (33000), Cond.fieldLink RX4 26 "BeadBenchModel" "cell" "[J"]
def wsL_law_r3 : List Cond := [Cond.fieldLink RX4 30 "BeadBenchModel" "sort" "[I", Cond.fieldLink RX4 33 "BeadBenchModel" "polish" "[I", Cond.fieldLink RX4 36 "BeadBenchModel" "going" "[J", Cond.fieldLink RX4 39 "BeadBenchModel" "before" "[J", Cond.fieldLink RX4 42 "BeadBenchModel" "beforeRow" "I", Cond.fieldLink RX4 46 "BeadBenchModel" "counts" "[I", Cond.methodLink RL 13 yX3_lay, Cond.instanceMethod yX3_lay, Cond.selects RX3 yX3_lay yX3_lay, Cond.code yX3_lay cX3_lay 4 (some .int), Cond.methodLink RX3 39 yX3_isTray, Cond.static yX3_isTray, Cond.code yX3_isTray cX3_isTray 1 (some .boolean), Cond.methodLink RL 17 yX4_lay, Cond.instanceMethod yX4_lay, Cond.selects RX4 yX4_lay yX4_lay, Cond.code yX4_lay cX4_lay 4 (some .int), Cond.fieldLink RX4 63 "BeadBenchModel" "rows" "I", Cond.fieldLink RX4 66 "BeadBenchModel" "cells" "I", Cond.methodLink RX4 60 yX4_isTray, Cond.static yX4_isTray, Cond.code yX4_isTray cX4_isTray 1 (some .boolean), Cond.methodLink RX4 49 yX4_in, Cond.static yX4_in]
def wsL_law_r4 : List Cond := [Cond.code yX4_in cX4_in 3 (some .boolean), Cond.methodLink RL 18 yX3_ticket, Cond.instanceMethod yX3_ticket, Cond.selects RX3 yX3_ticket yX3_ticket, Cond.code yX3_ticket cX3_ticket 4 (some .boolean), Cond.methodLink RL 22 yX4_ticket, Cond.instanceMethod yX4_ticket, Cond.selects RX4 yX4_ticket yX4_ticket, Cond.code yX4_ticket cX4_ticket 4 (some .boolean), Cond.methodLink RL 23 yX3_share, Cond.instanceMethod yX3_share, Cond.selects RX3 yX3_share yX3_share, Cond.code yX3_share cX3_share 3 (some .int), Cond.methodLink RL 27 yX4_share, Cond.instanceMethod yX4_share, Cond.selects RX4 yX4_share yX4_share, Cond.code yX4_share cX4_share 3 (some .int), Cond.methodLink RL 28 yX3_put, Cond.instanceMethod yX3_put, Cond.selects RX3 yX3_put yX3_put, Cond.code yX3_put cX3_put 7 (some .int), Cond.methodLink RX3 46 yX0_refusal, Cond.instanceMethod yX0_refusal, Cond.selects RX0 yX0_refusal yX0_refusal]
def wsL_law_r5 : List Cond := [Cond.code yX0_refusal cX0_refusal 1 (some .int), Cond.methodLink RX3 50 yX3_thingFor, Cond.instanceMethod yX3_thingFor, Cond.selects RX3 yX3_thingFor yX3_thingFor, Cond.code yX3_thingFor cX3_thingFor 3 (some (.object "BeadBench$Thing")), Cond.methodLink RX3 96 yJ9_floorMod_7cf53, Cond.static yJ9_floorMod_7cf53, Cond.initialized RJ9, Cond.code yJ9_floorMod_7cf53 cJ9_floorMod_7cf53 3 (some .int), Cond.methodLink RX3 143 yX3_newPiece, Cond.instanceMethod yX3_newPiece, Cond.selects RX3 yX3_newPiece yX3_newPiece, Cond.code yX3_newPiece cX3_newPiece 2 (some (.object "BeadBench$Piece")), Cond.classLink RX3 117 RX1, Cond.instantiable RX1 3, Cond.initialized RX1, Cond.methodLink RX3 147 yX1_init, Cond.instanceMethod yX1_init, Cond.code yX1_init cX1_init 3 none, Cond.fieldLink RX1 7 "BeadBench$Piece" "sort" "I", Cond.fieldLink RX1 13 "BeadBench$Piece" "number" "I", Cond.fieldLink RX1 16 "BeadBench$Piece" "gloss" "I", Cond.methodLink RX3 54 yX0_hasPlace, Cond.instanceMethod yX0_hasPlace]
def wsL_law_r6 : List Cond := [Cond.selects RX0 yX0_hasPlace yX0_hasPlace, Cond.code yX0_hasPlace cX0_hasPlace 2 (some .boolean), Cond.methodLink RX3 57 yX0_accepts, Cond.instanceMethod yX0_accepts, Cond.selects RX0 yX0_accepts yX0_accepts, Cond.code yX0_accepts cX0_accepts 3 (some .boolean), Cond.methodLink RX0 29 ⟨"BeadBench$Thing", "sortOfThing", "()I"⟩, Cond.sameMethod "BeadBench$Thing" "BeadBench$Thing" "sortOfThing" "()I", Cond.selects RX0 ⟨"BeadBench$Thing", "sortOfThing", "()I"⟩ yX0_sortOfThing, Cond.instanceMethod yX0_sortOfThing, Cond.code yX0_sortOfThing cX0_sortOfThing 1 (some .int), Cond.selects RX1 ⟨"BeadBench$Thing", "sortOfThing", "()I"⟩ yX1_sortOfThing, Cond.instanceMethod yX1_sortOfThing, Cond.code yX1_sortOfThing cX1_sortOfThing 1 (some .int), Cond.methodLink RX3 65 yX0_isOfNumbers, Cond.instanceMethod yX0_isOfNumbers, Cond.selects RX0 yX0_isOfNumbers yX0_isOfNumbers, Cond.code yX0_isOfNumbers cX0_isOfNumbers 1 (some .boolean), Cond.methodLink RX3 69 yX3_numberFor, Cond.static yX3_numberFor, Cond.code yX3_numberFor cX3_numberFor 2 (some .long), Cond.methodLink RL 31 yX4_put, Cond.instanceMethod yX4_put, Cond.selects RX4 yX4_put yX4_put]
def wsL_law_r7 : List Cond := [Cond.code yX4_put cX4_put 7 (some .int), Cond.constantLong RX4 82 (-1), Cond.methodLink RX4 53 yX4_isRow, Cond.instanceMethod yX4_isRow, Cond.selects RX4 yX4_isRow yX4_isRow, Cond.code yX4_isRow cX4_isRow 2 (some .boolean), Cond.methodLink RX4 74 yX4_lacks, Cond.instanceMethod yX4_lacks, Cond.selects RX4 yX4_lacks yX4_lacks, Cond.code yX4_lacks cX4_lacks 2 (some .int), Cond.methodLink RX4 57 yX4_isNumbers, Cond.static yX4_isNumbers, Cond.code yX4_isNumbers cX4_isNumbers 1 (some .boolean), Cond.methodLink RX4 78 yX4_narrowed, Cond.static yX4_narrowed, Cond.code yX4_narrowed cX4_narrowed 2 (some .long), Cond.constant RX4 69 (65535), Cond.constant RX4 70 (65536), Cond.methodLink RX4 84 yX4_made, Cond.instanceMethod yX4_made, Cond.selects RX4 yX4_made yX4_made, Cond.code yX4_made cX4_made 3 (some .long), Cond.fieldLink RX4 71 "BeadBenchModel" "pieces" "I", Cond.methodLink RX4 88 yX4_sizeOf]
def wsL_law_r8 : List Cond := [Cond.instanceMethod yX4_sizeOf, Cond.selects RX4 yX4_sizeOf yX4_sizeOf, Cond.code yX4_sizeOf cX4_sizeOf 2 (some .int), Cond.methodLink RX4 91 yX4_goes, Cond.instanceMethod yX4_goes, Cond.selects RX4 yX4_goes yX4_goes, Cond.code yX4_goes cX4_goes 5 (some .boolean), Cond.methodLink RX4 95 yX4_set, Cond.instanceMethod yX4_set, Cond.selects RX4 yX4_set yX4_set, Cond.code yX4_set cX4_set 5 none, Cond.methodLink RL 32 yX3_move, Cond.instanceMethod yX3_move, Cond.selects RX3 yX3_move yX3_move, Cond.code yX3_move cX3_move 6 (some .int), Cond.methodLink RX3 77 yX3_keep, Cond.instanceMethod yX3_keep, Cond.selects RX3 yX3_keep yX3_keep, Cond.code yX3_keep cX3_keep 3 none, Cond.methodLink RX3 102 yX0_copyPlace, Cond.instanceMethod yX0_copyPlace, Cond.selects RX0 yX0_copyPlace yX0_copyPlace, Cond.code yX0_copyPlace cX0_copyPlace 4 none, Cond.methodLink RX3 81 yX3_carry]
def wsL_law_r9 : List Cond := [Cond.instanceMethod yX3_carry, Cond.selects RX3 yX3_carry yX3_carry, Cond.code yX3_carry cX3_carry 8 (some .int), Cond.methodLink RX3 106 yX3_refusalOfPair, Cond.static yX3_refusalOfPair, Cond.code yX3_refusalOfPair cX3_refusalOfPair 3 (some .int), Cond.methodLink RX3 139 yX0_hasPlaces, Cond.instanceMethod yX0_hasPlaces, Cond.selects RX0 yX0_hasPlaces yX0_hasPlaces, Cond.code yX0_hasPlaces cX0_hasPlaces 3 (some .boolean), Cond.methodLink RX3 85 yX3_counted, Cond.instanceMethod yX3_counted, Cond.selects RX3 yX3_counted yX3_counted, Cond.code yX3_counted cX3_counted 2 (some .int), Cond.methodLink RL 36 yX4_move, Cond.instanceMethod yX4_move, Cond.selects RX4 yX4_move yX4_move, Cond.code yX4_move cX4_move 6 (some .int), Cond.methodLink RX4 109 yX4_keep, Cond.instanceMethod yX4_keep, Cond.selects RX4 yX4_keep yX4_keep, Cond.code yX4_keep cX4_keep 3 none, Cond.methodLink RX4 99 yX4_get, Cond.instanceMethod yX4_get]
def wsL_law_r10 : List Cond := [Cond.selects RX4 yX4_get yX4_get, Cond.code yX4_get cX4_get 3 (some .long), Cond.methodLink RX4 113 yX4_moved, Cond.instanceMethod yX4_moved, Cond.selects RX4 yX4_moved yX4_moved, Cond.code yX4_moved cX4_moved 8 (some .int), Cond.fieldLink RX4 102 "BeadBenchModel" "filled" "I", Cond.methodLink RX4 105 yX4_unlike, Cond.instanceMethod yX4_unlike, Cond.selects RX4 yX4_unlike yX4_unlike, Cond.code yX4_unlike cX4_unlike 3 (some .int), Cond.methodLink RX4 117 yX4_told0, Cond.instanceMethod yX4_told0, Cond.selects RX4 yX4_told0 yX4_told0, Cond.code yX4_told0 cX4_told0 2 (some .int), Cond.methodLink RL 37 yX3_open, Cond.instanceMethod yX3_open, Cond.selects RX3 yX3_open yX3_open, Cond.code yX3_open cX3_open 4 (some .int), Cond.methodLink RX3 92 yX3_move, Cond.methodLink RL 40 yX4_open, Cond.instanceMethod yX4_open, Cond.selects RX4 yX4_open yX4_open, Cond.code yX4_open cX4_open 4 (some .int)]
def wsL_law_r11 : List Cond := [Cond.methodLink RL 41 yX3_close, Cond.instanceMethod yX3_close, Cond.selects RX3 yX3_close yX3_close, Cond.code yX3_close cX3_close 4 (some .int), Cond.methodLink RL 44 yX4_close, Cond.instanceMethod yX4_close, Cond.selects RX4 yX4_close yX4_close, Cond.code yX4_close cX4_close 4 (some .int), Cond.methodLink RL 45 yX3_turn, Cond.instanceMethod yX3_turn, Cond.selects RX3 yX3_turn yX3_turn, Cond.code yX3_turn cX3_turn 8 (some .int), Cond.methodLink RL 48 yX4_turn, Cond.instanceMethod yX4_turn, Cond.selects RX4 yX4_turn yX4_turn, Cond.code yX4_turn cX4_turn 7 (some .int), Cond.methodLink RL 49 yX3_spread, Cond.instanceMethod yX3_spread, Cond.selects RX3 yX3_spread yX3_spread, Cond.code yX3_spread cX3_spread 6 (some .int), Cond.methodLink RL 52 yX4_spread, Cond.instanceMethod yX4_spread, Cond.selects RX4 yX4_spread yX4_spread, Cond.code yX4_spread cX4_spread 5 (some .int)]
def wsL_law_r12 : List Cond := [Cond.methodLink RL 53 yX3_undo, Cond.instanceMethod yX3_undo, Cond.selects RX3 yX3_undo yX3_undo, Cond.code yX3_undo cX3_undo 3 (some .int), Cond.methodLink RL 57 yX4_undo, Cond.instanceMethod yX4_undo, Cond.selects RX4 yX4_undo yX4_undo, Cond.code yX4_undo cX4_undo 3 (some .int), Cond.methodLink RL 58 yX3_match, Cond.instanceMethod yX3_match, Cond.selects RX3 yX3_match yX3_match, Cond.code yX3_match cX3_match 11 (some .int), Cond.methodLink RX3 110 Lib.Math.min.name, Cond.static Lib.Math.min.name, Cond.initialized "java/lang/Math", Cond.code Lib.Math.min.name Lib.Math.min.code 2 (some .int), Cond.methodLink RX3 113 yX0_isAlike, Cond.instanceMethod yX0_isAlike, Cond.selects RX0 yX0_isAlike yX0_isAlike, Cond.code yX0_isAlike cX0_isAlike 4 (some .boolean), Cond.methodLink RL 61 yX4_match, Cond.instanceMethod yX4_match, Cond.selects RX4 yX4_match yX4_match, Cond.code yX4_match cX4_match 8 (some .int)]
def wsL_law_r13 : List Cond := [Cond.methodLink RL 62 yX3_polish, Cond.instanceMethod yX3_polish, Cond.selects RX3 yX3_polish yX3_polish, Cond.code yX3_polish cX3_polish 8 (some .int), Cond.classLink RX3 117 "BeadBench$Piece", Cond.methodLink RL 65 yX4_polish, Cond.instanceMethod yX4_polish, Cond.selects RX4 yX4_polish yX4_polish, Cond.code yX4_polish cX4_polish 5 (some .int), Cond.methodLink RL 66 yX3_tray, Cond.instanceMethod yX3_tray, Cond.selects RX3 yX3_tray yX3_tray, Cond.code yX3_tray cX3_tray 4 (some .int), Cond.methodLink RL 69 yX4_tray, Cond.instanceMethod yX4_tray, Cond.selects RX4 yX4_tray yX4_tray, Cond.code yX4_tray cX4_tray 3 (some .int), Cond.methodLink RL 70 yX3_what, Cond.instanceMethod yX3_what, Cond.selects RX3 yX3_what yX3_what, Cond.code yX3_what cX3_what 6 (some .int), Cond.methodLink RX3 128 ⟨"BeadBench$Thing", "sortOfThing", "()I"⟩, Cond.methodLink RL 73 yX4_what, Cond.instanceMethod yX4_what]
def wsL_law_r14 : List Cond := [Cond.selects RX4 yX4_what yX4_what, Cond.code yX4_what cX4_what 5 (some .int), Cond.methodLink RL 74 yX3_at, Cond.instanceMethod yX3_at, Cond.selects RX3 yX3_at yX3_at, Cond.code yX3_at cX3_at 5 (some .long), Cond.methodLink RX3 133 ⟨"BeadBench$Thing", "count", "()I"⟩, Cond.sameMethod "BeadBench$Thing" "BeadBench$Thing" "count" "()I", Cond.selects RX0 ⟨"BeadBench$Thing", "count", "()I"⟩ yX0_count, Cond.instanceMethod yX0_count, Cond.code yX0_count cX0_count 1 (some .int), Cond.selects RX1 ⟨"BeadBench$Thing", "count", "()I"⟩ yX1_count, Cond.instanceMethod yX1_count, Cond.code yX1_count cX1_count 1 (some .int), Cond.methodLink RL 78 yX4_at, Cond.instanceMethod yX4_at, Cond.selects RX4 yX4_at yX4_at, Cond.code yX4_at cX4_at 4 (some .long), Cond.methodLink RX4 120 yX4_what, Cond.methodLink RL 79 yX3_polished, Cond.instanceMethod yX3_polished, Cond.selects RX3 yX3_polished yX3_polished, Cond.code yX3_polished cX3_polished 4 (some .int), Cond.methodLink RX3 136 ⟨"BeadBench$Thing", "shine", "()I"⟩]
def wsL_law_r15 : List Cond := [Cond.sameMethod "BeadBench$Thing" "BeadBench$Thing" "shine" "()I", Cond.selects RX0 ⟨"BeadBench$Thing", "shine", "()I"⟩ yX0_shine, Cond.instanceMethod yX0_shine, Cond.code yX0_shine cX0_shine 3 (some .int), Cond.selects RX1 ⟨"BeadBench$Thing", "shine", "()I"⟩ yX1_shine, Cond.instanceMethod yX1_shine, Cond.code yX1_shine cX1_shine 1 (some .int), Cond.methodLink RL 82 yX4_polished, Cond.instanceMethod yX4_polished, Cond.selects RX4 yX4_polished yX4_polished, Cond.code yX4_polished cX4_polished 9 (some .int), Cond.methodLink RL 83 yX3_told, Cond.instanceMethod yX3_told, Cond.selects RX3 yX3_told yX3_told, Cond.code yX3_told cX3_told 2 (some .int), Cond.methodLink RL 87 yX4_told, Cond.instanceMethod yX4_told, Cond.selects RX4 yX4_told yX4_told, Cond.code yX4_told cX4_told 2 (some .int)]
def wsL_law : List Cond := (wsL_law_r1 ++ (wsL_law_r2 ++ (wsL_law_r3 ++ (wsL_law_r4 ++ (wsL_law_r5 ++ (wsL_law_r6 ++ (wsL_law_r7 ++ (wsL_law_r8 ++ (wsL_law_r9 ++ (wsL_law_r10 ++ (wsL_law_r11 ++ (wsL_law_r12 ++ (wsL_law_r13 ++ (wsL_law_r14 ++ wsL_law_r15)))))))))))))) ++ wsX30 ++ wsX40 ++ wsX00 ++ wsX10 ++ ([] : List Cond)
set_option maxRecDepth 20000 in
-- the pieces
theorem in_wsL_law_r1 : ∀ w ∈ wsL_law_r1, w ∈ lw_tbl := fun w h => (goodIn_p wsL_law_r1 [27, 30] rfl (by decide +kernel) w h).1
set_option maxRecDepth 20000 in
theorem in_wsL_law_r2 : ∀ w ∈ wsL_law_r2, w ∈ lw_tbl := fun w h => (goodIn_p wsL_law_r2 [35, 38, 270] rfl (by decide +kernel) w h).1
set_option maxRecDepth 20000 in
theorem in_wsL_law_r3 : ∀ w ∈ wsL_law_r3, w ∈ lw_tbl := fun w h => (goodIn_p wsL_law_r3 [91, 94, 325, 328] rfl (by decide +kernel) w h).1
set_option maxRecDepth 20000 in
theorem in_wsL_law_r4 : ∀ w ∈ wsL_law_r4, w ∈ lw_tbl := fun w h => (goodIn_p wsL_law_r4 [331, 98, 335, 102, 339, 106] rfl (by decide +kernel) w h).1
set_option maxRecDepth 20000 in
theorem in_wsL_law_r5 : ∀ w ∈ wsL_law_r5, w ∈ lw_tbl := fun w h => (goodIn_p wsL_law_r5 [110, 114, 117, 121, 126] rfl (by decide +kernel) w h).1
set_option maxRecDepth 20000 in
theorem in_wsL_law_r6 : ∀ w ∈ wsL_law_r6, w ∈ lw_tbl := fun w h => (goodIn_p wsL_law_r6 [143, 147, 153, 156, 160, 163] rfl (by decide +kernel) w h).1
set_option maxRecDepth 20000 in
theorem in_wsL_law_r7 : ∀ w ∈ wsL_law_r7, w ∈ lw_tbl := fun w h => (goodIn_p wsL_law_r7 [343, 347, 351, 354, 357, 364] rfl (by decide +kernel) w h).1
set_option maxRecDepth 20000 in
theorem in_wsL_law_r8 : ∀ w ∈ wsL_law_r8, w ∈ lw_tbl := fun w h => (goodIn_p wsL_law_r8 [368, 372, 376, 167, 171, 175] rfl (by decide +kernel) w h).1
set_option maxRecDepth 20000 in
theorem in_wsL_law_r9 : ∀ w ∈ wsL_law_r9, w ∈ lw_tbl := fun w h => (goodIn_p wsL_law_r9 [179, 182, 186, 190, 380, 384] rfl (by decide +kernel) w h).1
set_option maxRecDepth 20000 in
theorem in_wsL_law_r10 : ∀ w ∈ wsL_law_r10, w ∈ lw_tbl := fun w h => (goodIn_p wsL_law_r10 [388, 392, 396, 400, 194, 404] rfl (by decide +kernel) w h).1
set_option maxRecDepth 20000 in
theorem in_wsL_law_r11 : ∀ w ∈ wsL_law_r11, w ∈ lw_tbl := fun w h => (goodIn_p wsL_law_r11 [199, 408, 203, 412, 207, 416] rfl (by decide +kernel) w h).1
set_option maxRecDepth 20000 in
theorem in_wsL_law_r12 : ∀ w ∈ wsL_law_r12, w ∈ lw_tbl := fun w h => (goodIn_p wsL_law_r12 [211, 420, 215, 218, 222, 424] rfl (by decide +kernel) w h).1
set_option maxRecDepth 20000 in
theorem in_wsL_law_r13 : ∀ w ∈ wsL_law_r13, w ∈ lw_tbl := fun w h => (goodIn_p wsL_law_r13 [226, 428, 230, 432, 234] rfl (by decide +kernel) w h).1
set_option maxRecDepth 20000 in
theorem in_wsL_law_r14 : ∀ w ∈ wsL_law_r14, w ∈ lw_tbl := fun w h => (goodIn_p wsL_law_r14 [436, 239, 245, 248, 440, 252] rfl (by decide +kernel) w h).1
set_option maxRecDepth 20000 in
theorem in_wsL_law_r15 : ∀ w ∈ wsL_law_r15, w ∈ lw_tbl := fun w h => (goodIn_p wsL_law_r15 [258, 261, 445, 265, 449] rfl (by decide +kernel) w h).1
set_option maxRecDepth 20000 in
theorem in_wsX00 : ∀ w ∈ wsX00, w ∈ lw_tbl := by decide +kernel
set_option maxRecDepth 20000 in
theorem in_wsX10 : ∀ w ∈ wsX10, w ∈ lw_tbl := by decide +kernel
set_option maxRecDepth 20000 in
theorem in_wsX30 : ∀ w ∈ wsX30, w ∈ lw_tbl := by decide +kernel
set_option maxRecDepth 20000 in
theorem in_wsX40 : ∀ w ∈ wsX40, w ∈ lw_tbl := by decide +kernel
theorem in_app {a b big : List Cond} (ha : ∀ w ∈ a, w ∈ big) (hb : ∀ w ∈ b, w ∈ big) : ∀ w ∈ a ++ b, w ∈ big := fun w h => (List.mem_append.mp h).elim (ha w) (hb w)
theorem wsL_law_in : ∀ w ∈ wsL_law, w ∈ lw_tbl := in_app (in_app (in_app (in_app (in_app (in_app in_wsL_law_r1 (in_app in_wsL_law_r2 (in_app in_wsL_law_r3 (in_app in_wsL_law_r4 (in_app in_wsL_law_r5 (in_app in_wsL_law_r6 (in_app in_wsL_law_r7 (in_app in_wsL_law_r8 (in_app in_wsL_law_r9 (in_app in_wsL_law_r10 (in_app in_wsL_law_r11 (in_app in_wsL_law_r12 (in_app in_wsL_law_r13 (in_app in_wsL_law_r14 (in_wsL_law_r15))))))))))))))) in_wsX30) in_wsX40) in_wsX00) in_wsX10) (fun _ h => absurd h List.not_mem_nil)
theorem inlX0 : ∀ w ∈ wsX00, w ∈ wsL_law := fun _ h => List.mem_append_left _ (List.mem_append_left _ (List.mem_append_right _ h))
theorem inX0 : ∀ w ∈ wsX00, w ∈ lw_tbl := fun w h => wsL_law_in w (inlX0 w h)
theorem inlX1 : ∀ w ∈ wsX10, w ∈ wsL_law := fun _ h => List.mem_append_left _ (List.mem_append_right _ h)
theorem inX1 : ∀ w ∈ wsX10, w ∈ lw_tbl := fun w h => wsL_law_in w (inlX1 w h)
theorem inX2 : ∀ w ∈ wsX20, w ∈ lw_tbl := by decide +kernel
theorem inlX3 : ∀ w ∈ wsX30, w ∈ wsL_law := fun _ h => List.mem_append_left _ (List.mem_append_left _ (List.mem_append_left _ (List.mem_append_left _ (List.mem_append_right _ h))))
theorem inX3 : ∀ w ∈ wsX30, w ∈ lw_tbl := fun w h => wsL_law_in w (inlX3 w h)
theorem inlX4 : ∀ w ∈ wsX40, w ∈ wsL_law := fun _ h => List.mem_append_left _ (List.mem_append_left _ (List.mem_append_left _ (List.mem_append_right _ h)))
theorem inX4 : ∀ w ∈ wsX40, w ∈ lw_tbl := fun w h => wsL_law_in w (inlX4 w h)
theorem inJ9 : ∀ w ∈ wsJ90, w ∈ lw_tbl := by decide +kernel
abbrev vwCl : List vw_C := [(RX0, TX0, 5), (RX1, TX1, 3), (RX3, TX3, 7), (RX4, TX4, 16)]
end
section
set_option maxRecDepth 20000 in
theorem ggX0_init_X2_init : GoodIn wsX0_init wsX2_init := goodIn_r _ [10, 11, 12, 13] (by decide +kernel) (by decide +kernel)
set_option maxRecDepth 20000 in
theorem gX0_init_X2_init_n3 : GoodIn wsX0_init (wsX2_init) := ggX0_init_X2_init
theorem dX0_init_0 : decode cX0_init 0 = .ok (.aload_n 0, 1) := by decide +kernel
theorem dX0_init_1 : decode cX0_init 1 = .ok (.invokespecial 3, 3) := by decide +kernel
theorem dX0_init_4 : decode cX0_init 4 = .ok (.aload_n 0, 1) := by decide +kernel
theorem dX0_init_5 : decode cX0_init 5 = .ok (.iload_n 1, 1) := by decide +kernel
theorem dX0_init_6 : decode cX0_init 6 = .ok (.putfield 9, 3) := by decide +kernel
theorem dX0_init_9 : decode cX0_init 9 = .ok (.aload_n 0, 1) := by decide +kernel
theorem dX0_init_10 : decode cX0_init 10 = .ok (.iload_n 2, 1) := by decide +kernel
theorem dX0_init_11 : decode cX0_init 11 = .ok (.putfield 15, 3) := by decide +kernel
theorem dX0_init_14 : decode cX0_init 14 = .ok (.aload_n 0, 1) := by decide +kernel
theorem dX0_init_15 : decode cX0_init 15 = .ok (.iload_n 3, 1) := by decide +kernel
theorem dX0_init_16 : decode cX0_init 16 = .ok (.putfield 18, 3) := by decide +kernel
theorem dX0_init_19 : decode cX0_init 19 = .ok (.aload_n 0, 1) := by decide +kernel
theorem dX0_init_20 : decode cX0_init 20 = .ok (.iload_n 2, 1) := by decide +kernel
theorem dX0_init_21 : decode cX0_init 21 = .ok (.newarray .long, 2) := by decide +kernel
theorem dX0_init_23 : decode cX0_init 23 = .ok (.putfield 21, 3) := by decide +kernel
theorem dX0_init_26 : decode cX0_init 26 = .ok (.aload_n 0, 1) := by decide +kernel
theorem dX0_init_27 : decode cX0_init 27 = .ok (.iload_n 2, 1) := by decide +kernel
theorem dX0_init_28 : decode cX0_init 28 = .ok (.anewarray 4, 3) := by decide +kernel
theorem dX0_init_31 : decode cX0_init 31 = .ok (.putfield 25, 3) := by decide +kernel
theorem dX0_init_34 : decode cX0_init 34 = .ok (.return_, 1) := by decide +kernel
theorem dX0_sortOfThing_0 : decode cX0_sortOfThing 0 = .ok (.bipush 6, 2) := by decide +kernel
theorem dX0_sortOfThing_2 : decode cX0_sortOfThing 2 = .ok (.ireturn, 1) := by decide +kernel
theorem dX0_count_0 : decode cX0_count 0 = .ok (.aload_n 0, 1) := by decide +kernel
theorem dX0_count_1 : decode cX0_count 1 = .ok (.getfield 15, 3) := by decide +kernel
theorem dX0_count_4 : decode cX0_count 4 = .ok (.ireturn, 1) := by decide +kernel
theorem dX0_shine_0 : decode cX0_shine 0 = .ok (.iconst 0, 1) := by decide +kernel
theorem dX0_shine_1 : decode cX0_shine 1 = .ok (.istore_n 1, 1) := by decide +kernel
theorem dX0_shine_2 : decode cX0_shine 2 = .ok (.iconst 0, 1) := by decide +kernel
theorem dX0_shine_3 : decode cX0_shine 3 = .ok (.istore_n 2, 1) := by decide +kernel
theorem dX0_shine_4 : decode cX0_shine 4 = .ok (.iload_n 2, 1) := by decide +kernel
theorem dX0_shine_5 : decode cX0_shine 5 = .ok (.aload_n 0, 1) := by decide +kernel
theorem dX0_shine_6 : decode cX0_shine 6 = .ok (.getfield 15, 3) := by decide +kernel
theorem dX0_shine_9 : decode cX0_shine 9 = .ok (.if_icmp .ge 19, 3) := by decide +kernel
theorem dX0_shine_12 : decode cX0_shine 12 = .ok (.iload_n 1, 1) := by decide +kernel
theorem dX0_shine_13 : decode cX0_shine 13 = .ok (.aload_n 0, 1) := by decide +kernel
theorem dX0_shine_14 : decode cX0_shine 14 = .ok (.getfield 21, 3) := by decide +kernel
theorem dX0_shine_17 : decode cX0_shine 17 = .ok (.iload_n 2, 1) := by decide +kernel
theorem dX0_shine_18 : decode cX0_shine 18 = .ok (.laload, 1) := by decide +kernel
theorem dX0_shine_19 : decode cX0_shine 19 = .ok (.l2i, 1) := by decide +kernel
theorem dX0_shine_20 : decode cX0_shine 20 = .ok (.iadd, 1) := by decide +kernel
theorem dX0_shine_21 : decode cX0_shine 21 = .ok (.istore_n 1, 1) := by decide +kernel
theorem dX0_shine_22 : decode cX0_shine 22 = .ok (.iinc 2 1, 3) := by decide +kernel
theorem dX0_shine_25 : decode cX0_shine 25 = .ok (.goto (-21), 3) := by decide +kernel
theorem dX0_shine_28 : decode cX0_shine 28 = .ok (.iload_n 1, 1) := by decide +kernel
theorem dX0_shine_29 : decode cX0_shine 29 = .ok (.ireturn, 1) := by decide +kernel
theorem dX0_refusal_0 : decode cX0_refusal 0 = .ok (.aload_n 0, 1) := by decide +kernel
theorem dX0_refusal_1 : decode cX0_refusal 1 = .ok (.getfield 9, 3) := by decide +kernel
theorem dX0_refusal_4 : decode cX0_refusal 4 = .ok (.ifCond .ne 5, 3) := by decide +kernel
theorem dX0_refusal_7 : decode cX0_refusal 7 = .ok (.iconst (-1), 1) := by decide +kernel
theorem dX0_refusal_8 : decode cX0_refusal 8 = .ok (.ireturn, 1) := by decide +kernel
theorem dX0_refusal_9 : decode cX0_refusal 9 = .ok (.aload_n 0, 1) := by decide +kernel
theorem dX0_refusal_10 : decode cX0_refusal 10 = .ok (.getfield 9, 3) := by decide +kernel
theorem dX0_refusal_13 : decode cX0_refusal 13 = .ok (.iconst 1, 1) := by decide +kernel
theorem dX0_refusal_14 : decode cX0_refusal 14 = .ok (.if_icmp .ne 8, 3) := by decide +kernel
theorem dX0_refusal_17 : decode cX0_refusal 17 = .ok (.bipush (-2), 2) := by decide +kernel
theorem dX0_refusal_19 : decode cX0_refusal 19 = .ok (.goto 4, 3) := by decide +kernel
theorem dX0_refusal_22 : decode cX0_refusal 22 = .ok (.iconst 0, 1) := by decide +kernel
theorem dX0_refusal_23 : decode cX0_refusal 23 = .ok (.ireturn, 1) := by decide +kernel
theorem dX0_isOfNumbers_0 : decode cX0_isOfNumbers 0 = .ok (.aload_n 0, 1) := by decide +kernel
theorem dX0_isOfNumbers_1 : decode cX0_isOfNumbers 1 = .ok (.getfield 9, 3) := by decide +kernel
theorem dX0_isOfNumbers_4 : decode cX0_isOfNumbers 4 = .ok (.iconst 2, 1) := by decide +kernel
theorem dX0_isOfNumbers_5 : decode cX0_isOfNumbers 5 = .ok (.if_icmp .lt 16, 3) := by decide +kernel
theorem dX0_isOfNumbers_8 : decode cX0_isOfNumbers 8 = .ok (.aload_n 0, 1) := by decide +kernel
theorem dX0_isOfNumbers_9 : decode cX0_isOfNumbers 9 = .ok (.getfield 9, 3) := by decide +kernel
theorem dX0_isOfNumbers_12 : decode cX0_isOfNumbers 12 = .ok (.bipush 9, 2) := by decide +kernel
theorem dX0_isOfNumbers_14 : decode cX0_isOfNumbers 14 = .ok (.if_icmp .gt 7, 3) := by decide +kernel
theorem dX0_isOfNumbers_17 : decode cX0_isOfNumbers 17 = .ok (.iconst 1, 1) := by decide +kernel
theorem dX0_isOfNumbers_18 : decode cX0_isOfNumbers 18 = .ok (.goto 4, 3) := by decide +kernel
theorem dX0_isOfNumbers_21 : decode cX0_isOfNumbers 21 = .ok (.iconst 0, 1) := by decide +kernel
theorem dX0_isOfNumbers_22 : decode cX0_isOfNumbers 22 = .ok (.ireturn, 1) := by decide +kernel
theorem dX0_hasPlace_0 : decode cX0_hasPlace 0 = .ok (.iload_n 1, 1) := by decide +kernel
theorem dX0_hasPlace_1 : decode cX0_hasPlace 1 = .ok (.ifCond .lt 15, 3) := by decide +kernel
theorem dX0_hasPlace_4 : decode cX0_hasPlace 4 = .ok (.iload_n 1, 1) := by decide +kernel
theorem dX0_hasPlace_5 : decode cX0_hasPlace 5 = .ok (.aload_n 0, 1) := by decide +kernel
theorem dX0_hasPlace_6 : decode cX0_hasPlace 6 = .ok (.getfield 15, 3) := by decide +kernel
theorem dX0_hasPlace_9 : decode cX0_hasPlace 9 = .ok (.if_icmp .ge 7, 3) := by decide +kernel
theorem dX0_hasPlace_12 : decode cX0_hasPlace 12 = .ok (.iconst 1, 1) := by decide +kernel
theorem dX0_hasPlace_13 : decode cX0_hasPlace 13 = .ok (.goto 4, 3) := by decide +kernel
theorem dX0_hasPlace_16 : decode cX0_hasPlace 16 = .ok (.iconst 0, 1) := by decide +kernel
theorem dX0_hasPlace_17 : decode cX0_hasPlace 17 = .ok (.ireturn, 1) := by decide +kernel
theorem dX0_hasPlaces_0 : decode cX0_hasPlaces 0 = .ok (.iload_n 1, 1) := by decide +kernel
theorem dX0_hasPlaces_1 : decode cX0_hasPlaces 1 = .ok (.ifCond .lt 25, 3) := by decide +kernel
theorem dX0_hasPlaces_4 : decode cX0_hasPlaces 4 = .ok (.iload_n 2, 1) := by decide +kernel
theorem dX0_hasPlaces_5 : decode cX0_hasPlaces 5 = .ok (.ifCond .lt 21, 3) := by decide +kernel
theorem dX0_hasPlaces_8 : decode cX0_hasPlaces 8 = .ok (.iload_n 1, 1) := by decide +kernel
theorem dX0_hasPlaces_9 : decode cX0_hasPlaces 9 = .ok (.i2l, 1) := by decide +kernel
theorem dX0_hasPlaces_10 : decode cX0_hasPlaces 10 = .ok (.iload_n 2, 1) := by decide +kernel
theorem dX0_hasPlaces_11 : decode cX0_hasPlaces 11 = .ok (.i2l, 1) := by decide +kernel
theorem dX0_hasPlaces_12 : decode cX0_hasPlaces 12 = .ok (.ladd, 1) := by decide +kernel
theorem dX0_hasPlaces_13 : decode cX0_hasPlaces 13 = .ok (.aload_n 0, 1) := by decide +kernel
theorem dX0_hasPlaces_14 : decode cX0_hasPlaces 14 = .ok (.getfield 15, 3) := by decide +kernel
theorem dX0_hasPlaces_17 : decode cX0_hasPlaces 17 = .ok (.i2l, 1) := by decide +kernel
theorem dX0_hasPlaces_18 : decode cX0_hasPlaces 18 = .ok (.lcmp, 1) := by decide +kernel
theorem dX0_hasPlaces_19 : decode cX0_hasPlaces 19 = .ok (.ifCond .gt 7, 3) := by decide +kernel
theorem dX0_hasPlaces_22 : decode cX0_hasPlaces 22 = .ok (.iconst 1, 1) := by decide +kernel
theorem dX0_hasPlaces_23 : decode cX0_hasPlaces 23 = .ok (.goto 4, 3) := by decide +kernel
theorem dX0_hasPlaces_26 : decode cX0_hasPlaces 26 = .ok (.iconst 0, 1) := by decide +kernel
theorem dX0_hasPlaces_27 : decode cX0_hasPlaces 27 = .ok (.ireturn, 1) := by decide +kernel
set_option maxRecDepth 20000 in
theorem ggX0_accepts_X0_sortOfThing : GoodIn wsX0_accepts wsX0_sortOfThing := goodIn_r _ [7] (by decide +kernel) (by decide +kernel)
set_option maxRecDepth 20000 in
theorem gX0_accepts_X0_sortOfThing_u29X0 : GoodIn wsX0_accepts (va_wsU RX0 29 RX0 "BeadBench$Thing" ⟨"BeadBench$Thing", "sortOfThing", "()I"⟩ yX0_sortOfThing wsX0_sortOfThing) := goodIn_app (goodIn_of _ (by decide +kernel)) ggX0_accepts_X0_sortOfThing
set_option maxRecDepth 20000 in
theorem ggX0_accepts_X1_sortOfThing : GoodIn wsX0_accepts wsX1_sortOfThing := goodIn_r _ [11, 12, 18, 19, 20] (by decide +kernel) (by decide +kernel)
set_option maxRecDepth 20000 in
theorem gX0_accepts_X1_sortOfThing_u29X1 : GoodIn wsX0_accepts (va_wsU RX0 29 RX1 "BeadBench$Thing" ⟨"BeadBench$Thing", "sortOfThing", "()I"⟩ yX1_sortOfThing wsX1_sortOfThing) := goodIn_app (goodIn_of _ (by decide +kernel)) ggX0_accepts_X1_sortOfThing
theorem dX0_accepts_0 : decode cX0_accepts 0 = .ok (.aload_n 1, 1) := by decide +kernel
theorem dX0_accepts_1 : decode cX0_accepts 1 = .ok (.ifnonnull 5, 3) := by decide +kernel
theorem dX0_accepts_4 : decode cX0_accepts 4 = .ok (.iconst 1, 1) := by decide +kernel
theorem dX0_accepts_5 : decode cX0_accepts 5 = .ok (.ireturn, 1) := by decide +kernel
theorem dX0_accepts_6 : decode cX0_accepts 6 = .ok (.aload_n 1, 1) := by decide +kernel
theorem dX0_accepts_7 : decode cX0_accepts 7 = .ok (.invokevirtual 29, 3) := by decide +kernel
theorem dX0_accepts_10 : decode cX0_accepts 10 = .ok (.istore_n 2, 1) := by decide +kernel
theorem dX0_accepts_11 : decode cX0_accepts 11 = .ok (.aload_n 0, 1) := by decide +kernel
theorem dX0_accepts_12 : decode cX0_accepts 12 = .ok (.getfield 9, 3) := by decide +kernel
theorem dX0_accepts_15 : decode cX0_accepts 15 = .ok (.tableswitch 80 10 13 #[29, 41, 52, 68], 29) := by decide +kernel
theorem dX0_accepts_44 : decode cX0_accepts 44 = .ok (.iload_n 2, 1) := by decide +kernel
theorem dX0_accepts_45 : decode cX0_accepts 45 = .ok (.bipush 6, 2) := by decide +kernel
theorem dX0_accepts_47 : decode cX0_accepts 47 = .ok (.if_icmp .eq 7, 3) := by decide +kernel
theorem dX0_accepts_50 : decode cX0_accepts 50 = .ok (.iconst 1, 1) := by decide +kernel
theorem dX0_accepts_51 : decode cX0_accepts 51 = .ok (.goto 4, 3) := by decide +kernel
theorem dX0_accepts_54 : decode cX0_accepts 54 = .ok (.iconst 0, 1) := by decide +kernel
theorem dX0_accepts_55 : decode cX0_accepts 55 = .ok (.ireturn, 1) := by decide +kernel
theorem dX0_accepts_56 : decode cX0_accepts 56 = .ok (.iload_n 2, 1) := by decide +kernel
theorem dX0_accepts_57 : decode cX0_accepts 57 = .ok (.iconst 3, 1) := by decide +kernel
theorem dX0_accepts_58 : decode cX0_accepts 58 = .ok (.if_icmp .ne 7, 3) := by decide +kernel
theorem dX0_accepts_61 : decode cX0_accepts 61 = .ok (.iconst 1, 1) := by decide +kernel
theorem dX0_accepts_62 : decode cX0_accepts 62 = .ok (.goto 4, 3) := by decide +kernel
theorem dX0_accepts_65 : decode cX0_accepts 65 = .ok (.iconst 0, 1) := by decide +kernel
theorem dX0_accepts_66 : decode cX0_accepts 66 = .ok (.ireturn, 1) := by decide +kernel
theorem dX0_accepts_67 : decode cX0_accepts 67 = .ok (.iload_n 2, 1) := by decide +kernel
theorem dX0_accepts_68 : decode cX0_accepts 68 = .ok (.iconst 4, 1) := by decide +kernel
theorem dX0_accepts_69 : decode cX0_accepts 69 = .ok (.if_icmp .eq 8, 3) := by decide +kernel
theorem dX0_accepts_72 : decode cX0_accepts 72 = .ok (.iload_n 2, 1) := by decide +kernel
theorem dX0_accepts_73 : decode cX0_accepts 73 = .ok (.iconst 5, 1) := by decide +kernel
theorem dX0_accepts_74 : decode cX0_accepts 74 = .ok (.if_icmp .ne 7, 3) := by decide +kernel
theorem dX0_accepts_77 : decode cX0_accepts 77 = .ok (.iconst 1, 1) := by decide +kernel
theorem dX0_accepts_78 : decode cX0_accepts 78 = .ok (.goto 4, 3) := by decide +kernel
theorem dX0_accepts_81 : decode cX0_accepts 81 = .ok (.iconst 0, 1) := by decide +kernel
theorem dX0_accepts_82 : decode cX0_accepts 82 = .ok (.ireturn, 1) := by decide +kernel
theorem dX0_accepts_83 : decode cX0_accepts 83 = .ok (.iload_n 2, 1) := by decide +kernel
theorem dX0_accepts_84 : decode cX0_accepts 84 = .ok (.bipush 6, 2) := by decide +kernel
theorem dX0_accepts_86 : decode cX0_accepts 86 = .ok (.if_icmp .ne 7, 3) := by decide +kernel
theorem dX0_accepts_89 : decode cX0_accepts 89 = .ok (.iconst 1, 1) := by decide +kernel
theorem dX0_accepts_90 : decode cX0_accepts 90 = .ok (.goto 4, 3) := by decide +kernel
theorem dX0_accepts_93 : decode cX0_accepts 93 = .ok (.iconst 0, 1) := by decide +kernel
theorem dX0_accepts_94 : decode cX0_accepts 94 = .ok (.ireturn, 1) := by decide +kernel
theorem dX0_accepts_95 : decode cX0_accepts 95 = .ok (.iconst 0, 1) := by decide +kernel
theorem dX0_accepts_96 : decode cX0_accepts 96 = .ok (.ireturn, 1) := by decide +kernel
theorem dX0_copyPlace_0 : decode cX0_copyPlace 0 = .ok (.aload_n 0, 1) := by decide +kernel
theorem dX0_copyPlace_1 : decode cX0_copyPlace 1 = .ok (.getfield 21, 3) := by decide +kernel
theorem dX0_copyPlace_4 : decode cX0_copyPlace 4 = .ok (.iload_n 1, 1) := by decide +kernel
theorem dX0_copyPlace_5 : decode cX0_copyPlace 5 = .ok (.aload_n 2, 1) := by decide +kernel
theorem dX0_copyPlace_6 : decode cX0_copyPlace 6 = .ok (.getfield 21, 3) := by decide +kernel
theorem dX0_copyPlace_9 : decode cX0_copyPlace 9 = .ok (.iload_n 3, 1) := by decide +kernel
theorem dX0_copyPlace_10 : decode cX0_copyPlace 10 = .ok (.laload, 1) := by decide +kernel
theorem dX0_copyPlace_11 : decode cX0_copyPlace 11 = .ok (.lastore, 1) := by decide +kernel
theorem dX0_copyPlace_12 : decode cX0_copyPlace 12 = .ok (.aload_n 0, 1) := by decide +kernel
theorem dX0_copyPlace_13 : decode cX0_copyPlace 13 = .ok (.getfield 25, 3) := by decide +kernel
theorem dX0_copyPlace_16 : decode cX0_copyPlace 16 = .ok (.iload_n 1, 1) := by decide +kernel
theorem dX0_copyPlace_17 : decode cX0_copyPlace 17 = .ok (.aload_n 2, 1) := by decide +kernel
theorem dX0_copyPlace_18 : decode cX0_copyPlace 18 = .ok (.getfield 25, 3) := by decide +kernel
theorem dX0_copyPlace_21 : decode cX0_copyPlace 21 = .ok (.iload_n 3, 1) := by decide +kernel
theorem dX0_copyPlace_22 : decode cX0_copyPlace 22 = .ok (.aaload, 1) := by decide +kernel
theorem dX0_copyPlace_23 : decode cX0_copyPlace 23 = .ok (.aastore, 1) := by decide +kernel
theorem dX0_copyPlace_24 : decode cX0_copyPlace 24 = .ok (.return_, 1) := by decide +kernel
theorem dX0_isAlike_0 : decode cX0_isAlike 0 = .ok (.aload_n 0, 1) := by decide +kernel
theorem dX0_isAlike_1 : decode cX0_isAlike 1 = .ok (.getfield 21, 3) := by decide +kernel
theorem dX0_isAlike_4 : decode cX0_isAlike 4 = .ok (.iload_n 1, 1) := by decide +kernel
theorem dX0_isAlike_5 : decode cX0_isAlike 5 = .ok (.laload, 1) := by decide +kernel
theorem dX0_isAlike_6 : decode cX0_isAlike 6 = .ok (.aload_n 2, 1) := by decide +kernel
theorem dX0_isAlike_7 : decode cX0_isAlike 7 = .ok (.getfield 21, 3) := by decide +kernel
theorem dX0_isAlike_10 : decode cX0_isAlike 10 = .ok (.iload_n 3, 1) := by decide +kernel
theorem dX0_isAlike_11 : decode cX0_isAlike 11 = .ok (.laload, 1) := by decide +kernel
theorem dX0_isAlike_12 : decode cX0_isAlike 12 = .ok (.lcmp, 1) := by decide +kernel
theorem dX0_isAlike_13 : decode cX0_isAlike 13 = .ok (.ifCond .ne 22, 3) := by decide +kernel
theorem dX0_isAlike_16 : decode cX0_isAlike 16 = .ok (.aload_n 0, 1) := by decide +kernel
theorem dX0_isAlike_17 : decode cX0_isAlike 17 = .ok (.getfield 25, 3) := by decide +kernel
theorem dX0_isAlike_20 : decode cX0_isAlike 20 = .ok (.iload_n 1, 1) := by decide +kernel
theorem dX0_isAlike_21 : decode cX0_isAlike 21 = .ok (.aaload, 1) := by decide +kernel
theorem dX0_isAlike_22 : decode cX0_isAlike 22 = .ok (.aload_n 2, 1) := by decide +kernel
theorem dX0_isAlike_23 : decode cX0_isAlike 23 = .ok (.getfield 25, 3) := by decide +kernel
theorem dX0_isAlike_26 : decode cX0_isAlike 26 = .ok (.iload_n 3, 1) := by decide +kernel
theorem dX0_isAlike_27 : decode cX0_isAlike 27 = .ok (.aaload, 1) := by decide +kernel
theorem dX0_isAlike_28 : decode cX0_isAlike 28 = .ok (.if_acmp .ne 7, 3) := by decide +kernel
theorem dX0_isAlike_31 : decode cX0_isAlike 31 = .ok (.iconst 1, 1) := by decide +kernel
theorem dX0_isAlike_32 : decode cX0_isAlike 32 = .ok (.goto 4, 3) := by decide +kernel
theorem dX0_isAlike_35 : decode cX0_isAlike 35 = .ok (.iconst 0, 1) := by decide +kernel
theorem dX0_isAlike_36 : decode cX0_isAlike 36 = .ok (.ireturn, 1) := by decide +kernel
set_option maxRecDepth 20000 in
theorem ggX1_init_X2_init : GoodIn wsX1_init wsX2_init := goodIn_r _ [6, 7, 8, 9] (by decide +kernel) (by decide +kernel)
set_option maxRecDepth 20000 in
theorem gX1_init_X2_init_n1 : GoodIn wsX1_init (wsX2_init) := ggX1_init_X2_init
theorem dX1_init_0 : decode cX1_init 0 = .ok (.aload_n 0, 1) := by decide +kernel
theorem dX1_init_1 : decode cX1_init 1 = .ok (.invokespecial 1, 3) := by decide +kernel
theorem dX1_init_4 : decode cX1_init 4 = .ok (.aload_n 0, 1) := by decide +kernel
theorem dX1_init_5 : decode cX1_init 5 = .ok (.iload_n 1, 1) := by decide +kernel
theorem dX1_init_6 : decode cX1_init 6 = .ok (.putfield 7, 3) := by decide +kernel
theorem dX1_init_9 : decode cX1_init 9 = .ok (.aload_n 0, 1) := by decide +kernel
theorem dX1_init_10 : decode cX1_init 10 = .ok (.iload_n 2, 1) := by decide +kernel
theorem dX1_init_11 : decode cX1_init 11 = .ok (.putfield 13, 3) := by decide +kernel
theorem dX1_init_14 : decode cX1_init 14 = .ok (.aload_n 0, 1) := by decide +kernel
theorem dX1_init_15 : decode cX1_init 15 = .ok (.iconst 0, 1) := by decide +kernel
theorem dX1_init_16 : decode cX1_init 16 = .ok (.putfield 16, 3) := by decide +kernel
theorem dX1_init_19 : decode cX1_init 19 = .ok (.return_, 1) := by decide +kernel
theorem dX1_sortOfThing_0 : decode cX1_sortOfThing 0 = .ok (.aload_n 0, 1) := by decide +kernel
theorem dX1_sortOfThing_1 : decode cX1_sortOfThing 1 = .ok (.getfield 7, 3) := by decide +kernel
theorem dX1_sortOfThing_4 : decode cX1_sortOfThing 4 = .ok (.ireturn, 1) := by decide +kernel
theorem dX1_count_0 : decode cX1_count 0 = .ok (.aload_n 0, 1) := by decide +kernel
theorem dX1_count_1 : decode cX1_count 1 = .ok (.getfield 13, 3) := by decide +kernel
theorem dX1_count_4 : decode cX1_count 4 = .ok (.ireturn, 1) := by decide +kernel
theorem dX1_shine_0 : decode cX1_shine 0 = .ok (.aload_n 0, 1) := by decide +kernel
theorem dX1_shine_1 : decode cX1_shine 1 = .ok (.getfield 16, 3) := by decide +kernel
theorem dX1_shine_4 : decode cX1_shine 4 = .ok (.ireturn, 1) := by decide +kernel
theorem dX2_init_0 : decode cX2_init 0 = .ok (.aload_n 0, 1) := by decide +kernel
theorem dX2_init_1 : decode cX2_init 1 = .ok (.invokespecial 1, 3) := by decide +kernel
theorem dX2_init_4 : decode cX2_init 4 = .ok (.return_, 1) := by decide +kernel
set_option maxRecDepth 20000 in
theorem ggX3_init_X0_init : GoodIn wsX3_init wsX0_init := goodIn_r _ [17, 18, 19, 20, 21, 22, 23, 24, 25, 26, 27, 28, 2, 3, 29, 30, 31, 32, 33] (by decide +kernel) (by decide +kernel)
set_option maxRecDepth 20000 in
theorem gX3_init_X0_init : GoodIn wsX3_init (wsX0_init) := ggX3_init_X0_init
theorem dX3_init_0 : decode cX3_init 0 = .ok (.aload_n 0, 1) := by decide +kernel
theorem dX3_init_1 : decode cX3_init 1 = .ok (.invokespecial 1, 3) := by decide +kernel
theorem dX3_init_4 : decode cX3_init 4 = .ok (.aload_n 0, 1) := by decide +kernel
theorem dX3_init_5 : decode cX3_init 5 = .ok (.new 7, 3) := by decide +kernel
theorem dX3_init_8 : decode cX3_init 8 = .ok (.dup, 1) := by decide +kernel
theorem dX3_init_9 : decode cX3_init 9 = .ok (.iconst 0, 1) := by decide +kernel
theorem dX3_init_10 : decode cX3_init 10 = .ok (.iconst 0, 1) := by decide +kernel
theorem dX3_init_11 : decode cX3_init 11 = .ok (.iconst 0, 1) := by decide +kernel
theorem dX3_init_12 : decode cX3_init 12 = .ok (.invokespecial 11, 3) := by decide +kernel
theorem dX3_init_15 : decode cX3_init 15 = .ok (.putfield 14, 3) := by decide +kernel
theorem dX3_init_18 : decode cX3_init 18 = .ok (.aload_n 0, 1) := by decide +kernel
theorem dX3_init_19 : decode cX3_init 19 = .ok (.bipush 12, 2) := by decide +kernel
theorem dX3_init_21 : decode cX3_init 21 = .ok (.anewarray 7, 3) := by decide +kernel
theorem dX3_init_24 : decode cX3_init 24 = .ok (.putfield 18, 3) := by decide +kernel
theorem dX3_init_27 : decode cX3_init 27 = .ok (.iconst 0, 1) := by decide +kernel
theorem dX3_init_28 : decode cX3_init 28 = .ok (.istore_n 1, 1) := by decide +kernel
theorem dX3_init_29 : decode cX3_init 29 = .ok (.iload_n 1, 1) := by decide +kernel
theorem dX3_init_30 : decode cX3_init 30 = .ok (.bipush 12, 2) := by decide +kernel
theorem dX3_init_32 : decode cX3_init 32 = .ok (.if_icmp .ge 19, 3) := by decide +kernel
theorem dX3_init_35 : decode cX3_init 35 = .ok (.aload_n 0, 1) := by decide +kernel
theorem dX3_init_36 : decode cX3_init 36 = .ok (.getfield 18, 3) := by decide +kernel
theorem dX3_init_39 : decode cX3_init 39 = .ok (.iload_n 1, 1) := by decide +kernel
theorem dX3_init_40 : decode cX3_init 40 = .ok (.aload_n 0, 1) := by decide +kernel
theorem dX3_init_41 : decode cX3_init 41 = .ok (.getfield 14, 3) := by decide +kernel
theorem dX3_init_44 : decode cX3_init 44 = .ok (.aastore, 1) := by decide +kernel
theorem dX3_init_45 : decode cX3_init 45 = .ok (.iinc 1 1, 3) := by decide +kernel
theorem dX3_init_48 : decode cX3_init 48 = .ok (.goto (-19), 3) := by decide +kernel
theorem dX3_init_51 : decode cX3_init 51 = .ok (.aload_n 0, 1) := by decide +kernel
theorem dX3_init_52 : decode cX3_init 52 = .ok (.new 7, 3) := by decide +kernel
theorem dX3_init_55 : decode cX3_init 55 = .ok (.dup, 1) := by decide +kernel
theorem dX3_init_56 : decode cX3_init 56 = .ok (.iconst 0, 1) := by decide +kernel
theorem dX3_init_57 : decode cX3_init 57 = .ok (.bipush 64, 2) := by decide +kernel
theorem dX3_init_59 : decode cX3_init 59 = .ok (.iconst 0, 1) := by decide +kernel
theorem dX3_init_60 : decode cX3_init 60 = .ok (.invokespecial 11, 3) := by decide +kernel
theorem dX3_init_63 : decode cX3_init 63 = .ok (.putfield 22, 3) := by decide +kernel
theorem dX3_init_66 : decode cX3_init 66 = .ok (.aload_n 0, 1) := by decide +kernel
theorem dX3_init_67 : decode cX3_init 67 = .ok (.aconst_null, 1) := by decide +kernel
theorem dX3_init_68 : decode cX3_init 68 = .ok (.putfield 25, 3) := by decide +kernel
theorem dX3_init_71 : decode cX3_init 71 = .ok (.aload_n 0, 1) := by decide +kernel
theorem dX3_init_72 : decode cX3_init 72 = .ok (.bipush 6, 2) := by decide +kernel
theorem dX3_init_74 : decode cX3_init 74 = .ok (.newarray .int, 2) := by decide +kernel
theorem dX3_init_76 : decode cX3_init 76 = .ok (.putfield 28, 3) := by decide +kernel
theorem dX3_init_79 : decode cX3_init 79 = .ok (.aload_n 0, 1) := by decide +kernel
theorem dX3_init_80 : decode cX3_init 80 = .ok (.iconst 0, 1) := by decide +kernel
theorem dX3_init_81 : decode cX3_init 81 = .ok (.putfield 32, 3) := by decide +kernel
theorem dX3_init_84 : decode cX3_init 84 = .ok (.aload_n 0, 1) := by decide +kernel
theorem dX3_init_85 : decode cX3_init 85 = .ok (.iconst 0, 1) := by decide +kernel
theorem dX3_init_86 : decode cX3_init 86 = .ok (.putfield 36, 3) := by decide +kernel
theorem dX3_init_89 : decode cX3_init 89 = .ok (.return_, 1) := by decide +kernel
set_option maxRecDepth 20000 in
theorem ggX3_lay_X3_isTray : GoodIn wsX3_lay wsX3_isTray := goodIn_r _ [8] (by decide +kernel) (by decide +kernel)
set_option maxRecDepth 20000 in
theorem gX3_lay_X3_isTray : GoodIn wsX3_lay (va_wsS RX3 39 yX3_isTray wsX3_isTray) := goodIn_app (goodIn_of _ (by decide +kernel)) ggX3_lay_X3_isTray
set_option maxRecDepth 20000 in
theorem ggX3_lay_X0_init : GoodIn wsX3_lay wsX0_init := goodIn_r _ [11, 12, 13, 14, 15, 16, 17, 18, 19, 20, 21, 22, 23, 24, 32, 33, 34, 35, 36] (by decide +kernel) (by decide +kernel)
set_option maxRecDepth 20000 in
theorem gX3_lay_X0_init : GoodIn wsX3_lay (wsX0_init) := ggX3_lay_X0_init
theorem dX3_lay_0 : decode cX3_lay 0 = .ok (.iload_n 1, 1) := by decide +kernel
theorem dX3_lay_1 : decode cX3_lay 1 = .ok (.invokestatic 39, 3) := by decide +kernel
theorem dX3_lay_4 : decode cX3_lay 4 = .ok (.ifCond .eq 24, 3) := by decide +kernel
theorem dX3_lay_7 : decode cX3_lay 7 = .ok (.iload_n 2, 1) := by decide +kernel
theorem dX3_lay_8 : decode cX3_lay 8 = .ok (.iconst 2, 1) := by decide +kernel
theorem dX3_lay_9 : decode cX3_lay 9 = .ok (.if_icmp .lt 19, 3) := by decide +kernel
theorem dX3_lay_12 : decode cX3_lay 12 = .ok (.iload_n 2, 1) := by decide +kernel
theorem dX3_lay_13 : decode cX3_lay 13 = .ok (.bipush 13, 2) := by decide +kernel
theorem dX3_lay_15 : decode cX3_lay 15 = .ok (.if_icmp .gt 13, 3) := by decide +kernel
theorem dX3_lay_18 : decode cX3_lay 18 = .ok (.iload_n 3, 1) := by decide +kernel
theorem dX3_lay_19 : decode cX3_lay 19 = .ok (.ifCond .lt 9, 3) := by decide +kernel
theorem dX3_lay_22 : decode cX3_lay 22 = .ok (.iload_n 3, 1) := by decide +kernel
theorem dX3_lay_23 : decode cX3_lay 23 = .ok (.bipush 64, 2) := by decide +kernel
theorem dX3_lay_25 : decode cX3_lay 25 = .ok (.if_icmp .le 6, 3) := by decide +kernel
theorem dX3_lay_28 : decode cX3_lay 28 = .ok (.bipush (-6), 2) := by decide +kernel
theorem dX3_lay_30 : decode cX3_lay 30 = .ok (.ireturn, 1) := by decide +kernel
theorem dX3_lay_31 : decode cX3_lay 31 = .ok (.aload_n 0, 1) := by decide +kernel
theorem dX3_lay_32 : decode cX3_lay 32 = .ok (.getfield 18, 3) := by decide +kernel
theorem dX3_lay_35 : decode cX3_lay 35 = .ok (.iload_n 1, 1) := by decide +kernel
theorem dX3_lay_36 : decode cX3_lay 36 = .ok (.new 7, 3) := by decide +kernel
theorem dX3_lay_39 : decode cX3_lay 39 = .ok (.dup, 1) := by decide +kernel
theorem dX3_lay_40 : decode cX3_lay 40 = .ok (.iload_n 2, 1) := by decide +kernel
theorem dX3_lay_41 : decode cX3_lay 41 = .ok (.iload_n 3, 1) := by decide +kernel
theorem dX3_lay_42 : decode cX3_lay 42 = .ok (.iconst 0, 1) := by decide +kernel
theorem dX3_lay_43 : decode cX3_lay 43 = .ok (.invokespecial 11, 3) := by decide +kernel
theorem dX3_lay_46 : decode cX3_lay 46 = .ok (.aastore, 1) := by decide +kernel
theorem dX3_lay_47 : decode cX3_lay 47 = .ok (.iload_n 3, 1) := by decide +kernel
theorem dX3_lay_48 : decode cX3_lay 48 = .ok (.ireturn, 1) := by decide +kernel
set_option maxRecDepth 20000 in
theorem ggX3_ticket_X3_isTray : GoodIn wsX3_ticket wsX3_isTray := goodIn_r _ [9] (by decide +kernel) (by decide +kernel)
set_option maxRecDepth 20000 in
theorem gX3_ticket_X3_isTray : GoodIn wsX3_ticket (va_wsS RX3 39 yX3_isTray wsX3_isTray) := goodIn_app (goodIn_of _ (by decide +kernel)) ggX3_ticket_X3_isTray
set_option maxRecDepth 20000 in
theorem ggX3_ticket_X0_init : GoodIn wsX3_ticket wsX0_init := goodIn_r _ [12, 13, 14, 15, 16, 17, 18, 19, 20, 21, 22, 23, 24, 25, 33, 34, 35, 36, 37] (by decide +kernel) (by decide +kernel)
set_option maxRecDepth 20000 in
theorem gX3_ticket_X0_init : GoodIn wsX3_ticket (wsX0_init) := ggX3_ticket_X0_init
theorem dX3_ticket_0 : decode cX3_ticket 0 = .ok (.iload_n 1, 1) := by decide +kernel
theorem dX3_ticket_1 : decode cX3_ticket 1 = .ok (.invokestatic 39, 3) := by decide +kernel
theorem dX3_ticket_4 : decode cX3_ticket 4 = .ok (.ifCond .eq 12, 3) := by decide +kernel
theorem dX3_ticket_7 : decode cX3_ticket 7 = .ok (.iload_n 2, 1) := by decide +kernel
theorem dX3_ticket_8 : decode cX3_ticket 8 = .ok (.ifCond .eq 10, 3) := by decide +kernel
theorem dX3_ticket_11 : decode cX3_ticket 11 = .ok (.iload_n 2, 1) := by decide +kernel
theorem dX3_ticket_12 : decode cX3_ticket 12 = .ok (.iconst 1, 1) := by decide +kernel
theorem dX3_ticket_13 : decode cX3_ticket 13 = .ok (.if_icmp .eq 5, 3) := by decide +kernel
theorem dX3_ticket_16 : decode cX3_ticket 16 = .ok (.iconst 0, 1) := by decide +kernel
theorem dX3_ticket_17 : decode cX3_ticket 17 = .ok (.ireturn, 1) := by decide +kernel
theorem dX3_ticket_18 : decode cX3_ticket 18 = .ok (.aload_n 0, 1) := by decide +kernel
theorem dX3_ticket_19 : decode cX3_ticket 19 = .ok (.getfield 18, 3) := by decide +kernel
theorem dX3_ticket_22 : decode cX3_ticket 22 = .ok (.iload_n 1, 1) := by decide +kernel
theorem dX3_ticket_23 : decode cX3_ticket 23 = .ok (.iload_n 2, 1) := by decide +kernel
theorem dX3_ticket_24 : decode cX3_ticket 24 = .ok (.iconst 1, 1) := by decide +kernel
theorem dX3_ticket_25 : decode cX3_ticket 25 = .ok (.if_icmp .ne 16, 3) := by decide +kernel
theorem dX3_ticket_28 : decode cX3_ticket 28 = .ok (.new 7, 3) := by decide +kernel
theorem dX3_ticket_31 : decode cX3_ticket 31 = .ok (.dup, 1) := by decide +kernel
theorem dX3_ticket_32 : decode cX3_ticket 32 = .ok (.iconst 1, 1) := by decide +kernel
theorem dX3_ticket_33 : decode cX3_ticket 33 = .ok (.iconst 0, 1) := by decide +kernel
theorem dX3_ticket_34 : decode cX3_ticket 34 = .ok (.iload_n 3, 1) := by decide +kernel
theorem dX3_ticket_35 : decode cX3_ticket 35 = .ok (.invokespecial 11, 3) := by decide +kernel
theorem dX3_ticket_38 : decode cX3_ticket 38 = .ok (.goto 7, 3) := by decide +kernel
theorem dX3_ticket_41 : decode cX3_ticket 41 = .ok (.aload_n 0, 1) := by decide +kernel
theorem dX3_ticket_42 : decode cX3_ticket 42 = .ok (.getfield 14, 3) := by decide +kernel
theorem dX3_ticket_45 : decode cX3_ticket 45 = .ok (.aastore, 1) := by decide +kernel
theorem dX3_ticket_46 : decode cX3_ticket 46 = .ok (.iconst 1, 1) := by decide +kernel
theorem dX3_ticket_47 : decode cX3_ticket 47 = .ok (.ireturn, 1) := by decide +kernel
set_option maxRecDepth 20000 in
theorem ggX3_share_X3_isTray : GoodIn wsX3_share wsX3_isTray := goodIn_r _ [5] (by decide +kernel) (by decide +kernel)
set_option maxRecDepth 20000 in
theorem gX3_share_X3_isTray : GoodIn wsX3_share (va_wsS RX3 39 yX3_isTray wsX3_isTray) := goodIn_app (goodIn_of _ (by decide +kernel)) ggX3_share_X3_isTray
theorem dX3_share_0 : decode cX3_share 0 = .ok (.iload_n 1, 1) := by decide +kernel
theorem dX3_share_1 : decode cX3_share 1 = .ok (.invokestatic 39, 3) := by decide +kernel
theorem dX3_share_4 : decode cX3_share 4 = .ok (.ifCond .eq 10, 3) := by decide +kernel
theorem dX3_share_7 : decode cX3_share 7 = .ok (.iload_n 2, 1) := by decide +kernel
theorem dX3_share_8 : decode cX3_share 8 = .ok (.invokestatic 39, 3) := by decide +kernel
theorem dX3_share_11 : decode cX3_share 11 = .ok (.ifCond .ne 6, 3) := by decide +kernel
theorem dX3_share_14 : decode cX3_share 14 = .ok (.bipush (-6), 2) := by decide +kernel
theorem dX3_share_16 : decode cX3_share 16 = .ok (.ireturn, 1) := by decide +kernel
theorem dX3_share_17 : decode cX3_share 17 = .ok (.aload_n 0, 1) := by decide +kernel
theorem dX3_share_18 : decode cX3_share 18 = .ok (.getfield 18, 3) := by decide +kernel
theorem dX3_share_21 : decode cX3_share 21 = .ok (.iload_n 2, 1) := by decide +kernel
theorem dX3_share_22 : decode cX3_share 22 = .ok (.aload_n 0, 1) := by decide +kernel
theorem dX3_share_23 : decode cX3_share 23 = .ok (.getfield 18, 3) := by decide +kernel
theorem dX3_share_26 : decode cX3_share 26 = .ok (.iload_n 1, 1) := by decide +kernel
theorem dX3_share_27 : decode cX3_share 27 = .ok (.aaload, 1) := by decide +kernel
theorem dX3_share_28 : decode cX3_share 28 = .ok (.aastore, 1) := by decide +kernel
theorem dX3_share_29 : decode cX3_share 29 = .ok (.aload_n 0, 1) := by decide +kernel
theorem dX3_share_30 : decode cX3_share 30 = .ok (.getfield 18, 3) := by decide +kernel
theorem dX3_share_33 : decode cX3_share 33 = .ok (.iload_n 2, 1) := by decide +kernel
theorem dX3_share_34 : decode cX3_share 34 = .ok (.aaload, 1) := by decide +kernel
theorem dX3_share_35 : decode cX3_share 35 = .ok (.getfield 43, 3) := by decide +kernel
theorem dX3_share_38 : decode cX3_share 38 = .ok (.ireturn, 1) := by decide +kernel
set_option maxRecDepth 20000 in
theorem ggX3_put_X3_isTray : GoodIn wsX3_put wsX3_isTray := goodIn_r _ [5] (by decide +kernel) (by decide +kernel)
set_option maxRecDepth 20000 in
theorem gX3_put_X3_isTray : GoodIn wsX3_put (va_wsS RX3 39 yX3_isTray wsX3_isTray) := goodIn_app (goodIn_of _ (by decide +kernel)) ggX3_put_X3_isTray
set_option maxRecDepth 20000 in
theorem ggX3_put_X0_refusal : GoodIn wsX3_put wsX0_refusal := goodIn_r _ [10, 11, 71, 72, 73, 74, 75] (by decide +kernel) (by decide +kernel)
set_option maxRecDepth 20000 in
theorem gX3_put_X0_refusal : GoodIn wsX3_put (wsV RX3 46 RX0 yX0_refusal wsX0_refusal) := goodIn_app (goodIn_of _ (by decide +kernel)) ggX3_put_X0_refusal
set_option maxRecDepth 20000 in
theorem ggX3_put_X3_thingFor : GoodIn wsX3_put wsX3_thingFor := goodIn_r _ [15, 1, 2, 3, 4, 5, 16, 17, 18, 19, 20, 21, 22, 23, 24, 25, 26, 27, 28, 29, 30, 31, 32, 33, 34, 35, 36, 37, 38, 39, 64, 65, 66, 67, 68, 69, 70, 71, 72, 73, 74, 75, 76, 77, 78] (by decide +kernel) (by decide +kernel)
set_option maxRecDepth 20000 in
theorem gX3_put_X3_thingFor : GoodIn wsX3_put (wsV RX3 50 RX3 yX3_thingFor wsX3_thingFor) := goodIn_app (goodIn_of _ (by decide +kernel)) ggX3_put_X3_thingFor
set_option maxRecDepth 20000 in
theorem ggX3_put_X0_hasPlace : GoodIn wsX3_put wsX0_hasPlace := goodIn_r _ [43, 44, 71, 72, 73, 74, 75] (by decide +kernel) (by decide +kernel)
set_option maxRecDepth 20000 in
theorem gX3_put_X0_hasPlace : GoodIn wsX3_put (wsV RX3 54 RX0 yX0_hasPlace wsX0_hasPlace) := goodIn_app (goodIn_of _ (by decide +kernel)) ggX3_put_X0_hasPlace
set_option maxRecDepth 20000 in
theorem ggX3_put_X0_accepts : GoodIn wsX3_put wsX0_accepts := goodIn_r _ [48, 11, 49, 50, 51, 52, 9, 53, 54, 55, 27, 56, 31, 71, 72, 73, 74, 75, 76, 77, 78] (by decide +kernel) (by decide +kernel)
set_option maxRecDepth 20000 in
theorem gX3_put_X0_accepts : GoodIn wsX3_put (wsV RX3 57 RX0 yX0_accepts wsX0_accepts) := goodIn_app (goodIn_of _ (by decide +kernel)) ggX3_put_X0_accepts
set_option maxRecDepth 20000 in
theorem ggX3_put_X0_isOfNumbers : GoodIn wsX3_put wsX0_isOfNumbers := goodIn_r _ [60, 11, 71, 72, 73, 74, 75] (by decide +kernel) (by decide +kernel)
set_option maxRecDepth 20000 in
theorem gX3_put_X0_isOfNumbers : GoodIn wsX3_put (wsV RX3 65 RX0 yX0_isOfNumbers wsX0_isOfNumbers) := goodIn_app (goodIn_of _ (by decide +kernel)) ggX3_put_X0_isOfNumbers
set_option maxRecDepth 20000 in
theorem ggX3_put_X3_numberFor : GoodIn wsX3_put wsX3_numberFor := goodIn_r _ [63] (by decide +kernel) (by decide +kernel)
set_option maxRecDepth 20000 in
theorem gX3_put_X3_numberFor : GoodIn wsX3_put (va_wsS RX3 69 yX3_numberFor wsX3_numberFor) := goodIn_app (goodIn_of _ (by decide +kernel)) ggX3_put_X3_numberFor
theorem dX3_put_0 : decode cX3_put 0 = .ok (.iload_n 1, 1) := by decide +kernel
theorem dX3_put_1 : decode cX3_put 1 = .ok (.invokestatic 39, 3) := by decide +kernel
theorem dX3_put_4 : decode cX3_put 4 = .ok (.ifCond .ne 6, 3) := by decide +kernel
theorem dX3_put_7 : decode cX3_put 7 = .ok (.bipush (-6), 2) := by decide +kernel
theorem dX3_put_9 : decode cX3_put 9 = .ok (.ireturn, 1) := by decide +kernel
theorem dX3_put_10 : decode cX3_put 10 = .ok (.aload_n 0, 1) := by decide +kernel
theorem dX3_put_11 : decode cX3_put 11 = .ok (.getfield 18, 3) := by decide +kernel
theorem dX3_put_14 : decode cX3_put 14 = .ok (.iload_n 1, 1) := by decide +kernel
theorem dX3_put_15 : decode cX3_put 15 = .ok (.aaload, 1) := by decide +kernel
theorem dX3_put_16 : decode cX3_put 16 = .ok (.astore 4, 2) := by decide +kernel
theorem dX3_put_18 : decode cX3_put 18 = .ok (.aload 4, 2) := by decide +kernel
theorem dX3_put_20 : decode cX3_put 20 = .ok (.invokevirtual 46, 3) := by decide +kernel
theorem dX3_put_23 : decode cX3_put 23 = .ok (.istore 5, 2) := by decide +kernel
theorem dX3_put_25 : decode cX3_put 25 = .ok (.iload 5, 2) := by decide +kernel
theorem dX3_put_27 : decode cX3_put 27 = .ok (.ifCond .eq 6, 3) := by decide +kernel
theorem dX3_put_30 : decode cX3_put 30 = .ok (.iload 5, 2) := by decide +kernel
theorem dX3_put_32 : decode cX3_put 32 = .ok (.ireturn, 1) := by decide +kernel
theorem dX3_put_33 : decode cX3_put 33 = .ok (.aload_n 0, 1) := by decide +kernel
theorem dX3_put_34 : decode cX3_put 34 = .ok (.aload 4, 2) := by decide +kernel
theorem dX3_put_36 : decode cX3_put 36 = .ok (.getfield 43, 3) := by decide +kernel
theorem dX3_put_39 : decode cX3_put 39 = .ok (.iload_n 3, 1) := by decide +kernel
theorem dX3_put_40 : decode cX3_put 40 = .ok (.invokevirtual 50, 3) := by decide +kernel
theorem dX3_put_43 : decode cX3_put 43 = .ok (.astore 6, 2) := by decide +kernel
theorem dX3_put_45 : decode cX3_put 45 = .ok (.aload 4, 2) := by decide +kernel
theorem dX3_put_47 : decode cX3_put 47 = .ok (.iload_n 2, 1) := by decide +kernel
theorem dX3_put_48 : decode cX3_put 48 = .ok (.invokevirtual 54, 3) := by decide +kernel
theorem dX3_put_51 : decode cX3_put 51 = .ok (.ifCond .ne 6, 3) := by decide +kernel
theorem dX3_put_54 : decode cX3_put 54 = .ok (.bipush (-4), 2) := by decide +kernel
theorem dX3_put_56 : decode cX3_put 56 = .ok (.ireturn, 1) := by decide +kernel
theorem dX3_put_57 : decode cX3_put 57 = .ok (.aload 4, 2) := by decide +kernel
theorem dX3_put_59 : decode cX3_put 59 = .ok (.aload 6, 2) := by decide +kernel
theorem dX3_put_61 : decode cX3_put 61 = .ok (.invokevirtual 57, 3) := by decide +kernel
theorem dX3_put_64 : decode cX3_put 64 = .ok (.ifCond .ne 6, 3) := by decide +kernel
theorem dX3_put_67 : decode cX3_put 67 = .ok (.bipush (-3), 2) := by decide +kernel
theorem dX3_put_69 : decode cX3_put 69 = .ok (.ireturn, 1) := by decide +kernel
theorem dX3_put_70 : decode cX3_put 70 = .ok (.aload 4, 2) := by decide +kernel
theorem dX3_put_72 : decode cX3_put 72 = .ok (.getfield 61, 3) := by decide +kernel
theorem dX3_put_75 : decode cX3_put 75 = .ok (.iload_n 2, 1) := by decide +kernel
theorem dX3_put_76 : decode cX3_put 76 = .ok (.aload 4, 2) := by decide +kernel
theorem dX3_put_78 : decode cX3_put 78 = .ok (.invokevirtual 65, 3) := by decide +kernel
theorem dX3_put_81 : decode cX3_put 81 = .ok (.ifCond .eq 15, 3) := by decide +kernel
theorem dX3_put_84 : decode cX3_put 84 = .ok (.aload 4, 2) := by decide +kernel
theorem dX3_put_86 : decode cX3_put 86 = .ok (.getfield 43, 3) := by decide +kernel
theorem dX3_put_89 : decode cX3_put 89 = .ok (.iload_n 3, 1) := by decide +kernel
theorem dX3_put_90 : decode cX3_put 90 = .ok (.invokestatic 69, 3) := by decide +kernel
theorem dX3_put_93 : decode cX3_put 93 = .ok (.goto 4, 3) := by decide +kernel
theorem dX3_put_96 : decode cX3_put 96 = .ok (.lconst 0, 1) := by decide +kernel
theorem dX3_put_97 : decode cX3_put 97 = .ok (.lastore, 1) := by decide +kernel
theorem dX3_put_98 : decode cX3_put 98 = .ok (.aload 4, 2) := by decide +kernel
theorem dX3_put_100 : decode cX3_put 100 = .ok (.getfield 73, 3) := by decide +kernel
theorem dX3_put_103 : decode cX3_put 103 = .ok (.iload_n 2, 1) := by decide +kernel
theorem dX3_put_104 : decode cX3_put 104 = .ok (.aload 6, 2) := by decide +kernel
theorem dX3_put_106 : decode cX3_put 106 = .ok (.aastore, 1) := by decide +kernel
theorem dX3_put_107 : decode cX3_put 107 = .ok (.iconst 1, 1) := by decide +kernel
theorem dX3_put_108 : decode cX3_put 108 = .ok (.ireturn, 1) := by decide +kernel
set_option maxRecDepth 20000 in
theorem ggX3_move_X3_isTray : GoodIn wsX3_move wsX3_isTray := goodIn_r _ [5] (by decide +kernel) (by decide +kernel)
set_option maxRecDepth 20000 in
theorem gX3_move_X3_isTray : GoodIn wsX3_move (va_wsS RX3 39 yX3_isTray wsX3_isTray) := goodIn_app (goodIn_of _ (by decide +kernel)) ggX3_move_X3_isTray
set_option maxRecDepth 20000 in
theorem ggX3_move_X3_keep : GoodIn wsX3_move wsX3_keep := goodIn_r _ [9, 10, 11, 12, 13, 14, 15, 16, 17, 18, 19, 20, 21, 22, 23, 60, 61, 62, 63, 64, 65, 66, 67, 68, 69, 70, 71] (by decide +kernel) (by decide +kernel)
set_option maxRecDepth 20000 in
theorem gX3_move_X3_keep : GoodIn wsX3_move (wsV RX3 77 RX3 yX3_keep wsX3_keep) := goodIn_app (goodIn_of _ (by decide +kernel)) ggX3_move_X3_keep
set_option maxRecDepth 20000 in
theorem ggX3_move_X3_carry : GoodIn wsX3_move wsX3_carry := goodIn_r _ [27, 28, 11, 29, 30, 4, 31, 32, 33, 34, 15, 35, 17, 36, 37, 38, 39, 40, 41, 42, 43, 44, 45, 46, 47, 48, 49, 50, 51, 52, 53, 54, 18, 19, 20, 21, 22, 23, 60, 61, 62, 63, 64, 65, 66, 67, 68, 69, 70, 71, 72, 73, 74] (by decide +kernel) (by decide +kernel)
set_option maxRecDepth 20000 in
theorem gX3_move_X3_carry : GoodIn wsX3_move (wsV RX3 81 RX3 yX3_carry wsX3_carry) := goodIn_app (goodIn_of _ (by decide +kernel)) ggX3_move_X3_carry
set_option maxRecDepth 20000 in
theorem ggX3_move_X3_counted : GoodIn wsX3_move wsX3_counted := goodIn_r _ [58, 59, 60, 61, 62, 63, 64, 65, 66] (by decide +kernel) (by decide +kernel)
set_option maxRecDepth 20000 in
theorem gX3_move_X3_counted : GoodIn wsX3_move (wsV RX3 85 RX3 yX3_counted wsX3_counted) := goodIn_app (goodIn_of _ (by decide +kernel)) ggX3_move_X3_counted
theorem dX3_move_0 : decode cX3_move 0 = .ok (.iload_n 1, 1) := by decide +kernel
theorem dX3_move_1 : decode cX3_move 1 = .ok (.invokestatic 39, 3) := by decide +kernel
theorem dX3_move_4 : decode cX3_move 4 = .ok (.ifCond .eq 10, 3) := by decide +kernel
theorem dX3_move_7 : decode cX3_move 7 = .ok (.iload_n 3, 1) := by decide +kernel
theorem dX3_move_8 : decode cX3_move 8 = .ok (.invokestatic 39, 3) := by decide +kernel
theorem dX3_move_11 : decode cX3_move 11 = .ok (.ifCond .ne 6, 3) := by decide +kernel
theorem dX3_move_14 : decode cX3_move 14 = .ok (.bipush (-6), 2) := by decide +kernel
theorem dX3_move_16 : decode cX3_move 16 = .ok (.ireturn, 1) := by decide +kernel
theorem dX3_move_17 : decode cX3_move 17 = .ok (.aload_n 0, 1) := by decide +kernel
theorem dX3_move_18 : decode cX3_move 18 = .ok (.aload_n 0, 1) := by decide +kernel
theorem dX3_move_19 : decode cX3_move 19 = .ok (.getfield 18, 3) := by decide +kernel
theorem dX3_move_22 : decode cX3_move 22 = .ok (.iload_n 3, 1) := by decide +kernel
theorem dX3_move_23 : decode cX3_move 23 = .ok (.aaload, 1) := by decide +kernel
theorem dX3_move_24 : decode cX3_move 24 = .ok (.invokevirtual 77, 3) := by decide +kernel
theorem dX3_move_27 : decode cX3_move 27 = .ok (.aload_n 0, 1) := by decide +kernel
theorem dX3_move_28 : decode cX3_move 28 = .ok (.aload_n 0, 1) := by decide +kernel
theorem dX3_move_29 : decode cX3_move 29 = .ok (.aload_n 0, 1) := by decide +kernel
theorem dX3_move_30 : decode cX3_move 30 = .ok (.getfield 18, 3) := by decide +kernel
theorem dX3_move_33 : decode cX3_move 33 = .ok (.iload_n 1, 1) := by decide +kernel
theorem dX3_move_34 : decode cX3_move 34 = .ok (.aaload, 1) := by decide +kernel
theorem dX3_move_35 : decode cX3_move 35 = .ok (.iload_n 2, 1) := by decide +kernel
theorem dX3_move_36 : decode cX3_move 36 = .ok (.aload_n 0, 1) := by decide +kernel
theorem dX3_move_37 : decode cX3_move 37 = .ok (.getfield 18, 3) := by decide +kernel
theorem dX3_move_40 : decode cX3_move 40 = .ok (.iload_n 3, 1) := by decide +kernel
theorem dX3_move_41 : decode cX3_move 41 = .ok (.aaload, 1) := by decide +kernel
theorem dX3_move_42 : decode cX3_move 42 = .ok (.iload 4, 2) := by decide +kernel
theorem dX3_move_44 : decode cX3_move 44 = .ok (.iload 5, 2) := by decide +kernel
theorem dX3_move_46 : decode cX3_move 46 = .ok (.invokevirtual 81, 3) := by decide +kernel
theorem dX3_move_49 : decode cX3_move 49 = .ok (.invokevirtual 85, 3) := by decide +kernel
theorem dX3_move_52 : decode cX3_move 52 = .ok (.ireturn, 1) := by decide +kernel
set_option maxRecDepth 20000 in
theorem ggX3_open_X3_isTray : GoodIn wsX3_open wsX3_isTray := goodIn_r _ [5] (by decide +kernel) (by decide +kernel)
set_option maxRecDepth 20000 in
theorem gX3_open_X3_isTray : GoodIn wsX3_open (va_wsS RX3 39 yX3_isTray wsX3_isTray) := goodIn_app (goodIn_of _ (by decide +kernel)) ggX3_open_X3_isTray
set_option maxRecDepth 20000 in
theorem ggX3_open_X3_move : GoodIn wsX3_open wsX3_move := goodIn_r _ [9, 1, 2, 3, 4, 5, 10, 11, 12, 13, 14, 15, 16, 17, 18, 19, 20, 21, 22, 23, 24, 25, 26, 27, 28, 29, 30, 31, 32, 33, 34, 35, 36, 37, 38, 39, 40, 41, 42, 43, 44, 45, 46, 47, 48, 49, 50, 51, 52, 53, 54, 55, 56, 57, 58, 59, 60, 61, 62, 63, 64, 65, 66, 67, 68, 69, 70, 71, 72, 73, 74, 75, 76, 77, 78] (by decide +kernel) (by decide +kernel)
set_option maxRecDepth 20000 in
theorem gX3_open_X3_move : GoodIn wsX3_open (wsV RX3 92 RX3 yX3_move wsX3_move) := goodIn_app (goodIn_of _ (by decide +kernel)) ggX3_open_X3_move
theorem dX3_open_0 : decode cX3_open 0 = .ok (.iload_n 1, 1) := by decide +kernel
theorem dX3_open_1 : decode cX3_open 1 = .ok (.invokestatic 39, 3) := by decide +kernel
theorem dX3_open_4 : decode cX3_open 4 = .ok (.ifCond .ne 6, 3) := by decide +kernel
theorem dX3_open_7 : decode cX3_open 7 = .ok (.bipush (-6), 2) := by decide +kernel
theorem dX3_open_9 : decode cX3_open 9 = .ok (.ireturn, 1) := by decide +kernel
theorem dX3_open_10 : decode cX3_open 10 = .ok (.aload_n 0, 1) := by decide +kernel
theorem dX3_open_11 : decode cX3_open 11 = .ok (.iload_n 1, 1) := by decide +kernel
theorem dX3_open_12 : decode cX3_open 12 = .ok (.iload_n 2, 1) := by decide +kernel
theorem dX3_open_13 : decode cX3_open 13 = .ok (.iload_n 1, 1) := by decide +kernel
theorem dX3_open_14 : decode cX3_open 14 = .ok (.iload_n 2, 1) := by decide +kernel
theorem dX3_open_15 : decode cX3_open 15 = .ok (.iload_n 3, 1) := by decide +kernel
theorem dX3_open_16 : decode cX3_open 16 = .ok (.iadd, 1) := by decide +kernel
theorem dX3_open_17 : decode cX3_open 17 = .ok (.aload_n 0, 1) := by decide +kernel
theorem dX3_open_18 : decode cX3_open 18 = .ok (.getfield 18, 3) := by decide +kernel
theorem dX3_open_21 : decode cX3_open 21 = .ok (.iload_n 1, 1) := by decide +kernel
theorem dX3_open_22 : decode cX3_open 22 = .ok (.aaload, 1) := by decide +kernel
theorem dX3_open_23 : decode cX3_open 23 = .ok (.getfield 89, 3) := by decide +kernel
theorem dX3_open_26 : decode cX3_open 26 = .ok (.iload_n 2, 1) := by decide +kernel
theorem dX3_open_27 : decode cX3_open 27 = .ok (.isub, 1) := by decide +kernel
theorem dX3_open_28 : decode cX3_open 28 = .ok (.iload_n 3, 1) := by decide +kernel
theorem dX3_open_29 : decode cX3_open 29 = .ok (.isub, 1) := by decide +kernel
theorem dX3_open_30 : decode cX3_open 30 = .ok (.invokevirtual 92, 3) := by decide +kernel
theorem dX3_open_33 : decode cX3_open 33 = .ok (.ireturn, 1) := by decide +kernel
set_option maxRecDepth 20000 in
theorem ggX3_close_X3_isTray : GoodIn wsX3_close wsX3_isTray := goodIn_r _ [5] (by decide +kernel) (by decide +kernel)
set_option maxRecDepth 20000 in
theorem gX3_close_X3_isTray : GoodIn wsX3_close (va_wsS RX3 39 yX3_isTray wsX3_isTray) := goodIn_app (goodIn_of _ (by decide +kernel)) ggX3_close_X3_isTray
set_option maxRecDepth 20000 in
theorem ggX3_close_X3_move : GoodIn wsX3_close wsX3_move := goodIn_r _ [9, 1, 2, 3, 4, 5, 10, 11, 12, 13, 14, 15, 16, 17, 18, 19, 20, 21, 22, 23, 24, 25, 26, 27, 28, 29, 30, 31, 32, 33, 34, 35, 36, 37, 38, 39, 40, 41, 42, 43, 44, 45, 46, 47, 48, 49, 50, 51, 52, 53, 54, 55, 56, 57, 58, 59, 60, 61, 62, 63, 64, 65, 66, 67, 68, 69, 70, 71, 72, 73, 74, 75, 76, 77, 78] (by decide +kernel) (by decide +kernel)
set_option maxRecDepth 20000 in
theorem gX3_close_X3_move : GoodIn wsX3_close (wsV RX3 92 RX3 yX3_move wsX3_move) := goodIn_app (goodIn_of _ (by decide +kernel)) ggX3_close_X3_move
theorem dX3_close_0 : decode cX3_close 0 = .ok (.iload_n 1, 1) := by decide +kernel
theorem dX3_close_1 : decode cX3_close 1 = .ok (.invokestatic 39, 3) := by decide +kernel
theorem dX3_close_4 : decode cX3_close 4 = .ok (.ifCond .ne 6, 3) := by decide +kernel
theorem dX3_close_7 : decode cX3_close 7 = .ok (.bipush (-6), 2) := by decide +kernel
theorem dX3_close_9 : decode cX3_close 9 = .ok (.ireturn, 1) := by decide +kernel
theorem dX3_close_10 : decode cX3_close 10 = .ok (.aload_n 0, 1) := by decide +kernel
theorem dX3_close_11 : decode cX3_close 11 = .ok (.iload_n 1, 1) := by decide +kernel
theorem dX3_close_12 : decode cX3_close 12 = .ok (.iload_n 2, 1) := by decide +kernel
theorem dX3_close_13 : decode cX3_close 13 = .ok (.iload_n 3, 1) := by decide +kernel
theorem dX3_close_14 : decode cX3_close 14 = .ok (.iadd, 1) := by decide +kernel
theorem dX3_close_15 : decode cX3_close 15 = .ok (.iload_n 1, 1) := by decide +kernel
theorem dX3_close_16 : decode cX3_close 16 = .ok (.iload_n 2, 1) := by decide +kernel
theorem dX3_close_17 : decode cX3_close 17 = .ok (.aload_n 0, 1) := by decide +kernel
theorem dX3_close_18 : decode cX3_close 18 = .ok (.getfield 18, 3) := by decide +kernel
theorem dX3_close_21 : decode cX3_close 21 = .ok (.iload_n 1, 1) := by decide +kernel
theorem dX3_close_22 : decode cX3_close 22 = .ok (.aaload, 1) := by decide +kernel
theorem dX3_close_23 : decode cX3_close 23 = .ok (.getfield 89, 3) := by decide +kernel
theorem dX3_close_26 : decode cX3_close 26 = .ok (.iload_n 2, 1) := by decide +kernel
theorem dX3_close_27 : decode cX3_close 27 = .ok (.isub, 1) := by decide +kernel
theorem dX3_close_28 : decode cX3_close 28 = .ok (.iload_n 3, 1) := by decide +kernel
theorem dX3_close_29 : decode cX3_close 29 = .ok (.isub, 1) := by decide +kernel
theorem dX3_close_30 : decode cX3_close 30 = .ok (.invokevirtual 92, 3) := by decide +kernel
theorem dX3_close_33 : decode cX3_close 33 = .ok (.ireturn, 1) := by decide +kernel
set_option maxRecDepth 20000 in
theorem ggX3_turn_X3_isTray : GoodIn wsX3_turn wsX3_isTray := goodIn_r _ [6] (by decide +kernel) (by decide +kernel)
set_option maxRecDepth 20000 in
theorem gX3_turn_X3_isTray : GoodIn wsX3_turn (va_wsS RX3 39 yX3_isTray wsX3_isTray) := goodIn_app (goodIn_of _ (by decide +kernel)) ggX3_turn_X3_isTray
set_option maxRecDepth 20000 in
theorem ggX3_turn_X3_keep : GoodIn wsX3_turn wsX3_keep := goodIn_r _ [10, 11, 2, 12, 13, 14, 15, 16, 17, 18, 19, 20, 21, 22, 23, 33, 34, 35, 36, 37, 38, 39, 40, 41, 42, 43, 44] (by decide +kernel) (by decide +kernel)
set_option maxRecDepth 20000 in
theorem gX3_turn_X3_keep : GoodIn wsX3_turn (wsV RX3 77 RX3 yX3_keep wsX3_keep) := goodIn_app (goodIn_of _ (by decide +kernel)) ggX3_turn_X3_keep
set_option maxRecDepth 20000 in
theorem ggX3_turn_X0_refusal : GoodIn wsX3_turn wsX0_refusal := goodIn_r _ [16, 17, 40, 41, 42, 43, 44] (by decide +kernel) (by decide +kernel)
set_option maxRecDepth 20000 in
theorem gX3_turn_X0_refusal : GoodIn wsX3_turn (wsV RX3 46 RX0 yX0_refusal wsX0_refusal) := goodIn_app (goodIn_of _ (by decide +kernel)) ggX3_turn_X0_refusal
set_option maxRecDepth 20000 in
theorem ggX3_turn_X3_counted : GoodIn wsX3_turn wsX3_counted := goodIn_r _ [27, 28, 33, 34, 35, 36, 37, 38, 39] (by decide +kernel) (by decide +kernel)
set_option maxRecDepth 20000 in
theorem gX3_turn_X3_counted : GoodIn wsX3_turn (wsV RX3 85 RX3 yX3_counted wsX3_counted) := goodIn_app (goodIn_of _ (by decide +kernel)) ggX3_turn_X3_counted
set_option maxRecDepth 20000 in
theorem ggX3_turn_J9_floorMod_7cf53 : GoodIn wsX3_turn wsJ9_floorMod_7cf53 := goodIn_r _ [32] (by decide +kernel) (by decide +kernel)
set_option maxRecDepth 20000 in
theorem gX3_turn_J9_floorMod_7cf53 : GoodIn wsX3_turn (va_wsS RX3 96 yJ9_floorMod_7cf53 wsJ9_floorMod_7cf53) := goodIn_app (goodIn_of _ (by decide +kernel)) ggX3_turn_J9_floorMod_7cf53
set_option maxRecDepth 20000 in
theorem ggX3_turn_X0_copyPlace : GoodIn wsX3_turn wsX0_copyPlace := goodIn_r _ [21, 22, 23, 40, 41, 42, 43, 44] (by decide +kernel) (by decide +kernel)
set_option maxRecDepth 20000 in
theorem gX3_turn_X0_copyPlace : GoodIn wsX3_turn (wsV RX3 102 RX0 yX0_copyPlace wsX0_copyPlace) := goodIn_app (goodIn_of _ (by decide +kernel)) ggX3_turn_X0_copyPlace
theorem dX3_turn_0 : decode cX3_turn 0 = .ok (.iload_n 1, 1) := by decide +kernel
theorem dX3_turn_1 : decode cX3_turn 1 = .ok (.invokestatic 39, 3) := by decide +kernel
theorem dX3_turn_4 : decode cX3_turn 4 = .ok (.ifCond .ne 6, 3) := by decide +kernel
theorem dX3_turn_7 : decode cX3_turn 7 = .ok (.bipush (-6), 2) := by decide +kernel
theorem dX3_turn_9 : decode cX3_turn 9 = .ok (.ireturn, 1) := by decide +kernel
theorem dX3_turn_10 : decode cX3_turn 10 = .ok (.aload_n 0, 1) := by decide +kernel
theorem dX3_turn_11 : decode cX3_turn 11 = .ok (.getfield 18, 3) := by decide +kernel
theorem dX3_turn_14 : decode cX3_turn 14 = .ok (.iload_n 1, 1) := by decide +kernel
theorem dX3_turn_15 : decode cX3_turn 15 = .ok (.aaload, 1) := by decide +kernel
theorem dX3_turn_16 : decode cX3_turn 16 = .ok (.astore_n 3, 1) := by decide +kernel
theorem dX3_turn_17 : decode cX3_turn 17 = .ok (.aload_n 0, 1) := by decide +kernel
theorem dX3_turn_18 : decode cX3_turn 18 = .ok (.aload_n 3, 1) := by decide +kernel
theorem dX3_turn_19 : decode cX3_turn 19 = .ok (.invokevirtual 77, 3) := by decide +kernel
theorem dX3_turn_22 : decode cX3_turn 22 = .ok (.aload_n 3, 1) := by decide +kernel
theorem dX3_turn_23 : decode cX3_turn 23 = .ok (.invokevirtual 46, 3) := by decide +kernel
theorem dX3_turn_26 : decode cX3_turn 26 = .ok (.istore 4, 2) := by decide +kernel
theorem dX3_turn_28 : decode cX3_turn 28 = .ok (.iload 4, 2) := by decide +kernel
theorem dX3_turn_30 : decode cX3_turn 30 = .ok (.ifCond .eq 10, 3) := by decide +kernel
theorem dX3_turn_33 : decode cX3_turn 33 = .ok (.aload_n 0, 1) := by decide +kernel
theorem dX3_turn_34 : decode cX3_turn 34 = .ok (.iload 4, 2) := by decide +kernel
theorem dX3_turn_36 : decode cX3_turn 36 = .ok (.invokevirtual 85, 3) := by decide +kernel
theorem dX3_turn_39 : decode cX3_turn 39 = .ok (.ireturn, 1) := by decide +kernel
theorem dX3_turn_40 : decode cX3_turn 40 = .ok (.aload_n 3, 1) := by decide +kernel
theorem dX3_turn_41 : decode cX3_turn 41 = .ok (.getfield 89, 3) := by decide +kernel
theorem dX3_turn_44 : decode cX3_turn 44 = .ok (.istore 5, 2) := by decide +kernel
theorem dX3_turn_46 : decode cX3_turn 46 = .ok (.iload 5, 2) := by decide +kernel
theorem dX3_turn_48 : decode cX3_turn 48 = .ok (.ifCond .le 12, 3) := by decide +kernel
theorem dX3_turn_51 : decode cX3_turn 51 = .ok (.iload_n 2, 1) := by decide +kernel
theorem dX3_turn_52 : decode cX3_turn 52 = .ok (.iload 5, 2) := by decide +kernel
theorem dX3_turn_54 : decode cX3_turn 54 = .ok (.invokestatic 96, 3) := by decide +kernel
theorem dX3_turn_57 : decode cX3_turn 57 = .ok (.goto 4, 3) := by decide +kernel
theorem dX3_turn_60 : decode cX3_turn 60 = .ok (.iconst 0, 1) := by decide +kernel
theorem dX3_turn_61 : decode cX3_turn 61 = .ok (.istore 6, 2) := by decide +kernel
theorem dX3_turn_63 : decode cX3_turn 63 = .ok (.iconst 0, 1) := by decide +kernel
theorem dX3_turn_64 : decode cX3_turn 64 = .ok (.istore 7, 2) := by decide +kernel
theorem dX3_turn_66 : decode cX3_turn 66 = .ok (.iload 7, 2) := by decide +kernel
theorem dX3_turn_68 : decode cX3_turn 68 = .ok (.iload 5, 2) := by decide +kernel
theorem dX3_turn_70 : decode cX3_turn 70 = .ok (.if_icmp .ge 27, 3) := by decide +kernel
theorem dX3_turn_73 : decode cX3_turn 73 = .ok (.aload_n 3, 1) := by decide +kernel
theorem dX3_turn_74 : decode cX3_turn 74 = .ok (.iload 7, 2) := by decide +kernel
theorem dX3_turn_76 : decode cX3_turn 76 = .ok (.aload_n 0, 1) := by decide +kernel
theorem dX3_turn_77 : decode cX3_turn 77 = .ok (.getfield 22, 3) := by decide +kernel
theorem dX3_turn_80 : decode cX3_turn 80 = .ok (.iload 6, 2) := by decide +kernel
theorem dX3_turn_82 : decode cX3_turn 82 = .ok (.iload 7, 2) := by decide +kernel
theorem dX3_turn_84 : decode cX3_turn 84 = .ok (.iadd, 1) := by decide +kernel
theorem dX3_turn_85 : decode cX3_turn 85 = .ok (.iload 5, 2) := by decide +kernel
theorem dX3_turn_87 : decode cX3_turn 87 = .ok (.irem, 1) := by decide +kernel
theorem dX3_turn_88 : decode cX3_turn 88 = .ok (.invokevirtual 102, 3) := by decide +kernel
theorem dX3_turn_91 : decode cX3_turn 91 = .ok (.iinc 7 1, 3) := by decide +kernel
theorem dX3_turn_94 : decode cX3_turn 94 = .ok (.goto (-28), 3) := by decide +kernel
theorem dX3_turn_97 : decode cX3_turn 97 = .ok (.aload_n 0, 1) := by decide +kernel
theorem dX3_turn_98 : decode cX3_turn 98 = .ok (.iload 5, 2) := by decide +kernel
theorem dX3_turn_100 : decode cX3_turn 100 = .ok (.invokevirtual 85, 3) := by decide +kernel
theorem dX3_turn_103 : decode cX3_turn 103 = .ok (.ireturn, 1) := by decide +kernel
set_option maxRecDepth 20000 in
theorem ggX3_spread_X3_isTray : GoodIn wsX3_spread wsX3_isTray := goodIn_r _ [6] (by decide +kernel) (by decide +kernel)
set_option maxRecDepth 20000 in
theorem gX3_spread_X3_isTray : GoodIn wsX3_spread (va_wsS RX3 39 yX3_isTray wsX3_isTray) := goodIn_app (goodIn_of _ (by decide +kernel)) ggX3_spread_X3_isTray
set_option maxRecDepth 20000 in
theorem ggX3_spread_X3_keep : GoodIn wsX3_spread wsX3_keep := goodIn_r _ [10, 11, 2, 12, 13, 14, 15, 16, 17, 18, 19, 20, 21, 22, 23, 29, 30, 31, 32, 33, 34, 35, 36, 37, 38, 39, 40] (by decide +kernel) (by decide +kernel)
set_option maxRecDepth 20000 in
theorem gX3_spread_X3_keep : GoodIn wsX3_spread (wsV RX3 77 RX3 yX3_keep wsX3_keep) := goodIn_app (goodIn_of _ (by decide +kernel)) ggX3_spread_X3_keep
set_option maxRecDepth 20000 in
theorem ggX3_spread_X0_refusal : GoodIn wsX3_spread wsX0_refusal := goodIn_r _ [16, 17, 36, 37, 38, 39, 40] (by decide +kernel) (by decide +kernel)
set_option maxRecDepth 20000 in
theorem gX3_spread_X0_refusal : GoodIn wsX3_spread (wsV RX3 46 RX0 yX0_refusal wsX0_refusal) := goodIn_app (goodIn_of _ (by decide +kernel)) ggX3_spread_X0_refusal
set_option maxRecDepth 20000 in
theorem ggX3_spread_X3_counted : GoodIn wsX3_spread wsX3_counted := goodIn_r _ [27, 28, 29, 30, 31, 32, 33, 34, 35] (by decide +kernel) (by decide +kernel)
set_option maxRecDepth 20000 in
theorem gX3_spread_X3_counted : GoodIn wsX3_spread (wsV RX3 85 RX3 yX3_counted wsX3_counted) := goodIn_app (goodIn_of _ (by decide +kernel)) ggX3_spread_X3_counted
set_option maxRecDepth 20000 in
theorem ggX3_spread_X0_copyPlace : GoodIn wsX3_spread wsX0_copyPlace := goodIn_r _ [21, 22, 23, 36, 37, 38, 39, 40] (by decide +kernel) (by decide +kernel)
set_option maxRecDepth 20000 in
theorem gX3_spread_X0_copyPlace : GoodIn wsX3_spread (wsV RX3 102 RX0 yX0_copyPlace wsX0_copyPlace) := goodIn_app (goodIn_of _ (by decide +kernel)) ggX3_spread_X0_copyPlace
theorem dX3_spread_0 : decode cX3_spread 0 = .ok (.iload_n 1, 1) := by decide +kernel
theorem dX3_spread_1 : decode cX3_spread 1 = .ok (.invokestatic 39, 3) := by decide +kernel
theorem dX3_spread_4 : decode cX3_spread 4 = .ok (.ifCond .ne 6, 3) := by decide +kernel
theorem dX3_spread_7 : decode cX3_spread 7 = .ok (.bipush (-6), 2) := by decide +kernel
theorem dX3_spread_9 : decode cX3_spread 9 = .ok (.ireturn, 1) := by decide +kernel
theorem dX3_spread_10 : decode cX3_spread 10 = .ok (.aload_n 0, 1) := by decide +kernel
theorem dX3_spread_11 : decode cX3_spread 11 = .ok (.getfield 18, 3) := by decide +kernel
theorem dX3_spread_14 : decode cX3_spread 14 = .ok (.iload_n 1, 1) := by decide +kernel
theorem dX3_spread_15 : decode cX3_spread 15 = .ok (.aaload, 1) := by decide +kernel
theorem dX3_spread_16 : decode cX3_spread 16 = .ok (.astore_n 3, 1) := by decide +kernel
theorem dX3_spread_17 : decode cX3_spread 17 = .ok (.aload_n 0, 1) := by decide +kernel
theorem dX3_spread_18 : decode cX3_spread 18 = .ok (.aload_n 3, 1) := by decide +kernel
theorem dX3_spread_19 : decode cX3_spread 19 = .ok (.invokevirtual 77, 3) := by decide +kernel
theorem dX3_spread_22 : decode cX3_spread 22 = .ok (.aload_n 3, 1) := by decide +kernel
theorem dX3_spread_23 : decode cX3_spread 23 = .ok (.invokevirtual 46, 3) := by decide +kernel
theorem dX3_spread_26 : decode cX3_spread 26 = .ok (.istore 4, 2) := by decide +kernel
theorem dX3_spread_28 : decode cX3_spread 28 = .ok (.iload 4, 2) := by decide +kernel
theorem dX3_spread_30 : decode cX3_spread 30 = .ok (.ifCond .eq 10, 3) := by decide +kernel
theorem dX3_spread_33 : decode cX3_spread 33 = .ok (.aload_n 0, 1) := by decide +kernel
theorem dX3_spread_34 : decode cX3_spread 34 = .ok (.iload 4, 2) := by decide +kernel
theorem dX3_spread_36 : decode cX3_spread 36 = .ok (.invokevirtual 85, 3) := by decide +kernel
theorem dX3_spread_39 : decode cX3_spread 39 = .ok (.ireturn, 1) := by decide +kernel
theorem dX3_spread_40 : decode cX3_spread 40 = .ok (.iload_n 2, 1) := by decide +kernel
theorem dX3_spread_41 : decode cX3_spread 41 = .ok (.iconst 1, 1) := by decide +kernel
theorem dX3_spread_42 : decode cX3_spread 42 = .ok (.if_icmp .lt 11, 3) := by decide +kernel
theorem dX3_spread_45 : decode cX3_spread 45 = .ok (.iload_n 2, 1) := by decide +kernel
theorem dX3_spread_46 : decode cX3_spread 46 = .ok (.aload_n 3, 1) := by decide +kernel
theorem dX3_spread_47 : decode cX3_spread 47 = .ok (.getfield 89, 3) := by decide +kernel
theorem dX3_spread_50 : decode cX3_spread 50 = .ok (.if_icmp .le 10, 3) := by decide +kernel
theorem dX3_spread_53 : decode cX3_spread 53 = .ok (.aload_n 0, 1) := by decide +kernel
theorem dX3_spread_54 : decode cX3_spread 54 = .ok (.bipush (-4), 2) := by decide +kernel
theorem dX3_spread_56 : decode cX3_spread 56 = .ok (.invokevirtual 85, 3) := by decide +kernel
theorem dX3_spread_59 : decode cX3_spread 59 = .ok (.ireturn, 1) := by decide +kernel
theorem dX3_spread_60 : decode cX3_spread 60 = .ok (.iload_n 2, 1) := by decide +kernel
theorem dX3_spread_61 : decode cX3_spread 61 = .ok (.istore 5, 2) := by decide +kernel
theorem dX3_spread_63 : decode cX3_spread 63 = .ok (.iload 5, 2) := by decide +kernel
theorem dX3_spread_65 : decode cX3_spread 65 = .ok (.aload_n 3, 1) := by decide +kernel
theorem dX3_spread_66 : decode cX3_spread 66 = .ok (.getfield 89, 3) := by decide +kernel
theorem dX3_spread_69 : decode cX3_spread 69 = .ok (.if_icmp .ge 23, 3) := by decide +kernel
theorem dX3_spread_72 : decode cX3_spread 72 = .ok (.aload_n 3, 1) := by decide +kernel
theorem dX3_spread_73 : decode cX3_spread 73 = .ok (.iload 5, 2) := by decide +kernel
theorem dX3_spread_75 : decode cX3_spread 75 = .ok (.aload_n 0, 1) := by decide +kernel
theorem dX3_spread_76 : decode cX3_spread 76 = .ok (.getfield 22, 3) := by decide +kernel
theorem dX3_spread_79 : decode cX3_spread 79 = .ok (.iload 5, 2) := by decide +kernel
theorem dX3_spread_81 : decode cX3_spread 81 = .ok (.iload_n 2, 1) := by decide +kernel
theorem dX3_spread_82 : decode cX3_spread 82 = .ok (.irem, 1) := by decide +kernel
theorem dX3_spread_83 : decode cX3_spread 83 = .ok (.invokevirtual 102, 3) := by decide +kernel
theorem dX3_spread_86 : decode cX3_spread 86 = .ok (.iinc 5 1, 3) := by decide +kernel
theorem dX3_spread_89 : decode cX3_spread 89 = .ok (.goto (-26), 3) := by decide +kernel
theorem dX3_spread_92 : decode cX3_spread 92 = .ok (.aload_n 0, 1) := by decide +kernel
theorem dX3_spread_93 : decode cX3_spread 93 = .ok (.aload_n 3, 1) := by decide +kernel
theorem dX3_spread_94 : decode cX3_spread 94 = .ok (.getfield 89, 3) := by decide +kernel
theorem dX3_spread_97 : decode cX3_spread 97 = .ok (.invokevirtual 85, 3) := by decide +kernel
theorem dX3_spread_100 : decode cX3_spread 100 = .ok (.ireturn, 1) := by decide +kernel
set_option maxRecDepth 20000 in
theorem ggX3_undo_X0_copyPlace : GoodIn wsX3_undo wsX0_copyPlace := goodIn_r _ [7, 8, 9, 17, 18, 19, 20, 21] (by decide +kernel) (by decide +kernel)
set_option maxRecDepth 20000 in
theorem gX3_undo_X0_copyPlace : GoodIn wsX3_undo (wsV RX3 102 RX0 yX0_copyPlace wsX0_copyPlace) := goodIn_app (goodIn_of _ (by decide +kernel)) ggX3_undo_X0_copyPlace
theorem dX3_undo_0 : decode cX3_undo 0 = .ok (.aload_n 0, 1) := by decide +kernel
theorem dX3_undo_1 : decode cX3_undo 1 = .ok (.getfield 25, 3) := by decide +kernel
theorem dX3_undo_4 : decode cX3_undo 4 = .ok (.astore_n 1, 1) := by decide +kernel
theorem dX3_undo_5 : decode cX3_undo 5 = .ok (.aload_n 0, 1) := by decide +kernel
theorem dX3_undo_6 : decode cX3_undo 6 = .ok (.aconst_null, 1) := by decide +kernel
theorem dX3_undo_7 : decode cX3_undo 7 = .ok (.putfield 25, 3) := by decide +kernel
theorem dX3_undo_10 : decode cX3_undo 10 = .ok (.aload_n 1, 1) := by decide +kernel
theorem dX3_undo_11 : decode cX3_undo 11 = .ok (.ifnonnull 5, 3) := by decide +kernel
theorem dX3_undo_14 : decode cX3_undo 14 = .ok (.iconst (-1), 1) := by decide +kernel
theorem dX3_undo_15 : decode cX3_undo 15 = .ok (.ireturn, 1) := by decide +kernel
theorem dX3_undo_16 : decode cX3_undo 16 = .ok (.iconst 0, 1) := by decide +kernel
theorem dX3_undo_17 : decode cX3_undo 17 = .ok (.istore_n 2, 1) := by decide +kernel
theorem dX3_undo_18 : decode cX3_undo 18 = .ok (.iload_n 2, 1) := by decide +kernel
theorem dX3_undo_19 : decode cX3_undo 19 = .ok (.aload_n 1, 1) := by decide +kernel
theorem dX3_undo_20 : decode cX3_undo 20 = .ok (.getfield 89, 3) := by decide +kernel
theorem dX3_undo_23 : decode cX3_undo 23 = .ok (.if_icmp .ge 19, 3) := by decide +kernel
theorem dX3_undo_26 : decode cX3_undo 26 = .ok (.aload_n 1, 1) := by decide +kernel
theorem dX3_undo_27 : decode cX3_undo 27 = .ok (.iload_n 2, 1) := by decide +kernel
theorem dX3_undo_28 : decode cX3_undo 28 = .ok (.aload_n 0, 1) := by decide +kernel
theorem dX3_undo_29 : decode cX3_undo 29 = .ok (.getfield 22, 3) := by decide +kernel
theorem dX3_undo_32 : decode cX3_undo 32 = .ok (.iload_n 2, 1) := by decide +kernel
theorem dX3_undo_33 : decode cX3_undo 33 = .ok (.invokevirtual 102, 3) := by decide +kernel
theorem dX3_undo_36 : decode cX3_undo 36 = .ok (.iinc 2 1, 3) := by decide +kernel
theorem dX3_undo_39 : decode cX3_undo 39 = .ok (.goto (-21), 3) := by decide +kernel
theorem dX3_undo_42 : decode cX3_undo 42 = .ok (.aload_n 1, 1) := by decide +kernel
theorem dX3_undo_43 : decode cX3_undo 43 = .ok (.getfield 89, 3) := by decide +kernel
theorem dX3_undo_46 : decode cX3_undo 46 = .ok (.ireturn, 1) := by decide +kernel
set_option maxRecDepth 20000 in
theorem ggX3_match_X3_isTray : GoodIn wsX3_match wsX3_isTray := goodIn_r _ [9] (by decide +kernel) (by decide +kernel)
set_option maxRecDepth 20000 in
theorem gX3_match_X3_isTray : GoodIn wsX3_match (va_wsS RX3 39 yX3_isTray wsX3_isTray) := goodIn_app (goodIn_of _ (by decide +kernel)) ggX3_match_X3_isTray
set_option maxRecDepth 20000 in
theorem ggX3_match_X3_refusalOfPair : GoodIn wsX3_match wsX3_refusalOfPair := goodIn_r _ [12, 13, 14, 15, 16, 17, 18, 32, 33, 34, 35, 36] (by decide +kernel) (by decide +kernel)
set_option maxRecDepth 20000 in
theorem gX3_match_X3_refusalOfPair : GoodIn wsX3_match (va_wsS RX3 106 yX3_refusalOfPair wsX3_refusalOfPair) := goodIn_app (goodIn_of _ (by decide +kernel)) ggX3_match_X3_refusalOfPair
set_option maxRecDepth 20000 in
theorem ggX3_match_X0_isAlike : GoodIn wsX3_match wsX0_isAlike := goodIn_r _ [22, 23, 24, 32, 33, 34, 35, 36] (by decide +kernel) (by decide +kernel)
set_option maxRecDepth 20000 in
theorem gX3_match_X0_isAlike : GoodIn wsX3_match (wsV RX3 113 RX0 yX0_isAlike wsX0_isAlike) := goodIn_app (goodIn_of _ (by decide +kernel)) ggX3_match_X0_isAlike
theorem dX3_match_0 : decode cX3_match 0 = .ok (.iload_n 1, 1) := by decide +kernel
theorem dX3_match_1 : decode cX3_match 1 = .ok (.invokestatic 39, 3) := by decide +kernel
theorem dX3_match_4 : decode cX3_match 4 = .ok (.ifCond .eq 10, 3) := by decide +kernel
theorem dX3_match_7 : decode cX3_match 7 = .ok (.iload_n 3, 1) := by decide +kernel
theorem dX3_match_8 : decode cX3_match 8 = .ok (.invokestatic 39, 3) := by decide +kernel
theorem dX3_match_11 : decode cX3_match 11 = .ok (.ifCond .ne 6, 3) := by decide +kernel
theorem dX3_match_14 : decode cX3_match 14 = .ok (.bipush (-6), 2) := by decide +kernel
theorem dX3_match_16 : decode cX3_match 16 = .ok (.ireturn, 1) := by decide +kernel
theorem dX3_match_17 : decode cX3_match 17 = .ok (.aload_n 0, 1) := by decide +kernel
theorem dX3_match_18 : decode cX3_match 18 = .ok (.getfield 18, 3) := by decide +kernel
theorem dX3_match_21 : decode cX3_match 21 = .ok (.iload_n 1, 1) := by decide +kernel
theorem dX3_match_22 : decode cX3_match 22 = .ok (.aaload, 1) := by decide +kernel
theorem dX3_match_23 : decode cX3_match 23 = .ok (.astore 6, 2) := by decide +kernel
theorem dX3_match_25 : decode cX3_match 25 = .ok (.aload_n 0, 1) := by decide +kernel
theorem dX3_match_26 : decode cX3_match 26 = .ok (.getfield 18, 3) := by decide +kernel
theorem dX3_match_29 : decode cX3_match 29 = .ok (.iload_n 3, 1) := by decide +kernel
theorem dX3_match_30 : decode cX3_match 30 = .ok (.aaload, 1) := by decide +kernel
theorem dX3_match_31 : decode cX3_match 31 = .ok (.astore 7, 2) := by decide +kernel
theorem dX3_match_33 : decode cX3_match 33 = .ok (.aload 6, 2) := by decide +kernel
theorem dX3_match_35 : decode cX3_match 35 = .ok (.aload 7, 2) := by decide +kernel
theorem dX3_match_37 : decode cX3_match 37 = .ok (.invokestatic 106, 3) := by decide +kernel
theorem dX3_match_40 : decode cX3_match 40 = .ok (.istore 8, 2) := by decide +kernel
theorem dX3_match_42 : decode cX3_match 42 = .ok (.iload 8, 2) := by decide +kernel
theorem dX3_match_44 : decode cX3_match 44 = .ok (.ifCond .eq 6, 3) := by decide +kernel
theorem dX3_match_47 : decode cX3_match 47 = .ok (.iload 8, 2) := by decide +kernel
theorem dX3_match_49 : decode cX3_match 49 = .ok (.ireturn, 1) := by decide +kernel
theorem dX3_match_50 : decode cX3_match 50 = .ok (.iload 5, 2) := by decide +kernel
theorem dX3_match_52 : decode cX3_match 52 = .ok (.ifCond .lt 31, 3) := by decide +kernel
theorem dX3_match_55 : decode cX3_match 55 = .ok (.iload_n 2, 1) := by decide +kernel
theorem dX3_match_56 : decode cX3_match 56 = .ok (.ifCond .lt 27, 3) := by decide +kernel
theorem dX3_match_59 : decode cX3_match 59 = .ok (.iload_n 2, 1) := by decide +kernel
theorem dX3_match_60 : decode cX3_match 60 = .ok (.aload 6, 2) := by decide +kernel
theorem dX3_match_62 : decode cX3_match 62 = .ok (.getfield 89, 3) := by decide +kernel
theorem dX3_match_65 : decode cX3_match 65 = .ok (.if_icmp .gt 18, 3) := by decide +kernel
theorem dX3_match_68 : decode cX3_match 68 = .ok (.iload 4, 2) := by decide +kernel
theorem dX3_match_70 : decode cX3_match 70 = .ok (.ifCond .lt 13, 3) := by decide +kernel
theorem dX3_match_73 : decode cX3_match 73 = .ok (.iload 4, 2) := by decide +kernel
theorem dX3_match_75 : decode cX3_match 75 = .ok (.aload 7, 2) := by decide +kernel
theorem dX3_match_77 : decode cX3_match 77 = .ok (.getfield 89, 3) := by decide +kernel
theorem dX3_match_80 : decode cX3_match 80 = .ok (.if_icmp .le 6, 3) := by decide +kernel
theorem dX3_match_83 : decode cX3_match 83 = .ok (.bipush (-4), 2) := by decide +kernel
theorem dX3_match_85 : decode cX3_match 85 = .ok (.ireturn, 1) := by decide +kernel
theorem dX3_match_86 : decode cX3_match 86 = .ok (.iload 5, 2) := by decide +kernel
theorem dX3_match_88 : decode cX3_match 88 = .ok (.aload 6, 2) := by decide +kernel
theorem dX3_match_90 : decode cX3_match 90 = .ok (.getfield 89, 3) := by decide +kernel
theorem dX3_match_93 : decode cX3_match 93 = .ok (.iload_n 2, 1) := by decide +kernel
theorem dX3_match_94 : decode cX3_match 94 = .ok (.isub, 1) := by decide +kernel
theorem dX3_match_95 : decode cX3_match 95 = .ok (.aload 7, 2) := by decide +kernel
theorem dX3_match_97 : decode cX3_match 97 = .ok (.getfield 89, 3) := by decide +kernel
theorem dX3_match_100 : decode cX3_match 100 = .ok (.iload 4, 2) := by decide +kernel
theorem dX3_match_102 : decode cX3_match 102 = .ok (.isub, 1) := by decide +kernel
theorem dX3_match_103 : decode cX3_match 103 = .ok (.invokestatic 110, 3) := by decide +kernel
theorem dX3_match_106 : decode cX3_match 106 = .ok (.invokestatic 110, 3) := by decide +kernel
theorem dX3_match_109 : decode cX3_match 109 = .ok (.istore 9, 2) := by decide +kernel
theorem dX3_match_111 : decode cX3_match 111 = .ok (.iconst 0, 1) := by decide +kernel
theorem dX3_match_112 : decode cX3_match 112 = .ok (.istore 10, 2) := by decide +kernel
theorem dX3_match_114 : decode cX3_match 114 = .ok (.iload 10, 2) := by decide +kernel
theorem dX3_match_116 : decode cX3_match 116 = .ok (.iload 9, 2) := by decide +kernel
theorem dX3_match_118 : decode cX3_match 118 = .ok (.if_icmp .ge 28, 3) := by decide +kernel
theorem dX3_match_121 : decode cX3_match 121 = .ok (.aload 6, 2) := by decide +kernel
theorem dX3_match_123 : decode cX3_match 123 = .ok (.iload_n 2, 1) := by decide +kernel
theorem dX3_match_124 : decode cX3_match 124 = .ok (.iload 10, 2) := by decide +kernel
theorem dX3_match_126 : decode cX3_match 126 = .ok (.iadd, 1) := by decide +kernel
theorem dX3_match_127 : decode cX3_match 127 = .ok (.aload 7, 2) := by decide +kernel
theorem dX3_match_129 : decode cX3_match 129 = .ok (.iload 4, 2) := by decide +kernel
theorem dX3_match_131 : decode cX3_match 131 = .ok (.iload 10, 2) := by decide +kernel
theorem dX3_match_133 : decode cX3_match 133 = .ok (.iadd, 1) := by decide +kernel
theorem dX3_match_134 : decode cX3_match 134 = .ok (.invokevirtual 113, 3) := by decide +kernel
theorem dX3_match_137 : decode cX3_match 137 = .ok (.ifCond .eq 9, 3) := by decide +kernel
theorem dX3_match_140 : decode cX3_match 140 = .ok (.iinc 10 1, 3) := by decide +kernel
theorem dX3_match_143 : decode cX3_match 143 = .ok (.goto (-29), 3) := by decide +kernel
theorem dX3_match_146 : decode cX3_match 146 = .ok (.iload 10, 2) := by decide +kernel
theorem dX3_match_148 : decode cX3_match 148 = .ok (.ireturn, 1) := by decide +kernel
set_option maxRecDepth 20000 in
theorem ggX3_polish_X3_isTray : GoodIn wsX3_polish wsX3_isTray := goodIn_r _ [6] (by decide +kernel) (by decide +kernel)
set_option maxRecDepth 20000 in
theorem gX3_polish_X3_isTray : GoodIn wsX3_polish (va_wsS RX3 39 yX3_isTray wsX3_isTray) := goodIn_app (goodIn_of _ (by decide +kernel)) ggX3_polish_X3_isTray
set_option maxRecDepth 20000 in
theorem ggX3_polish_X0_refusal : GoodIn wsX3_polish wsX0_refusal := goodIn_r _ [11, 12, 29, 30, 31, 32, 33] (by decide +kernel) (by decide +kernel)
set_option maxRecDepth 20000 in
theorem gX3_polish_X0_refusal : GoodIn wsX3_polish (wsV RX3 46 RX0 yX0_refusal wsX0_refusal) := goodIn_app (goodIn_of _ (by decide +kernel)) ggX3_polish_X0_refusal
set_option maxRecDepth 20000 in
theorem ggX3_polish_X0_isOfNumbers : GoodIn wsX3_polish wsX0_isOfNumbers := goodIn_r _ [16, 12, 29, 30, 31, 32, 33] (by decide +kernel) (by decide +kernel)
set_option maxRecDepth 20000 in
theorem gX3_polish_X0_isOfNumbers : GoodIn wsX3_polish (wsV RX3 65 RX0 yX0_isOfNumbers wsX0_isOfNumbers) := goodIn_app (goodIn_of _ (by decide +kernel)) ggX3_polish_X0_isOfNumbers
set_option maxRecDepth 20000 in
theorem ggX3_polish_X0_hasPlace : GoodIn wsX3_polish wsX0_hasPlace := goodIn_r _ [20, 21, 29, 30, 31, 32, 33] (by decide +kernel) (by decide +kernel)
set_option maxRecDepth 20000 in
theorem gX3_polish_X0_hasPlace : GoodIn wsX3_polish (wsV RX3 54 RX0 yX0_hasPlace wsX0_hasPlace) := goodIn_app (goodIn_of _ (by decide +kernel)) ggX3_polish_X0_hasPlace
theorem dX3_polish_0 : decode cX3_polish 0 = .ok (.iload_n 1, 1) := by decide +kernel
theorem dX3_polish_1 : decode cX3_polish 1 = .ok (.invokestatic 39, 3) := by decide +kernel
theorem dX3_polish_4 : decode cX3_polish 4 = .ok (.ifCond .ne 6, 3) := by decide +kernel
theorem dX3_polish_7 : decode cX3_polish 7 = .ok (.bipush (-6), 2) := by decide +kernel
theorem dX3_polish_9 : decode cX3_polish 9 = .ok (.ireturn, 1) := by decide +kernel
theorem dX3_polish_10 : decode cX3_polish 10 = .ok (.aload_n 0, 1) := by decide +kernel
theorem dX3_polish_11 : decode cX3_polish 11 = .ok (.getfield 18, 3) := by decide +kernel
theorem dX3_polish_14 : decode cX3_polish 14 = .ok (.iload_n 1, 1) := by decide +kernel
theorem dX3_polish_15 : decode cX3_polish 15 = .ok (.aaload, 1) := by decide +kernel
theorem dX3_polish_16 : decode cX3_polish 16 = .ok (.astore 4, 2) := by decide +kernel
theorem dX3_polish_18 : decode cX3_polish 18 = .ok (.aload 4, 2) := by decide +kernel
theorem dX3_polish_20 : decode cX3_polish 20 = .ok (.invokevirtual 46, 3) := by decide +kernel
theorem dX3_polish_23 : decode cX3_polish 23 = .ok (.istore 5, 2) := by decide +kernel
theorem dX3_polish_25 : decode cX3_polish 25 = .ok (.iload 5, 2) := by decide +kernel
theorem dX3_polish_27 : decode cX3_polish 27 = .ok (.ifCond .eq 6, 3) := by decide +kernel
theorem dX3_polish_30 : decode cX3_polish 30 = .ok (.iload 5, 2) := by decide +kernel
theorem dX3_polish_32 : decode cX3_polish 32 = .ok (.ireturn, 1) := by decide +kernel
theorem dX3_polish_33 : decode cX3_polish 33 = .ok (.aload 4, 2) := by decide +kernel
theorem dX3_polish_35 : decode cX3_polish 35 = .ok (.invokevirtual 65, 3) := by decide +kernel
theorem dX3_polish_38 : decode cX3_polish 38 = .ok (.ifCond .ne 13, 3) := by decide +kernel
theorem dX3_polish_41 : decode cX3_polish 41 = .ok (.aload 4, 2) := by decide +kernel
theorem dX3_polish_43 : decode cX3_polish 43 = .ok (.getfield 43, 3) := by decide +kernel
theorem dX3_polish_46 : decode cX3_polish 46 = .ok (.bipush 13, 2) := by decide +kernel
theorem dX3_polish_48 : decode cX3_polish 48 = .ok (.if_icmp .ne 6, 3) := by decide +kernel
theorem dX3_polish_51 : decode cX3_polish 51 = .ok (.bipush (-3), 2) := by decide +kernel
theorem dX3_polish_53 : decode cX3_polish 53 = .ok (.ireturn, 1) := by decide +kernel
theorem dX3_polish_54 : decode cX3_polish 54 = .ok (.aload 4, 2) := by decide +kernel
theorem dX3_polish_56 : decode cX3_polish 56 = .ok (.iload_n 2, 1) := by decide +kernel
theorem dX3_polish_57 : decode cX3_polish 57 = .ok (.invokevirtual 54, 3) := by decide +kernel
theorem dX3_polish_60 : decode cX3_polish 60 = .ok (.ifCond .ne 6, 3) := by decide +kernel
theorem dX3_polish_63 : decode cX3_polish 63 = .ok (.bipush (-4), 2) := by decide +kernel
theorem dX3_polish_65 : decode cX3_polish 65 = .ok (.ireturn, 1) := by decide +kernel
theorem dX3_polish_66 : decode cX3_polish 66 = .ok (.aload 4, 2) := by decide +kernel
theorem dX3_polish_68 : decode cX3_polish 68 = .ok (.getfield 73, 3) := by decide +kernel
theorem dX3_polish_71 : decode cX3_polish 71 = .ok (.iload_n 2, 1) := by decide +kernel
theorem dX3_polish_72 : decode cX3_polish 72 = .ok (.aaload, 1) := by decide +kernel
theorem dX3_polish_73 : decode cX3_polish 73 = .ok (.astore 7, 2) := by decide +kernel
theorem dX3_polish_75 : decode cX3_polish 75 = .ok (.aload 7, 2) := by decide +kernel
theorem dX3_polish_77 : decode cX3_polish 77 = .ok (.instanceof 117, 3) := by decide +kernel
theorem dX3_polish_80 : decode cX3_polish 80 = .ok (.ifCond .eq 27, 3) := by decide +kernel
theorem dX3_polish_83 : decode cX3_polish 83 = .ok (.aload 7, 2) := by decide +kernel
theorem dX3_polish_85 : decode cX3_polish 85 = .ok (.checkcast 117, 3) := by decide +kernel
theorem dX3_polish_88 : decode cX3_polish 88 = .ok (.astore 6, 2) := by decide +kernel
theorem dX3_polish_90 : decode cX3_polish 90 = .ok (.aload 6, 2) := by decide +kernel
theorem dX3_polish_92 : decode cX3_polish 92 = .ok (.dup, 1) := by decide +kernel
theorem dX3_polish_93 : decode cX3_polish 93 = .ok (.getfield 119, 3) := by decide +kernel
theorem dX3_polish_96 : decode cX3_polish 96 = .ok (.iload_n 3, 1) := by decide +kernel
theorem dX3_polish_97 : decode cX3_polish 97 = .ok (.iadd, 1) := by decide +kernel
theorem dX3_polish_98 : decode cX3_polish 98 = .ok (.putfield 119, 3) := by decide +kernel
theorem dX3_polish_101 : decode cX3_polish 101 = .ok (.aload 6, 2) := by decide +kernel
theorem dX3_polish_103 : decode cX3_polish 103 = .ok (.getfield 122, 3) := by decide +kernel
theorem dX3_polish_106 : decode cX3_polish 106 = .ok (.ireturn, 1) := by decide +kernel
theorem dX3_polish_107 : decode cX3_polish 107 = .ok (.iconst (-1), 1) := by decide +kernel
theorem dX3_polish_108 : decode cX3_polish 108 = .ok (.ireturn, 1) := by decide +kernel
set_option maxRecDepth 20000 in
theorem ggX3_tray_X3_isTray : GoodIn wsX3_tray wsX3_isTray := goodIn_r _ [5] (by decide +kernel) (by decide +kernel)
set_option maxRecDepth 20000 in
theorem gX3_tray_X3_isTray : GoodIn wsX3_tray (va_wsS RX3 39 yX3_isTray wsX3_isTray) := goodIn_app (goodIn_of _ (by decide +kernel)) ggX3_tray_X3_isTray
theorem dX3_tray_0 : decode cX3_tray 0 = .ok (.iload_n 1, 1) := by decide +kernel
theorem dX3_tray_1 : decode cX3_tray 1 = .ok (.invokestatic 39, 3) := by decide +kernel
theorem dX3_tray_4 : decode cX3_tray 4 = .ok (.ifCond .eq 12, 3) := by decide +kernel
theorem dX3_tray_7 : decode cX3_tray 7 = .ok (.iload_n 2, 1) := by decide +kernel
theorem dX3_tray_8 : decode cX3_tray 8 = .ok (.ifCond .lt 8, 3) := by decide +kernel
theorem dX3_tray_11 : decode cX3_tray 11 = .ok (.iload_n 2, 1) := by decide +kernel
theorem dX3_tray_12 : decode cX3_tray 12 = .ok (.iconst 1, 1) := by decide +kernel
theorem dX3_tray_13 : decode cX3_tray 13 = .ok (.if_icmp .le 6, 3) := by decide +kernel
theorem dX3_tray_16 : decode cX3_tray 16 = .ok (.bipush (-6), 2) := by decide +kernel
theorem dX3_tray_18 : decode cX3_tray 18 = .ok (.ireturn, 1) := by decide +kernel
theorem dX3_tray_19 : decode cX3_tray 19 = .ok (.aload_n 0, 1) := by decide +kernel
theorem dX3_tray_20 : decode cX3_tray 20 = .ok (.getfield 18, 3) := by decide +kernel
theorem dX3_tray_23 : decode cX3_tray 23 = .ok (.iload_n 1, 1) := by decide +kernel
theorem dX3_tray_24 : decode cX3_tray 24 = .ok (.aaload, 1) := by decide +kernel
theorem dX3_tray_25 : decode cX3_tray 25 = .ok (.astore_n 3, 1) := by decide +kernel
theorem dX3_tray_26 : decode cX3_tray 26 = .ok (.iload_n 2, 1) := by decide +kernel
theorem dX3_tray_27 : decode cX3_tray 27 = .ok (.ifCond .ne 8, 3) := by decide +kernel
theorem dX3_tray_30 : decode cX3_tray 30 = .ok (.aload_n 3, 1) := by decide +kernel
theorem dX3_tray_31 : decode cX3_tray 31 = .ok (.getfield 43, 3) := by decide +kernel
theorem dX3_tray_34 : decode cX3_tray 34 = .ok (.ireturn, 1) := by decide +kernel
theorem dX3_tray_35 : decode cX3_tray 35 = .ok (.aload_n 3, 1) := by decide +kernel
theorem dX3_tray_36 : decode cX3_tray 36 = .ok (.getfield 43, 3) := by decide +kernel
theorem dX3_tray_39 : decode cX3_tray 39 = .ok (.iconst 1, 1) := by decide +kernel
theorem dX3_tray_40 : decode cX3_tray 40 = .ok (.if_icmp .ne 10, 3) := by decide +kernel
theorem dX3_tray_43 : decode cX3_tray 43 = .ok (.aload_n 3, 1) := by decide +kernel
theorem dX3_tray_44 : decode cX3_tray 44 = .ok (.getfield 125, 3) := by decide +kernel
theorem dX3_tray_47 : decode cX3_tray 47 = .ok (.goto 7, 3) := by decide +kernel
theorem dX3_tray_50 : decode cX3_tray 50 = .ok (.aload_n 3, 1) := by decide +kernel
theorem dX3_tray_51 : decode cX3_tray 51 = .ok (.getfield 89, 3) := by decide +kernel
theorem dX3_tray_54 : decode cX3_tray 54 = .ok (.ireturn, 1) := by decide +kernel
set_option maxRecDepth 20000 in
theorem ggX3_what_X3_isTray : GoodIn wsX3_what wsX3_isTray := goodIn_r _ [5] (by decide +kernel) (by decide +kernel)
set_option maxRecDepth 20000 in
theorem gX3_what_X3_isTray : GoodIn wsX3_what (va_wsS RX3 39 yX3_isTray wsX3_isTray) := goodIn_app (goodIn_of _ (by decide +kernel)) ggX3_what_X3_isTray
set_option maxRecDepth 20000 in
theorem ggX3_what_X0_refusal : GoodIn wsX3_what wsX0_refusal := goodIn_r _ [10, 11, 38, 39, 40, 41, 42] (by decide +kernel) (by decide +kernel)
set_option maxRecDepth 20000 in
theorem gX3_what_X0_refusal : GoodIn wsX3_what (wsV RX3 46 RX0 yX0_refusal wsX0_refusal) := goodIn_app (goodIn_of _ (by decide +kernel)) ggX3_what_X0_refusal
set_option maxRecDepth 20000 in
theorem ggX3_what_X0_hasPlace : GoodIn wsX3_what wsX0_hasPlace := goodIn_r _ [15, 16, 38, 39, 40, 41, 42] (by decide +kernel) (by decide +kernel)
set_option maxRecDepth 20000 in
theorem gX3_what_X0_hasPlace : GoodIn wsX3_what (wsV RX3 54 RX0 yX0_hasPlace wsX0_hasPlace) := goodIn_app (goodIn_of _ (by decide +kernel)) ggX3_what_X0_hasPlace
set_option maxRecDepth 20000 in
theorem ggX3_what_X0_isOfNumbers : GoodIn wsX3_what wsX0_isOfNumbers := goodIn_r _ [20, 11, 38, 39, 40, 41, 42] (by decide +kernel) (by decide +kernel)
set_option maxRecDepth 20000 in
theorem gX3_what_X0_isOfNumbers : GoodIn wsX3_what (wsV RX3 65 RX0 yX0_isOfNumbers wsX0_isOfNumbers) := goodIn_app (goodIn_of _ (by decide +kernel)) ggX3_what_X0_isOfNumbers
set_option maxRecDepth 20000 in
theorem ggX3_what_X0_sortOfThing : GoodIn wsX3_what wsX0_sortOfThing := goodIn_r _ [25] (by decide +kernel) (by decide +kernel)
set_option maxRecDepth 20000 in
theorem gX3_what_X0_sortOfThing_u128X0 : GoodIn wsX3_what (va_wsU RX3 128 RX0 "BeadBench$Thing" ⟨"BeadBench$Thing", "sortOfThing", "()I"⟩ yX0_sortOfThing wsX0_sortOfThing) := goodIn_app (goodIn_of _ (by decide +kernel)) ggX3_what_X0_sortOfThing
set_option maxRecDepth 20000 in
theorem ggX3_what_X1_sortOfThing : GoodIn wsX3_what wsX1_sortOfThing := goodIn_r _ [29, 30, 43, 44, 45] (by decide +kernel) (by decide +kernel)
set_option maxRecDepth 20000 in
theorem gX3_what_X1_sortOfThing_u128X1 : GoodIn wsX3_what (va_wsU RX3 128 RX1 "BeadBench$Thing" ⟨"BeadBench$Thing", "sortOfThing", "()I"⟩ yX1_sortOfThing wsX1_sortOfThing) := goodIn_app (goodIn_of _ (by decide +kernel)) ggX3_what_X1_sortOfThing
theorem dX3_what_0 : decode cX3_what 0 = .ok (.iload_n 1, 1) := by decide +kernel
theorem dX3_what_1 : decode cX3_what 1 = .ok (.invokestatic 39, 3) := by decide +kernel
theorem dX3_what_4 : decode cX3_what 4 = .ok (.ifCond .ne 6, 3) := by decide +kernel
theorem dX3_what_7 : decode cX3_what 7 = .ok (.bipush (-6), 2) := by decide +kernel
theorem dX3_what_9 : decode cX3_what 9 = .ok (.ireturn, 1) := by decide +kernel
theorem dX3_what_10 : decode cX3_what 10 = .ok (.aload_n 0, 1) := by decide +kernel
theorem dX3_what_11 : decode cX3_what 11 = .ok (.getfield 18, 3) := by decide +kernel
theorem dX3_what_14 : decode cX3_what 14 = .ok (.iload_n 1, 1) := by decide +kernel
theorem dX3_what_15 : decode cX3_what 15 = .ok (.aaload, 1) := by decide +kernel
theorem dX3_what_16 : decode cX3_what 16 = .ok (.astore_n 3, 1) := by decide +kernel
theorem dX3_what_17 : decode cX3_what 17 = .ok (.aload_n 3, 1) := by decide +kernel
theorem dX3_what_18 : decode cX3_what 18 = .ok (.invokevirtual 46, 3) := by decide +kernel
theorem dX3_what_21 : decode cX3_what 21 = .ok (.istore 4, 2) := by decide +kernel
theorem dX3_what_23 : decode cX3_what 23 = .ok (.iload 4, 2) := by decide +kernel
theorem dX3_what_25 : decode cX3_what 25 = .ok (.ifCond .eq 6, 3) := by decide +kernel
theorem dX3_what_28 : decode cX3_what 28 = .ok (.iload 4, 2) := by decide +kernel
theorem dX3_what_30 : decode cX3_what 30 = .ok (.ireturn, 1) := by decide +kernel
theorem dX3_what_31 : decode cX3_what 31 = .ok (.aload_n 3, 1) := by decide +kernel
theorem dX3_what_32 : decode cX3_what 32 = .ok (.iload_n 2, 1) := by decide +kernel
theorem dX3_what_33 : decode cX3_what 33 = .ok (.invokevirtual 54, 3) := by decide +kernel
theorem dX3_what_36 : decode cX3_what 36 = .ok (.ifCond .ne 6, 3) := by decide +kernel
theorem dX3_what_39 : decode cX3_what 39 = .ok (.bipush (-4), 2) := by decide +kernel
theorem dX3_what_41 : decode cX3_what 41 = .ok (.ireturn, 1) := by decide +kernel
theorem dX3_what_42 : decode cX3_what 42 = .ok (.aload_n 3, 1) := by decide +kernel
theorem dX3_what_43 : decode cX3_what 43 = .ok (.invokevirtual 65, 3) := by decide +kernel
theorem dX3_what_46 : decode cX3_what 46 = .ok (.ifCond .eq 5, 3) := by decide +kernel
theorem dX3_what_49 : decode cX3_what 49 = .ok (.iconst 1, 1) := by decide +kernel
theorem dX3_what_50 : decode cX3_what 50 = .ok (.ireturn, 1) := by decide +kernel
theorem dX3_what_51 : decode cX3_what 51 = .ok (.aload_n 3, 1) := by decide +kernel
theorem dX3_what_52 : decode cX3_what 52 = .ok (.getfield 73, 3) := by decide +kernel
theorem dX3_what_55 : decode cX3_what 55 = .ok (.iload_n 2, 1) := by decide +kernel
theorem dX3_what_56 : decode cX3_what 56 = .ok (.aaload, 1) := by decide +kernel
theorem dX3_what_57 : decode cX3_what 57 = .ok (.astore 5, 2) := by decide +kernel
theorem dX3_what_59 : decode cX3_what 59 = .ok (.aload 5, 2) := by decide +kernel
theorem dX3_what_61 : decode cX3_what 61 = .ok (.ifnonnull 7, 3) := by decide +kernel
theorem dX3_what_64 : decode cX3_what 64 = .ok (.iconst 0, 1) := by decide +kernel
theorem dX3_what_65 : decode cX3_what 65 = .ok (.goto 8, 3) := by decide +kernel
theorem dX3_what_68 : decode cX3_what 68 = .ok (.aload 5, 2) := by decide +kernel
theorem dX3_what_70 : decode cX3_what 70 = .ok (.invokevirtual 128, 3) := by decide +kernel
theorem dX3_what_73 : decode cX3_what 73 = .ok (.ireturn, 1) := by decide +kernel
set_option maxRecDepth 20000 in
theorem ggX3_at_X3_isTray : GoodIn wsX3_at wsX3_isTray := goodIn_r _ [5] (by decide +kernel) (by decide +kernel)
set_option maxRecDepth 20000 in
theorem gX3_at_X3_isTray : GoodIn wsX3_at (va_wsS RX3 39 yX3_isTray wsX3_isTray) := goodIn_app (goodIn_of _ (by decide +kernel)) ggX3_at_X3_isTray
set_option maxRecDepth 20000 in
theorem ggX3_at_X0_hasPlace : GoodIn wsX3_at wsX0_hasPlace := goodIn_r _ [10, 11, 29, 30, 31, 32, 33] (by decide +kernel) (by decide +kernel)
set_option maxRecDepth 20000 in
theorem gX3_at_X0_hasPlace : GoodIn wsX3_at (wsV RX3 54 RX0 yX0_hasPlace wsX0_hasPlace) := goodIn_app (goodIn_of _ (by decide +kernel)) ggX3_at_X0_hasPlace
set_option maxRecDepth 20000 in
theorem ggX3_at_X0_count : GoodIn wsX3_at wsX0_count := goodIn_r _ [16, 11, 29, 30, 31, 32, 33] (by decide +kernel) (by decide +kernel)
set_option maxRecDepth 20000 in
theorem gX3_at_X0_count_u133X0 : GoodIn wsX3_at (va_wsU RX3 133 RX0 "BeadBench$Thing" ⟨"BeadBench$Thing", "count", "()I"⟩ yX0_count wsX0_count) := goodIn_app (goodIn_of _ (by decide +kernel)) ggX3_at_X0_count
set_option maxRecDepth 20000 in
theorem ggX3_at_X1_count : GoodIn wsX3_at wsX1_count := goodIn_r _ [20, 21, 34, 35, 36] (by decide +kernel) (by decide +kernel)
set_option maxRecDepth 20000 in
theorem gX3_at_X1_count_u133X1 : GoodIn wsX3_at (va_wsU RX3 133 RX1 "BeadBench$Thing" ⟨"BeadBench$Thing", "count", "()I"⟩ yX1_count wsX1_count) := goodIn_app (goodIn_of _ (by decide +kernel)) ggX3_at_X1_count
theorem dX3_at_0 : decode cX3_at 0 = .ok (.iload_n 1, 1) := by decide +kernel
theorem dX3_at_1 : decode cX3_at 1 = .ok (.invokestatic 39, 3) := by decide +kernel
theorem dX3_at_4 : decode cX3_at 4 = .ok (.ifCond .eq 16, 3) := by decide +kernel
theorem dX3_at_7 : decode cX3_at 7 = .ok (.aload_n 0, 1) := by decide +kernel
theorem dX3_at_8 : decode cX3_at 8 = .ok (.getfield 18, 3) := by decide +kernel
theorem dX3_at_11 : decode cX3_at 11 = .ok (.iload_n 1, 1) := by decide +kernel
theorem dX3_at_12 : decode cX3_at 12 = .ok (.aaload, 1) := by decide +kernel
theorem dX3_at_13 : decode cX3_at 13 = .ok (.iload_n 2, 1) := by decide +kernel
theorem dX3_at_14 : decode cX3_at 14 = .ok (.invokevirtual 54, 3) := by decide +kernel
theorem dX3_at_17 : decode cX3_at 17 = .ok (.ifCond .ne 5, 3) := by decide +kernel
theorem dX3_at_20 : decode cX3_at 20 = .ok (.lconst 0, 1) := by decide +kernel
theorem dX3_at_21 : decode cX3_at 21 = .ok (.lreturn, 1) := by decide +kernel
theorem dX3_at_22 : decode cX3_at 22 = .ok (.aload_n 0, 1) := by decide +kernel
theorem dX3_at_23 : decode cX3_at 23 = .ok (.getfield 18, 3) := by decide +kernel
theorem dX3_at_26 : decode cX3_at 26 = .ok (.iload_n 1, 1) := by decide +kernel
theorem dX3_at_27 : decode cX3_at 27 = .ok (.aaload, 1) := by decide +kernel
theorem dX3_at_28 : decode cX3_at 28 = .ok (.astore_n 3, 1) := by decide +kernel
theorem dX3_at_29 : decode cX3_at 29 = .ok (.aload_n 3, 1) := by decide +kernel
theorem dX3_at_30 : decode cX3_at 30 = .ok (.getfield 73, 3) := by decide +kernel
theorem dX3_at_33 : decode cX3_at 33 = .ok (.iload_n 2, 1) := by decide +kernel
theorem dX3_at_34 : decode cX3_at 34 = .ok (.aaload, 1) := by decide +kernel
theorem dX3_at_35 : decode cX3_at 35 = .ok (.astore 4, 2) := by decide +kernel
theorem dX3_at_37 : decode cX3_at 37 = .ok (.aload 4, 2) := by decide +kernel
theorem dX3_at_39 : decode cX3_at 39 = .ok (.ifnonnull 12, 3) := by decide +kernel
theorem dX3_at_42 : decode cX3_at 42 = .ok (.aload_n 3, 1) := by decide +kernel
theorem dX3_at_43 : decode cX3_at 43 = .ok (.getfield 61, 3) := by decide +kernel
theorem dX3_at_46 : decode cX3_at 46 = .ok (.iload_n 2, 1) := by decide +kernel
theorem dX3_at_47 : decode cX3_at 47 = .ok (.laload, 1) := by decide +kernel
theorem dX3_at_48 : decode cX3_at 48 = .ok (.goto 9, 3) := by decide +kernel
theorem dX3_at_51 : decode cX3_at 51 = .ok (.aload 4, 2) := by decide +kernel
theorem dX3_at_53 : decode cX3_at 53 = .ok (.invokevirtual 133, 3) := by decide +kernel
theorem dX3_at_56 : decode cX3_at 56 = .ok (.i2l, 1) := by decide +kernel
theorem dX3_at_57 : decode cX3_at 57 = .ok (.lreturn, 1) := by decide +kernel
set_option maxRecDepth 20000 in
theorem ggX3_polished_X3_isTray : GoodIn wsX3_polished wsX3_isTray := goodIn_r _ [5] (by decide +kernel) (by decide +kernel)
set_option maxRecDepth 20000 in
theorem gX3_polished_X3_isTray : GoodIn wsX3_polished (va_wsS RX3 39 yX3_isTray wsX3_isTray) := goodIn_app (goodIn_of _ (by decide +kernel)) ggX3_polished_X3_isTray
set_option maxRecDepth 20000 in
theorem ggX3_polished_X0_hasPlace : GoodIn wsX3_polished wsX0_hasPlace := goodIn_r _ [10, 11, 30, 31, 32, 33, 34] (by decide +kernel) (by decide +kernel)
set_option maxRecDepth 20000 in
theorem gX3_polished_X0_hasPlace : GoodIn wsX3_polished (wsV RX3 54 RX0 yX0_hasPlace wsX0_hasPlace) := goodIn_app (goodIn_of _ (by decide +kernel)) ggX3_polished_X0_hasPlace
set_option maxRecDepth 20000 in
theorem ggX3_polished_X0_shine : GoodIn wsX3_polished wsX0_shine := goodIn_r _ [16, 11, 17, 30, 31, 32, 33, 34] (by decide +kernel) (by decide +kernel)
set_option maxRecDepth 20000 in
theorem gX3_polished_X0_shine_u136X0 : GoodIn wsX3_polished (va_wsU RX3 136 RX0 "BeadBench$Thing" ⟨"BeadBench$Thing", "shine", "()I"⟩ yX0_shine wsX0_shine) := goodIn_app (goodIn_of _ (by decide +kernel)) ggX3_polished_X0_shine
set_option maxRecDepth 20000 in
theorem ggX3_polished_X1_shine : GoodIn wsX3_polished wsX1_shine := goodIn_r _ [21, 22, 35, 36, 37] (by decide +kernel) (by decide +kernel)
set_option maxRecDepth 20000 in
theorem gX3_polished_X1_shine_u136X1 : GoodIn wsX3_polished (va_wsU RX3 136 RX1 "BeadBench$Thing" ⟨"BeadBench$Thing", "shine", "()I"⟩ yX1_shine wsX1_shine) := goodIn_app (goodIn_of _ (by decide +kernel)) ggX3_polished_X1_shine
theorem dX3_polished_0 : decode cX3_polished 0 = .ok (.iload_n 1, 1) := by decide +kernel
theorem dX3_polished_1 : decode cX3_polished 1 = .ok (.invokestatic 39, 3) := by decide +kernel
theorem dX3_polished_4 : decode cX3_polished 4 = .ok (.ifCond .eq 16, 3) := by decide +kernel
theorem dX3_polished_7 : decode cX3_polished 7 = .ok (.aload_n 0, 1) := by decide +kernel
theorem dX3_polished_8 : decode cX3_polished 8 = .ok (.getfield 18, 3) := by decide +kernel
theorem dX3_polished_11 : decode cX3_polished 11 = .ok (.iload_n 1, 1) := by decide +kernel
theorem dX3_polished_12 : decode cX3_polished 12 = .ok (.aaload, 1) := by decide +kernel
theorem dX3_polished_13 : decode cX3_polished 13 = .ok (.iload_n 2, 1) := by decide +kernel
theorem dX3_polished_14 : decode cX3_polished 14 = .ok (.invokevirtual 54, 3) := by decide +kernel
theorem dX3_polished_17 : decode cX3_polished 17 = .ok (.ifCond .ne 5, 3) := by decide +kernel
theorem dX3_polished_20 : decode cX3_polished 20 = .ok (.iconst 0, 1) := by decide +kernel
theorem dX3_polished_21 : decode cX3_polished 21 = .ok (.ireturn, 1) := by decide +kernel
theorem dX3_polished_22 : decode cX3_polished 22 = .ok (.aload_n 0, 1) := by decide +kernel
theorem dX3_polished_23 : decode cX3_polished 23 = .ok (.getfield 18, 3) := by decide +kernel
theorem dX3_polished_26 : decode cX3_polished 26 = .ok (.iload_n 1, 1) := by decide +kernel
theorem dX3_polished_27 : decode cX3_polished 27 = .ok (.aaload, 1) := by decide +kernel
theorem dX3_polished_28 : decode cX3_polished 28 = .ok (.getfield 73, 3) := by decide +kernel
theorem dX3_polished_31 : decode cX3_polished 31 = .ok (.iload_n 2, 1) := by decide +kernel
theorem dX3_polished_32 : decode cX3_polished 32 = .ok (.aaload, 1) := by decide +kernel
theorem dX3_polished_33 : decode cX3_polished 33 = .ok (.astore_n 3, 1) := by decide +kernel
theorem dX3_polished_34 : decode cX3_polished 34 = .ok (.aload_n 3, 1) := by decide +kernel
theorem dX3_polished_35 : decode cX3_polished 35 = .ok (.ifnonnull 7, 3) := by decide +kernel
theorem dX3_polished_38 : decode cX3_polished 38 = .ok (.iconst 0, 1) := by decide +kernel
theorem dX3_polished_39 : decode cX3_polished 39 = .ok (.goto 7, 3) := by decide +kernel
theorem dX3_polished_42 : decode cX3_polished 42 = .ok (.aload_n 3, 1) := by decide +kernel
theorem dX3_polished_43 : decode cX3_polished 43 = .ok (.invokevirtual 136, 3) := by decide +kernel
theorem dX3_polished_46 : decode cX3_polished 46 = .ok (.ireturn, 1) := by decide +kernel
theorem dX3_told_0 : decode cX3_told 0 = .ok (.iload_n 1, 1) := by decide +kernel
theorem dX3_told_1 : decode cX3_told 1 = .ok (.ifCond .ne 8, 3) := by decide +kernel
theorem dX3_told_4 : decode cX3_told 4 = .ok (.aload_n 0, 1) := by decide +kernel
theorem dX3_told_5 : decode cX3_told 5 = .ok (.getfield 32, 3) := by decide +kernel
theorem dX3_told_8 : decode cX3_told 8 = .ok (.ireturn, 1) := by decide +kernel
theorem dX3_told_9 : decode cX3_told 9 = .ok (.iload_n 1, 1) := by decide +kernel
theorem dX3_told_10 : decode cX3_told 10 = .ok (.iconst 1, 1) := by decide +kernel
theorem dX3_told_11 : decode cX3_told 11 = .ok (.if_icmp .lt 21, 3) := by decide +kernel
theorem dX3_told_14 : decode cX3_told 14 = .ok (.iload_n 1, 1) := by decide +kernel
theorem dX3_told_15 : decode cX3_told 15 = .ok (.aload_n 0, 1) := by decide +kernel
theorem dX3_told_16 : decode cX3_told 16 = .ok (.getfield 28, 3) := by decide +kernel
theorem dX3_told_19 : decode cX3_told 19 = .ok (.arraylength, 1) := by decide +kernel
theorem dX3_told_20 : decode cX3_told 20 = .ok (.if_icmp .gt 12, 3) := by decide +kernel
theorem dX3_told_23 : decode cX3_told 23 = .ok (.aload_n 0, 1) := by decide +kernel
theorem dX3_told_24 : decode cX3_told 24 = .ok (.getfield 28, 3) := by decide +kernel
theorem dX3_told_27 : decode cX3_told 27 = .ok (.iload_n 1, 1) := by decide +kernel
theorem dX3_told_28 : decode cX3_told 28 = .ok (.iconst 1, 1) := by decide +kernel
theorem dX3_told_29 : decode cX3_told 29 = .ok (.isub, 1) := by decide +kernel
theorem dX3_told_30 : decode cX3_told 30 = .ok (.iaload, 1) := by decide +kernel
theorem dX3_told_31 : decode cX3_told 31 = .ok (.ireturn, 1) := by decide +kernel
theorem dX3_told_32 : decode cX3_told 32 = .ok (.iload_n 1, 1) := by decide +kernel
theorem dX3_told_33 : decode cX3_told 33 = .ok (.bipush 7, 2) := by decide +kernel
theorem dX3_told_35 : decode cX3_told 35 = .ok (.if_icmp .ne 10, 3) := by decide +kernel
theorem dX3_told_38 : decode cX3_told 38 = .ok (.aload_n 0, 1) := by decide +kernel
theorem dX3_told_39 : decode cX3_told 39 = .ok (.getfield 36, 3) := by decide +kernel
theorem dX3_told_42 : decode cX3_told 42 = .ok (.goto 5, 3) := by decide +kernel
theorem dX3_told_45 : decode cX3_told 45 = .ok (.bipush (-6), 2) := by decide +kernel
theorem dX3_told_47 : decode cX3_told 47 = .ok (.ireturn, 1) := by decide +kernel
theorem dX3_isTray_0 : decode cX3_isTray 0 = .ok (.iload_n 0, 1) := by decide +kernel
theorem dX3_isTray_1 : decode cX3_isTray 1 = .ok (.ifCond .lt 13, 3) := by decide +kernel
theorem dX3_isTray_4 : decode cX3_isTray 4 = .ok (.iload_n 0, 1) := by decide +kernel
theorem dX3_isTray_5 : decode cX3_isTray 5 = .ok (.bipush 12, 2) := by decide +kernel
theorem dX3_isTray_7 : decode cX3_isTray 7 = .ok (.if_icmp .ge 7, 3) := by decide +kernel
theorem dX3_isTray_10 : decode cX3_isTray 10 = .ok (.iconst 1, 1) := by decide +kernel
theorem dX3_isTray_11 : decode cX3_isTray 11 = .ok (.goto 4, 3) := by decide +kernel
theorem dX3_isTray_14 : decode cX3_isTray 14 = .ok (.iconst 0, 1) := by decide +kernel
theorem dX3_isTray_15 : decode cX3_isTray 15 = .ok (.ireturn, 1) := by decide +kernel
set_option maxRecDepth 20000 in
theorem ggX3_keep_X0_refusal : GoodIn wsX3_keep wsX0_refusal := goodIn_r _ [7, 8, 22, 23, 24, 25, 26] (by decide +kernel) (by decide +kernel)
set_option maxRecDepth 20000 in
theorem gX3_keep_X0_refusal : GoodIn wsX3_keep (wsV RX3 46 RX0 yX0_refusal wsX0_refusal) := goodIn_app (goodIn_of _ (by decide +kernel)) ggX3_keep_X0_refusal
set_option maxRecDepth 20000 in
theorem ggX3_keep_X0_copyPlace : GoodIn wsX3_keep wsX0_copyPlace := goodIn_r _ [12, 13, 14, 22, 23, 24, 25, 26] (by decide +kernel) (by decide +kernel)
set_option maxRecDepth 20000 in
theorem gX3_keep_X0_copyPlace : GoodIn wsX3_keep (wsV RX3 102 RX0 yX0_copyPlace wsX0_copyPlace) := goodIn_app (goodIn_of _ (by decide +kernel)) ggX3_keep_X0_copyPlace
theorem dX3_keep_0 : decode cX3_keep 0 = .ok (.aload_n 0, 1) := by decide +kernel
theorem dX3_keep_1 : decode cX3_keep 1 = .ok (.aload_n 1, 1) := by decide +kernel
theorem dX3_keep_2 : decode cX3_keep 2 = .ok (.invokevirtual 46, 3) := by decide +kernel
theorem dX3_keep_5 : decode cX3_keep 5 = .ok (.ifCond .ne 7, 3) := by decide +kernel
theorem dX3_keep_8 : decode cX3_keep 8 = .ok (.aload_n 1, 1) := by decide +kernel
theorem dX3_keep_9 : decode cX3_keep 9 = .ok (.goto 4, 3) := by decide +kernel
theorem dX3_keep_12 : decode cX3_keep 12 = .ok (.aconst_null, 1) := by decide +kernel
theorem dX3_keep_13 : decode cX3_keep 13 = .ok (.putfield 25, 3) := by decide +kernel
theorem dX3_keep_16 : decode cX3_keep 16 = .ok (.iconst 0, 1) := by decide +kernel
theorem dX3_keep_17 : decode cX3_keep 17 = .ok (.istore_n 2, 1) := by decide +kernel
theorem dX3_keep_18 : decode cX3_keep 18 = .ok (.iload_n 2, 1) := by decide +kernel
theorem dX3_keep_19 : decode cX3_keep 19 = .ok (.aload_n 1, 1) := by decide +kernel
theorem dX3_keep_20 : decode cX3_keep 20 = .ok (.getfield 89, 3) := by decide +kernel
theorem dX3_keep_23 : decode cX3_keep 23 = .ok (.if_icmp .ge 19, 3) := by decide +kernel
theorem dX3_keep_26 : decode cX3_keep 26 = .ok (.aload_n 0, 1) := by decide +kernel
theorem dX3_keep_27 : decode cX3_keep 27 = .ok (.getfield 22, 3) := by decide +kernel
theorem dX3_keep_30 : decode cX3_keep 30 = .ok (.iload_n 2, 1) := by decide +kernel
theorem dX3_keep_31 : decode cX3_keep 31 = .ok (.aload_n 1, 1) := by decide +kernel
theorem dX3_keep_32 : decode cX3_keep 32 = .ok (.iload_n 2, 1) := by decide +kernel
theorem dX3_keep_33 : decode cX3_keep 33 = .ok (.invokevirtual 102, 3) := by decide +kernel
theorem dX3_keep_36 : decode cX3_keep 36 = .ok (.iinc 2 1, 3) := by decide +kernel
theorem dX3_keep_39 : decode cX3_keep 39 = .ok (.goto (-21), 3) := by decide +kernel
theorem dX3_keep_42 : decode cX3_keep 42 = .ok (.return_, 1) := by decide +kernel
theorem dX3_counted_0 : decode cX3_counted 0 = .ok (.aload_n 0, 1) := by decide +kernel
theorem dX3_counted_1 : decode cX3_counted 1 = .ok (.getfield 28, 3) := by decide +kernel
theorem dX3_counted_4 : decode cX3_counted 4 = .ok (.iload_n 1, 1) := by decide +kernel
theorem dX3_counted_5 : decode cX3_counted 5 = .ok (.ifCond .ge 8, 3) := by decide +kernel
theorem dX3_counted_8 : decode cX3_counted 8 = .ok (.iload_n 1, 1) := by decide +kernel
theorem dX3_counted_9 : decode cX3_counted 9 = .ok (.ineg, 1) := by decide +kernel
theorem dX3_counted_10 : decode cX3_counted 10 = .ok (.goto 4, 3) := by decide +kernel
theorem dX3_counted_13 : decode cX3_counted 13 = .ok (.iconst 0, 1) := by decide +kernel
theorem dX3_counted_14 : decode cX3_counted 14 = .ok (.dup2, 1) := by decide +kernel
theorem dX3_counted_15 : decode cX3_counted 15 = .ok (.iaload, 1) := by decide +kernel
theorem dX3_counted_16 : decode cX3_counted 16 = .ok (.iconst 1, 1) := by decide +kernel
theorem dX3_counted_17 : decode cX3_counted 17 = .ok (.iadd, 1) := by decide +kernel
theorem dX3_counted_18 : decode cX3_counted 18 = .ok (.iastore, 1) := by decide +kernel
theorem dX3_counted_19 : decode cX3_counted 19 = .ok (.iload_n 1, 1) := by decide +kernel
theorem dX3_counted_20 : decode cX3_counted 20 = .ok (.ireturn, 1) := by decide +kernel
set_option maxRecDepth 20000 in
theorem ggX3_carry_X3_refusalOfPair : GoodIn wsX3_carry wsX3_refusalOfPair := goodIn_r _ [6, 7, 8, 9, 10, 11, 12, 45, 46, 47, 48, 49] (by decide +kernel) (by decide +kernel)
set_option maxRecDepth 20000 in
theorem gX3_carry_X3_refusalOfPair : GoodIn wsX3_carry (va_wsS RX3 106 yX3_refusalOfPair wsX3_refusalOfPair) := goodIn_app (goodIn_of _ (by decide +kernel)) ggX3_carry_X3_refusalOfPair
set_option maxRecDepth 20000 in
theorem ggX3_carry_X0_hasPlaces : GoodIn wsX3_carry wsX0_hasPlaces := goodIn_r _ [16, 17, 45, 46, 47, 48, 49] (by decide +kernel) (by decide +kernel)
set_option maxRecDepth 20000 in
theorem gX3_carry_X0_hasPlaces : GoodIn wsX3_carry (wsV RX3 139 RX0 yX0_hasPlaces wsX0_hasPlaces) := goodIn_app (goodIn_of _ (by decide +kernel)) ggX3_carry_X0_hasPlaces
set_option maxRecDepth 20000 in
theorem ggX3_carry_X0_accepts : GoodIn wsX3_carry wsX0_accepts := goodIn_r _ [21, 12, 22, 23, 24, 25, 10, 26, 27, 28, 29, 30, 31, 45, 46, 47, 48, 49, 50, 51, 52] (by decide +kernel) (by decide +kernel)
set_option maxRecDepth 20000 in
theorem gX3_carry_X0_accepts : GoodIn wsX3_carry (wsV RX3 57 RX0 yX0_accepts wsX0_accepts) := goodIn_app (goodIn_of _ (by decide +kernel)) ggX3_carry_X0_accepts
set_option maxRecDepth 20000 in
theorem ggX3_carry_X0_copyPlace : GoodIn wsX3_carry wsX0_copyPlace := goodIn_r _ [35, 36, 37, 45, 46, 47, 48, 49] (by decide +kernel) (by decide +kernel)
set_option maxRecDepth 20000 in
theorem gX3_carry_X0_copyPlace : GoodIn wsX3_carry (wsV RX3 102 RX0 yX0_copyPlace wsX0_copyPlace) := goodIn_app (goodIn_of _ (by decide +kernel)) ggX3_carry_X0_copyPlace
theorem dX3_carry_0 : decode cX3_carry 0 = .ok (.aload_n 0, 1) := by decide +kernel
theorem dX3_carry_1 : decode cX3_carry 1 = .ok (.iconst 0, 1) := by decide +kernel
theorem dX3_carry_2 : decode cX3_carry 2 = .ok (.putfield 32, 3) := by decide +kernel
theorem dX3_carry_5 : decode cX3_carry 5 = .ok (.aload_n 1, 1) := by decide +kernel
theorem dX3_carry_6 : decode cX3_carry 6 = .ok (.aload_n 3, 1) := by decide +kernel
theorem dX3_carry_7 : decode cX3_carry 7 = .ok (.invokestatic 106, 3) := by decide +kernel
theorem dX3_carry_10 : decode cX3_carry 10 = .ok (.istore 6, 2) := by decide +kernel
theorem dX3_carry_12 : decode cX3_carry 12 = .ok (.iload 6, 2) := by decide +kernel
theorem dX3_carry_14 : decode cX3_carry 14 = .ok (.ifCond .eq 6, 3) := by decide +kernel
theorem dX3_carry_17 : decode cX3_carry 17 = .ok (.iload 6, 2) := by decide +kernel
theorem dX3_carry_19 : decode cX3_carry 19 = .ok (.ireturn, 1) := by decide +kernel
theorem dX3_carry_20 : decode cX3_carry 20 = .ok (.aload_n 1, 1) := by decide +kernel
theorem dX3_carry_21 : decode cX3_carry 21 = .ok (.iload_n 2, 1) := by decide +kernel
theorem dX3_carry_22 : decode cX3_carry 22 = .ok (.iload 5, 2) := by decide +kernel
theorem dX3_carry_24 : decode cX3_carry 24 = .ok (.invokevirtual 139, 3) := by decide +kernel
theorem dX3_carry_27 : decode cX3_carry 27 = .ok (.ifCond .eq 14, 3) := by decide +kernel
theorem dX3_carry_30 : decode cX3_carry 30 = .ok (.aload_n 3, 1) := by decide +kernel
theorem dX3_carry_31 : decode cX3_carry 31 = .ok (.iload 4, 2) := by decide +kernel
theorem dX3_carry_33 : decode cX3_carry 33 = .ok (.iload 5, 2) := by decide +kernel
theorem dX3_carry_35 : decode cX3_carry 35 = .ok (.invokevirtual 139, 3) := by decide +kernel
theorem dX3_carry_38 : decode cX3_carry 38 = .ok (.ifCond .ne 6, 3) := by decide +kernel
theorem dX3_carry_41 : decode cX3_carry 41 = .ok (.bipush (-4), 2) := by decide +kernel
theorem dX3_carry_43 : decode cX3_carry 43 = .ok (.ireturn, 1) := by decide +kernel
theorem dX3_carry_44 : decode cX3_carry 44 = .ok (.aload_n 1, 1) := by decide +kernel
theorem dX3_carry_45 : decode cX3_carry 45 = .ok (.aload_n 3, 1) := by decide +kernel
theorem dX3_carry_46 : decode cX3_carry 46 = .ok (.if_acmp .ne 10, 3) := by decide +kernel
theorem dX3_carry_49 : decode cX3_carry 49 = .ok (.aload_n 0, 1) := by decide +kernel
theorem dX3_carry_50 : decode cX3_carry 50 = .ok (.getfield 22, 3) := by decide +kernel
theorem dX3_carry_53 : decode cX3_carry 53 = .ok (.goto 4, 3) := by decide +kernel
theorem dX3_carry_56 : decode cX3_carry 56 = .ok (.aload_n 1, 1) := by decide +kernel
theorem dX3_carry_57 : decode cX3_carry 57 = .ok (.astore 7, 2) := by decide +kernel
theorem dX3_carry_59 : decode cX3_carry 59 = .ok (.aload_n 0, 1) := by decide +kernel
theorem dX3_carry_60 : decode cX3_carry 60 = .ok (.getfield 32, 3) := by decide +kernel
theorem dX3_carry_63 : decode cX3_carry 63 = .ok (.iload 5, 2) := by decide +kernel
theorem dX3_carry_65 : decode cX3_carry 65 = .ok (.if_icmp .ge 54, 3) := by decide +kernel
theorem dX3_carry_68 : decode cX3_carry 68 = .ok (.aload_n 3, 1) := by decide +kernel
theorem dX3_carry_69 : decode cX3_carry 69 = .ok (.aload 7, 2) := by decide +kernel
theorem dX3_carry_71 : decode cX3_carry 71 = .ok (.getfield 73, 3) := by decide +kernel
theorem dX3_carry_74 : decode cX3_carry 74 = .ok (.iload_n 2, 1) := by decide +kernel
theorem dX3_carry_75 : decode cX3_carry 75 = .ok (.aload_n 0, 1) := by decide +kernel
theorem dX3_carry_76 : decode cX3_carry 76 = .ok (.getfield 32, 3) := by decide +kernel
theorem dX3_carry_79 : decode cX3_carry 79 = .ok (.iadd, 1) := by decide +kernel
theorem dX3_carry_80 : decode cX3_carry 80 = .ok (.aaload, 1) := by decide +kernel
theorem dX3_carry_81 : decode cX3_carry 81 = .ok (.invokevirtual 57, 3) := by decide +kernel
theorem dX3_carry_84 : decode cX3_carry 84 = .ok (.ifCond .eq 35, 3) := by decide +kernel
theorem dX3_carry_87 : decode cX3_carry 87 = .ok (.aload_n 3, 1) := by decide +kernel
theorem dX3_carry_88 : decode cX3_carry 88 = .ok (.iload 4, 2) := by decide +kernel
theorem dX3_carry_90 : decode cX3_carry 90 = .ok (.aload_n 0, 1) := by decide +kernel
theorem dX3_carry_91 : decode cX3_carry 91 = .ok (.getfield 32, 3) := by decide +kernel
theorem dX3_carry_94 : decode cX3_carry 94 = .ok (.iadd, 1) := by decide +kernel
theorem dX3_carry_95 : decode cX3_carry 95 = .ok (.aload 7, 2) := by decide +kernel
theorem dX3_carry_97 : decode cX3_carry 97 = .ok (.iload_n 2, 1) := by decide +kernel
theorem dX3_carry_98 : decode cX3_carry 98 = .ok (.aload_n 0, 1) := by decide +kernel
theorem dX3_carry_99 : decode cX3_carry 99 = .ok (.getfield 32, 3) := by decide +kernel
theorem dX3_carry_102 : decode cX3_carry 102 = .ok (.iadd, 1) := by decide +kernel
theorem dX3_carry_103 : decode cX3_carry 103 = .ok (.invokevirtual 102, 3) := by decide +kernel
theorem dX3_carry_106 : decode cX3_carry 106 = .ok (.aload_n 0, 1) := by decide +kernel
theorem dX3_carry_107 : decode cX3_carry 107 = .ok (.dup, 1) := by decide +kernel
theorem dX3_carry_108 : decode cX3_carry 108 = .ok (.getfield 32, 3) := by decide +kernel
theorem dX3_carry_111 : decode cX3_carry 111 = .ok (.iconst 1, 1) := by decide +kernel
theorem dX3_carry_112 : decode cX3_carry 112 = .ok (.iadd, 1) := by decide +kernel
theorem dX3_carry_113 : decode cX3_carry 113 = .ok (.putfield 32, 3) := by decide +kernel
theorem dX3_carry_116 : decode cX3_carry 116 = .ok (.goto (-57), 3) := by decide +kernel
theorem dX3_carry_119 : decode cX3_carry 119 = .ok (.aload_n 0, 1) := by decide +kernel
theorem dX3_carry_120 : decode cX3_carry 120 = .ok (.getfield 32, 3) := by decide +kernel
theorem dX3_carry_123 : decode cX3_carry 123 = .ok (.iload 5, 2) := by decide +kernel
theorem dX3_carry_125 : decode cX3_carry 125 = .ok (.if_icmp .ge 8, 3) := by decide +kernel
theorem dX3_carry_128 : decode cX3_carry 128 = .ok (.bipush (-5), 2) := by decide +kernel
theorem dX3_carry_130 : decode cX3_carry 130 = .ok (.goto 5, 3) := by decide +kernel
theorem dX3_carry_133 : decode cX3_carry 133 = .ok (.iload 5, 2) := by decide +kernel
theorem dX3_carry_135 : decode cX3_carry 135 = .ok (.ireturn, 1) := by decide +kernel
set_option maxRecDepth 20000 in
theorem ggX3_refusalOfPair_X0_isOfNumbers : GoodIn wsX3_refusalOfPair wsX0_isOfNumbers := goodIn_r _ [5, 6, 7, 8, 9, 10, 11] (by decide +kernel) (by decide +kernel)
set_option maxRecDepth 20000 in
theorem gX3_refusalOfPair_X0_isOfNumbers : GoodIn wsX3_refusalOfPair (wsV RX3 65 RX0 yX0_isOfNumbers wsX0_isOfNumbers) := goodIn_app (goodIn_of _ (by decide +kernel)) ggX3_refusalOfPair_X0_isOfNumbers
theorem dX3_refusalOfPair_0 : decode cX3_refusalOfPair 0 = .ok (.aload_n 0, 1) := by decide +kernel
theorem dX3_refusalOfPair_1 : decode cX3_refusalOfPair 1 = .ok (.getfield 43, 3) := by decide +kernel
theorem dX3_refusalOfPair_4 : decode cX3_refusalOfPair 4 = .ok (.ifCond .eq 10, 3) := by decide +kernel
theorem dX3_refusalOfPair_7 : decode cX3_refusalOfPair 7 = .ok (.aload_n 1, 1) := by decide +kernel
theorem dX3_refusalOfPair_8 : decode cX3_refusalOfPair 8 = .ok (.getfield 43, 3) := by decide +kernel
theorem dX3_refusalOfPair_11 : decode cX3_refusalOfPair 11 = .ok (.ifCond .ne 5, 3) := by decide +kernel
theorem dX3_refusalOfPair_14 : decode cX3_refusalOfPair 14 = .ok (.iconst (-1), 1) := by decide +kernel
theorem dX3_refusalOfPair_15 : decode cX3_refusalOfPair 15 = .ok (.ireturn, 1) := by decide +kernel
theorem dX3_refusalOfPair_16 : decode cX3_refusalOfPair 16 = .ok (.aload_n 0, 1) := by decide +kernel
theorem dX3_refusalOfPair_17 : decode cX3_refusalOfPair 17 = .ok (.getfield 43, 3) := by decide +kernel
theorem dX3_refusalOfPair_20 : decode cX3_refusalOfPair 20 = .ok (.iconst 1, 1) := by decide +kernel
theorem dX3_refusalOfPair_21 : decode cX3_refusalOfPair 21 = .ok (.if_icmp .eq 11, 3) := by decide +kernel
theorem dX3_refusalOfPair_24 : decode cX3_refusalOfPair 24 = .ok (.aload_n 1, 1) := by decide +kernel
theorem dX3_refusalOfPair_25 : decode cX3_refusalOfPair 25 = .ok (.getfield 43, 3) := by decide +kernel
theorem dX3_refusalOfPair_28 : decode cX3_refusalOfPair 28 = .ok (.iconst 1, 1) := by decide +kernel
theorem dX3_refusalOfPair_29 : decode cX3_refusalOfPair 29 = .ok (.if_icmp .ne 6, 3) := by decide +kernel
theorem dX3_refusalOfPair_32 : decode cX3_refusalOfPair 32 = .ok (.bipush (-2), 2) := by decide +kernel
theorem dX3_refusalOfPair_34 : decode cX3_refusalOfPair 34 = .ok (.ireturn, 1) := by decide +kernel
theorem dX3_refusalOfPair_35 : decode cX3_refusalOfPair 35 = .ok (.aload_n 0, 1) := by decide +kernel
theorem dX3_refusalOfPair_36 : decode cX3_refusalOfPair 36 = .ok (.invokevirtual 65, 3) := by decide +kernel
theorem dX3_refusalOfPair_39 : decode cX3_refusalOfPair 39 = .ok (.ifCond .ne 10, 3) := by decide +kernel
theorem dX3_refusalOfPair_42 : decode cX3_refusalOfPair 42 = .ok (.aload_n 1, 1) := by decide +kernel
theorem dX3_refusalOfPair_43 : decode cX3_refusalOfPair 43 = .ok (.invokevirtual 65, 3) := by decide +kernel
theorem dX3_refusalOfPair_46 : decode cX3_refusalOfPair 46 = .ok (.ifCond .eq 7, 3) := by decide +kernel
theorem dX3_refusalOfPair_49 : decode cX3_refusalOfPair 49 = .ok (.iconst 1, 1) := by decide +kernel
theorem dX3_refusalOfPair_50 : decode cX3_refusalOfPair 50 = .ok (.goto 4, 3) := by decide +kernel
theorem dX3_refusalOfPair_53 : decode cX3_refusalOfPair 53 = .ok (.iconst 0, 1) := by decide +kernel
theorem dX3_refusalOfPair_54 : decode cX3_refusalOfPair 54 = .ok (.istore_n 2, 1) := by decide +kernel
theorem dX3_refusalOfPair_55 : decode cX3_refusalOfPair 55 = .ok (.iload_n 2, 1) := by decide +kernel
theorem dX3_refusalOfPair_56 : decode cX3_refusalOfPair 56 = .ok (.ifCond .eq 19, 3) := by decide +kernel
theorem dX3_refusalOfPair_59 : decode cX3_refusalOfPair 59 = .ok (.aload_n 0, 1) := by decide +kernel
theorem dX3_refusalOfPair_60 : decode cX3_refusalOfPair 60 = .ok (.getfield 43, 3) := by decide +kernel
theorem dX3_refusalOfPair_63 : decode cX3_refusalOfPair 63 = .ok (.aload_n 1, 1) := by decide +kernel
theorem dX3_refusalOfPair_64 : decode cX3_refusalOfPair 64 = .ok (.getfield 43, 3) := by decide +kernel
theorem dX3_refusalOfPair_67 : decode cX3_refusalOfPair 67 = .ok (.if_icmp .eq 8, 3) := by decide +kernel
theorem dX3_refusalOfPair_70 : decode cX3_refusalOfPair 70 = .ok (.bipush (-3), 2) := by decide +kernel
theorem dX3_refusalOfPair_72 : decode cX3_refusalOfPair 72 = .ok (.goto 4, 3) := by decide +kernel
theorem dX3_refusalOfPair_75 : decode cX3_refusalOfPair 75 = .ok (.iconst 0, 1) := by decide +kernel
theorem dX3_refusalOfPair_76 : decode cX3_refusalOfPair 76 = .ok (.ireturn, 1) := by decide +kernel
set_option maxRecDepth 20000 in
theorem ggX3_thingFor_X3_isTray : GoodIn wsX3_thingFor wsX3_isTray := goodIn_r _ [5] (by decide +kernel) (by decide +kernel)
set_option maxRecDepth 20000 in
theorem gX3_thingFor_X3_isTray : GoodIn wsX3_thingFor (va_wsS RX3 39 yX3_isTray wsX3_isTray) := goodIn_app (goodIn_of _ (by decide +kernel)) ggX3_thingFor_X3_isTray
set_option maxRecDepth 20000 in
theorem ggX3_thingFor_J9_floorMod_7cf53 : GoodIn wsX3_thingFor wsJ9_floorMod_7cf53 := goodIn_r _ [9] (by decide +kernel) (by decide +kernel)
set_option maxRecDepth 20000 in
theorem gX3_thingFor_J9_floorMod_7cf53 : GoodIn wsX3_thingFor (va_wsS RX3 96 yJ9_floorMod_7cf53 wsJ9_floorMod_7cf53) := goodIn_app (goodIn_of _ (by decide +kernel)) ggX3_thingFor_J9_floorMod_7cf53
set_option maxRecDepth 20000 in
theorem ggX3_thingFor_X3_newPiece : GoodIn wsX3_thingFor wsX3_newPiece := goodIn_r _ [13, 14, 15, 16, 17, 18, 19, 20, 21, 22, 23, 24, 25, 26, 27, 28, 29, 30, 31, 32, 33, 34, 35, 36, 42, 43, 44] (by decide +kernel) (by decide +kernel)
set_option maxRecDepth 20000 in
theorem gX3_thingFor_X3_newPiece : GoodIn wsX3_thingFor (wsV RX3 143 RX3 yX3_newPiece wsX3_newPiece) := goodIn_app (goodIn_of _ (by decide +kernel)) ggX3_thingFor_X3_newPiece
theorem dX3_thingFor_0 : decode cX3_thingFor 0 = .ok (.iload_n 1, 1) := by decide +kernel
theorem dX3_thingFor_1 : decode cX3_thingFor 1 = .ok (.bipush 13, 2) := by decide +kernel
theorem dX3_thingFor_3 : decode cX3_thingFor 3 = .ok (.if_icmp .ne 35, 3) := by decide +kernel
theorem dX3_thingFor_6 : decode cX3_thingFor 6 = .ok (.iload_n 2, 1) := by decide +kernel
theorem dX3_thingFor_7 : decode cX3_thingFor 7 = .ok (.invokestatic 39, 3) := by decide +kernel
theorem dX3_thingFor_10 : decode cX3_thingFor 10 = .ok (.ifCond .eq 26, 3) := by decide +kernel
theorem dX3_thingFor_13 : decode cX3_thingFor 13 = .ok (.aload_n 0, 1) := by decide +kernel
theorem dX3_thingFor_14 : decode cX3_thingFor 14 = .ok (.getfield 18, 3) := by decide +kernel
theorem dX3_thingFor_17 : decode cX3_thingFor 17 = .ok (.iload_n 2, 1) := by decide +kernel
theorem dX3_thingFor_18 : decode cX3_thingFor 18 = .ok (.aaload, 1) := by decide +kernel
theorem dX3_thingFor_19 : decode cX3_thingFor 19 = .ok (.getfield 43, 3) := by decide +kernel
theorem dX3_thingFor_22 : decode cX3_thingFor 22 = .ok (.bipush 6, 2) := by decide +kernel
theorem dX3_thingFor_24 : decode cX3_thingFor 24 = .ok (.if_icmp .ne 12, 3) := by decide +kernel
theorem dX3_thingFor_27 : decode cX3_thingFor 27 = .ok (.aload_n 0, 1) := by decide +kernel
theorem dX3_thingFor_28 : decode cX3_thingFor 28 = .ok (.getfield 18, 3) := by decide +kernel
theorem dX3_thingFor_31 : decode cX3_thingFor 31 = .ok (.iload_n 2, 1) := by decide +kernel
theorem dX3_thingFor_32 : decode cX3_thingFor 32 = .ok (.aaload, 1) := by decide +kernel
theorem dX3_thingFor_33 : decode cX3_thingFor 33 = .ok (.goto 4, 3) := by decide +kernel
theorem dX3_thingFor_36 : decode cX3_thingFor 36 = .ok (.aconst_null, 1) := by decide +kernel
theorem dX3_thingFor_37 : decode cX3_thingFor 37 = .ok (.areturn, 1) := by decide +kernel
theorem dX3_thingFor_38 : decode cX3_thingFor 38 = .ok (.iload_n 1, 1) := by decide +kernel
theorem dX3_thingFor_39 : decode cX3_thingFor 39 = .ok (.bipush 10, 2) := by decide +kernel
theorem dX3_thingFor_41 : decode cX3_thingFor 41 = .ok (.if_icmp .lt 15, 3) := by decide +kernel
theorem dX3_thingFor_44 : decode cX3_thingFor 44 = .ok (.aload_n 0, 1) := by decide +kernel
theorem dX3_thingFor_45 : decode cX3_thingFor 45 = .ok (.iload_n 2, 1) := by decide +kernel
theorem dX3_thingFor_46 : decode cX3_thingFor 46 = .ok (.iconst 5, 1) := by decide +kernel
theorem dX3_thingFor_47 : decode cX3_thingFor 47 = .ok (.invokestatic 96, 3) := by decide +kernel
theorem dX3_thingFor_50 : decode cX3_thingFor 50 = .ok (.invokevirtual 143, 3) := by decide +kernel
theorem dX3_thingFor_53 : decode cX3_thingFor 53 = .ok (.goto 4, 3) := by decide +kernel
theorem dX3_thingFor_56 : decode cX3_thingFor 56 = .ok (.aconst_null, 1) := by decide +kernel
theorem dX3_thingFor_57 : decode cX3_thingFor 57 = .ok (.areturn, 1) := by decide +kernel
set_option maxRecDepth 20000 in
theorem ggX3_newPiece_X1_init : GoodIn wsX3_newPiece wsX1_init := goodIn_r _ [7, 8, 9, 10, 11, 12, 13, 14, 15, 16, 24, 25, 26] (by decide +kernel) (by decide +kernel)
set_option maxRecDepth 20000 in
theorem gX3_newPiece_X1_init : GoodIn wsX3_newPiece (wsX1_init) := ggX3_newPiece_X1_init
theorem dX3_newPiece_0 : decode cX3_newPiece 0 = .ok (.iload_n 1, 1) := by decide +kernel
theorem dX3_newPiece_1 : decode cX3_newPiece 1 = .ok (.ifCond .ne 5, 3) := by decide +kernel
theorem dX3_newPiece_4 : decode cX3_newPiece 4 = .ok (.aconst_null, 1) := by decide +kernel
theorem dX3_newPiece_5 : decode cX3_newPiece 5 = .ok (.areturn, 1) := by decide +kernel
theorem dX3_newPiece_6 : decode cX3_newPiece 6 = .ok (.aload_n 0, 1) := by decide +kernel
theorem dX3_newPiece_7 : decode cX3_newPiece 7 = .ok (.dup, 1) := by decide +kernel
theorem dX3_newPiece_8 : decode cX3_newPiece 8 = .ok (.getfield 36, 3) := by decide +kernel
theorem dX3_newPiece_11 : decode cX3_newPiece 11 = .ok (.iconst 1, 1) := by decide +kernel
theorem dX3_newPiece_12 : decode cX3_newPiece 12 = .ok (.iadd, 1) := by decide +kernel
theorem dX3_newPiece_13 : decode cX3_newPiece 13 = .ok (.putfield 36, 3) := by decide +kernel
theorem dX3_newPiece_16 : decode cX3_newPiece 16 = .ok (.new 117, 3) := by decide +kernel
theorem dX3_newPiece_19 : decode cX3_newPiece 19 = .ok (.dup, 1) := by decide +kernel
theorem dX3_newPiece_20 : decode cX3_newPiece 20 = .ok (.iconst 2, 1) := by decide +kernel
theorem dX3_newPiece_21 : decode cX3_newPiece 21 = .ok (.iload_n 1, 1) := by decide +kernel
theorem dX3_newPiece_22 : decode cX3_newPiece 22 = .ok (.iadd, 1) := by decide +kernel
theorem dX3_newPiece_23 : decode cX3_newPiece 23 = .ok (.iconst 1, 1) := by decide +kernel
theorem dX3_newPiece_24 : decode cX3_newPiece 24 = .ok (.isub, 1) := by decide +kernel
theorem dX3_newPiece_25 : decode cX3_newPiece 25 = .ok (.aload_n 0, 1) := by decide +kernel
theorem dX3_newPiece_26 : decode cX3_newPiece 26 = .ok (.getfield 36, 3) := by decide +kernel
theorem dX3_newPiece_29 : decode cX3_newPiece 29 = .ok (.invokespecial 147, 3) := by decide +kernel
theorem dX3_newPiece_32 : decode cX3_newPiece 32 = .ok (.areturn, 1) := by decide +kernel
theorem dX3_numberFor_0 : decode cX3_numberFor 0 = .ok (.iload_n 0, 1) := by decide +kernel
theorem dX3_numberFor_1 : decode cX3_numberFor 1 = .ok (.tableswitch 69 2 8 #[43, 53, 57, 61, 69, 69, 65], 43) := by decide +kernel
theorem dX3_numberFor_44 : decode cX3_numberFor 44 = .ok (.iload_n 1, 1) := by decide +kernel
theorem dX3_numberFor_45 : decode cX3_numberFor 45 = .ok (.ifCond .eq 7, 3) := by decide +kernel
theorem dX3_numberFor_48 : decode cX3_numberFor 48 = .ok (.lconst 1, 1) := by decide +kernel
theorem dX3_numberFor_49 : decode cX3_numberFor 49 = .ok (.goto 4, 3) := by decide +kernel
theorem dX3_numberFor_52 : decode cX3_numberFor 52 = .ok (.lconst 0, 1) := by decide +kernel
theorem dX3_numberFor_53 : decode cX3_numberFor 53 = .ok (.lreturn, 1) := by decide +kernel
theorem dX3_numberFor_54 : decode cX3_numberFor 54 = .ok (.iload_n 1, 1) := by decide +kernel
theorem dX3_numberFor_55 : decode cX3_numberFor 55 = .ok (.i2b, 1) := by decide +kernel
theorem dX3_numberFor_56 : decode cX3_numberFor 56 = .ok (.i2l, 1) := by decide +kernel
theorem dX3_numberFor_57 : decode cX3_numberFor 57 = .ok (.lreturn, 1) := by decide +kernel
theorem dX3_numberFor_58 : decode cX3_numberFor 58 = .ok (.iload_n 1, 1) := by decide +kernel
theorem dX3_numberFor_59 : decode cX3_numberFor 59 = .ok (.i2c, 1) := by decide +kernel
theorem dX3_numberFor_60 : decode cX3_numberFor 60 = .ok (.i2l, 1) := by decide +kernel
theorem dX3_numberFor_61 : decode cX3_numberFor 61 = .ok (.lreturn, 1) := by decide +kernel
theorem dX3_numberFor_62 : decode cX3_numberFor 62 = .ok (.iload_n 1, 1) := by decide +kernel
theorem dX3_numberFor_63 : decode cX3_numberFor 63 = .ok (.i2s, 1) := by decide +kernel
theorem dX3_numberFor_64 : decode cX3_numberFor 64 = .ok (.i2l, 1) := by decide +kernel
theorem dX3_numberFor_65 : decode cX3_numberFor 65 = .ok (.lreturn, 1) := by decide +kernel
theorem dX3_numberFor_66 : decode cX3_numberFor 66 = .ok (.iload_n 1, 1) := by decide +kernel
theorem dX3_numberFor_67 : decode cX3_numberFor 67 = .ok (.i2f, 1) := by decide +kernel
theorem dX3_numberFor_68 : decode cX3_numberFor 68 = .ok (.f2l, 1) := by decide +kernel
theorem dX3_numberFor_69 : decode cX3_numberFor 69 = .ok (.lreturn, 1) := by decide +kernel
theorem dX3_numberFor_70 : decode cX3_numberFor 70 = .ok (.iload_n 1, 1) := by decide +kernel
theorem dX3_numberFor_71 : decode cX3_numberFor 71 = .ok (.i2l, 1) := by decide +kernel
theorem dX3_numberFor_72 : decode cX3_numberFor 72 = .ok (.lreturn, 1) := by decide +kernel
theorem dJ9_floorMod_7cf53_0 : decode cJ9_floorMod_7cf53 0 = .ok (.iload_n 0, 1) := by decide +kernel
theorem dJ9_floorMod_7cf53_1 : decode cJ9_floorMod_7cf53 1 = .ok (.iload_n 1, 1) := by decide +kernel
theorem dJ9_floorMod_7cf53_2 : decode cJ9_floorMod_7cf53 2 = .ok (.irem, 1) := by decide +kernel
theorem dJ9_floorMod_7cf53_3 : decode cJ9_floorMod_7cf53 3 = .ok (.istore_n 2, 1) := by decide +kernel
theorem dJ9_floorMod_7cf53_4 : decode cJ9_floorMod_7cf53 4 = .ok (.iload_n 0, 1) := by decide +kernel
theorem dJ9_floorMod_7cf53_5 : decode cJ9_floorMod_7cf53 5 = .ok (.iload_n 1, 1) := by decide +kernel
theorem dJ9_floorMod_7cf53_6 : decode cJ9_floorMod_7cf53 6 = .ok (.ixor, 1) := by decide +kernel
theorem dJ9_floorMod_7cf53_7 : decode cJ9_floorMod_7cf53 7 = .ok (.ifCond .ge 11, 3) := by decide +kernel
theorem dJ9_floorMod_7cf53_10 : decode cJ9_floorMod_7cf53 10 = .ok (.iload_n 2, 1) := by decide +kernel
theorem dJ9_floorMod_7cf53_11 : decode cJ9_floorMod_7cf53 11 = .ok (.ifCond .eq 7, 3) := by decide +kernel
theorem dJ9_floorMod_7cf53_14 : decode cJ9_floorMod_7cf53 14 = .ok (.iload_n 2, 1) := by decide +kernel
theorem dJ9_floorMod_7cf53_15 : decode cJ9_floorMod_7cf53 15 = .ok (.iload_n 1, 1) := by decide +kernel
theorem dJ9_floorMod_7cf53_16 : decode cJ9_floorMod_7cf53 16 = .ok (.iadd, 1) := by decide +kernel
theorem dJ9_floorMod_7cf53_17 : decode cJ9_floorMod_7cf53 17 = .ok (.ireturn, 1) := by decide +kernel
theorem dJ9_floorMod_7cf53_18 : decode cJ9_floorMod_7cf53 18 = .ok (.iload_n 2, 1) := by decide +kernel
theorem dJ9_floorMod_7cf53_19 : decode cJ9_floorMod_7cf53 19 = .ok (.ireturn, 1) := by decide +kernel
theorem dJ9_min_7cf53_0 : decode cJ9_min_7cf53 0 = .ok (.iload_n 0, 1) := by decide +kernel
theorem dJ9_min_7cf53_1 : decode cJ9_min_7cf53 1 = .ok (.iload_n 1, 1) := by decide +kernel
theorem dJ9_min_7cf53_2 : decode cJ9_min_7cf53 2 = .ok (.if_icmp .gt 7, 3) := by decide +kernel
theorem dJ9_min_7cf53_5 : decode cJ9_min_7cf53 5 = .ok (.iload_n 0, 1) := by decide +kernel
theorem dJ9_min_7cf53_6 : decode cJ9_min_7cf53 6 = .ok (.goto 4, 3) := by decide +kernel
theorem dJ9_min_7cf53_9 : decode cJ9_min_7cf53 9 = .ok (.iload_n 1, 1) := by decide +kernel
theorem dJ9_min_7cf53_10 : decode cJ9_min_7cf53 10 = .ok (.ireturn, 1) := by decide +kernel
end
section
theorem dX4_init_0 : decode cX4_init 0 = .ok (.aload_n 0, 1) := by decide +kernel
theorem dX4_init_1 : decode cX4_init 1 = .ok (.invokespecial 1, 3) := by decide +kernel
theorem dX4_init_4 : decode cX4_init 4 = .ok (.aload_n 0, 1) := by decide +kernel
theorem dX4_init_5 : decode cX4_init 5 = .ok (.bipush 12, 2) := by decide +kernel
theorem dX4_init_7 : decode cX4_init 7 = .ok (.newarray .int, 2) := by decide +kernel
theorem dX4_init_9 : decode cX4_init 9 = .ok (.putfield 7, 3) := by decide +kernel
theorem dX4_init_12 : decode cX4_init 12 = .ok (.aload_n 0, 1) := by decide +kernel
theorem dX4_init_13 : decode cX4_init 13 = .ok (.bipush 12, 2) := by decide +kernel
theorem dX4_init_15 : decode cX4_init 15 = .ok (.newarray .int, 2) := by decide +kernel
theorem dX4_init_17 : decode cX4_init 17 = .ok (.putfield 13, 3) := by decide +kernel
theorem dX4_init_20 : decode cX4_init 20 = .ok (.aload_n 0, 1) := by decide +kernel
theorem dX4_init_21 : decode cX4_init 21 = .ok (.sipush 520, 3) := by decide +kernel
theorem dX4_init_24 : decode cX4_init 24 = .ok (.newarray .int, 2) := by decide +kernel
theorem dX4_init_26 : decode cX4_init 26 = .ok (.putfield 16, 3) := by decide +kernel
theorem dX4_init_29 : decode cX4_init 29 = .ok (.aload_n 0, 1) := by decide +kernel
theorem dX4_init_30 : decode cX4_init 30 = .ok (.sipush 520, 3) := by decide +kernel
theorem dX4_init_33 : decode cX4_init 33 = .ok (.newarray .int, 2) := by decide +kernel
theorem dX4_init_35 : decode cX4_init 35 = .ok (.putfield 19, 3) := by decide +kernel
theorem dX4_init_38 : decode cX4_init 38 = .ok (.aload_n 0, 1) := by decide +kernel
theorem dX4_init_39 : decode cX4_init 39 = .ok (.sipush 520, 3) := by decide +kernel
theorem dX4_init_42 : decode cX4_init 42 = .ok (.newarray .int, 2) := by decide +kernel
theorem dX4_init_44 : decode cX4_init 44 = .ok (.putfield 22, 3) := by decide +kernel
theorem dX4_init_47 : decode cX4_init 47 = .ok (.aload_n 0, 1) := by decide +kernel
theorem dX4_init_48 : decode cX4_init 48 = .ok (.ldc 25, 2) := by decide +kernel
theorem dX4_init_50 : decode cX4_init 50 = .ok (.newarray .long, 2) := by decide +kernel
theorem dX4_init_52 : decode cX4_init 52 = .ok (.putfield 26, 3) := by decide +kernel
theorem dX4_init_55 : decode cX4_init 55 = .ok (.aload_n 0, 1) := by decide +kernel
theorem dX4_init_56 : decode cX4_init 56 = .ok (.sipush 520, 3) := by decide +kernel
theorem dX4_init_59 : decode cX4_init 59 = .ok (.newarray .int, 2) := by decide +kernel
theorem dX4_init_61 : decode cX4_init 61 = .ok (.putfield 30, 3) := by decide +kernel
theorem dX4_init_64 : decode cX4_init 64 = .ok (.aload_n 0, 1) := by decide +kernel
theorem dX4_init_65 : decode cX4_init 65 = .ok (.sipush 520, 3) := by decide +kernel
theorem dX4_init_68 : decode cX4_init 68 = .ok (.newarray .int, 2) := by decide +kernel
theorem dX4_init_70 : decode cX4_init 70 = .ok (.putfield 33, 3) := by decide +kernel
theorem dX4_init_73 : decode cX4_init 73 = .ok (.aload_n 0, 1) := by decide +kernel
theorem dX4_init_74 : decode cX4_init 74 = .ok (.bipush 64, 2) := by decide +kernel
theorem dX4_init_76 : decode cX4_init 76 = .ok (.newarray .long, 2) := by decide +kernel
theorem dX4_init_78 : decode cX4_init 78 = .ok (.putfield 36, 3) := by decide +kernel
theorem dX4_init_81 : decode cX4_init 81 = .ok (.aload_n 0, 1) := by decide +kernel
theorem dX4_init_82 : decode cX4_init 82 = .ok (.bipush 64, 2) := by decide +kernel
theorem dX4_init_84 : decode cX4_init 84 = .ok (.newarray .long, 2) := by decide +kernel
theorem dX4_init_86 : decode cX4_init 86 = .ok (.putfield 39, 3) := by decide +kernel
theorem dX4_init_89 : decode cX4_init 89 = .ok (.aload_n 0, 1) := by decide +kernel
theorem dX4_init_90 : decode cX4_init 90 = .ok (.iconst (-1), 1) := by decide +kernel
theorem dX4_init_91 : decode cX4_init 91 = .ok (.putfield 42, 3) := by decide +kernel
theorem dX4_init_94 : decode cX4_init 94 = .ok (.aload_n 0, 1) := by decide +kernel
theorem dX4_init_95 : decode cX4_init 95 = .ok (.bipush 7, 2) := by decide +kernel
theorem dX4_init_97 : decode cX4_init 97 = .ok (.newarray .int, 2) := by decide +kernel
theorem dX4_init_99 : decode cX4_init 99 = .ok (.putfield 46, 3) := by decide +kernel
theorem dX4_init_102 : decode cX4_init 102 = .ok (.return_, 1) := by decide +kernel
theorem dX4_in_0 : decode cX4_in 0 = .ok (.iload_n 0, 1) := by decide +kernel
theorem dX4_in_1 : decode cX4_in 1 = .ok (.iload_n 1, 1) := by decide +kernel
theorem dX4_in_2 : decode cX4_in 2 = .ok (.if_icmp .lt 12, 3) := by decide +kernel
theorem dX4_in_5 : decode cX4_in 5 = .ok (.iload_n 0, 1) := by decide +kernel
theorem dX4_in_6 : decode cX4_in 6 = .ok (.iload_n 2, 1) := by decide +kernel
theorem dX4_in_7 : decode cX4_in 7 = .ok (.if_icmp .gt 7, 3) := by decide +kernel
theorem dX4_in_10 : decode cX4_in 10 = .ok (.iconst 1, 1) := by decide +kernel
theorem dX4_in_11 : decode cX4_in 11 = .ok (.goto 4, 3) := by decide +kernel
theorem dX4_in_14 : decode cX4_in 14 = .ok (.iconst 0, 1) := by decide +kernel
theorem dX4_in_15 : decode cX4_in 15 = .ok (.ireturn, 1) := by decide +kernel
set_option maxRecDepth 20000 in
theorem ggX4_isTray_X4_in : GoodIn wsX4_isTray wsX4_in := goodIn_r _ [4] (by decide +kernel) (by decide +kernel)
set_option maxRecDepth 20000 in
theorem gX4_isTray_X4_in : GoodIn wsX4_isTray (va_wsS RX4 49 yX4_in wsX4_in) := goodIn_app (goodIn_of _ (by decide +kernel)) ggX4_isTray_X4_in
theorem dX4_isTray_0 : decode cX4_isTray 0 = .ok (.iload_n 0, 1) := by decide +kernel
theorem dX4_isTray_1 : decode cX4_isTray 1 = .ok (.iconst 0, 1) := by decide +kernel
theorem dX4_isTray_2 : decode cX4_isTray 2 = .ok (.bipush 11, 2) := by decide +kernel
theorem dX4_isTray_4 : decode cX4_isTray 4 = .ok (.invokestatic 49, 3) := by decide +kernel
theorem dX4_isTray_7 : decode cX4_isTray 7 = .ok (.ireturn, 1) := by decide +kernel
set_option maxRecDepth 20000 in
theorem ggX4_isNumbers_X4_in : GoodIn wsX4_isNumbers wsX4_in := goodIn_r _ [4] (by decide +kernel) (by decide +kernel)
set_option maxRecDepth 20000 in
theorem gX4_isNumbers_X4_in : GoodIn wsX4_isNumbers (va_wsS RX4 49 yX4_in wsX4_in) := goodIn_app (goodIn_of _ (by decide +kernel)) ggX4_isNumbers_X4_in
theorem dX4_isNumbers_0 : decode cX4_isNumbers 0 = .ok (.iload_n 0, 1) := by decide +kernel
theorem dX4_isNumbers_1 : decode cX4_isNumbers 1 = .ok (.iconst 2, 1) := by decide +kernel
theorem dX4_isNumbers_2 : decode cX4_isNumbers 2 = .ok (.bipush 9, 2) := by decide +kernel
theorem dX4_isNumbers_4 : decode cX4_isNumbers 4 = .ok (.invokestatic 49, 3) := by decide +kernel
theorem dX4_isNumbers_7 : decode cX4_isNumbers 7 = .ok (.ireturn, 1) := by decide +kernel
theorem dX4_isRow_0 : decode cX4_isRow 0 = .ok (.aload_n 0, 1) := by decide +kernel
theorem dX4_isRow_1 : decode cX4_isRow 1 = .ok (.getfield 7, 3) := by decide +kernel
theorem dX4_isRow_4 : decode cX4_isRow 4 = .ok (.iload_n 1, 1) := by decide +kernel
theorem dX4_isRow_5 : decode cX4_isRow 5 = .ok (.iaload, 1) := by decide +kernel
theorem dX4_isRow_6 : decode cX4_isRow 6 = .ok (.iconst 1, 1) := by decide +kernel
theorem dX4_isRow_7 : decode cX4_isRow 7 = .ok (.if_icmp .le 7, 3) := by decide +kernel
theorem dX4_isRow_10 : decode cX4_isRow 10 = .ok (.iconst 1, 1) := by decide +kernel
theorem dX4_isRow_11 : decode cX4_isRow 11 = .ok (.goto 4, 3) := by decide +kernel
theorem dX4_isRow_14 : decode cX4_isRow 14 = .ok (.iconst 0, 1) := by decide +kernel
theorem dX4_isRow_15 : decode cX4_isRow 15 = .ok (.ireturn, 1) := by decide +kernel
theorem dX4_lacks_0 : decode cX4_lacks 0 = .ok (.aload_n 0, 1) := by decide +kernel
theorem dX4_lacks_1 : decode cX4_lacks 1 = .ok (.getfield 7, 3) := by decide +kernel
theorem dX4_lacks_4 : decode cX4_lacks 4 = .ok (.iload_n 1, 1) := by decide +kernel
theorem dX4_lacks_5 : decode cX4_lacks 5 = .ok (.iaload, 1) := by decide +kernel
theorem dX4_lacks_6 : decode cX4_lacks 6 = .ok (.ifCond .ne 7, 3) := by decide +kernel
theorem dX4_lacks_9 : decode cX4_lacks 9 = .ok (.iconst (-1), 1) := by decide +kernel
theorem dX4_lacks_10 : decode cX4_lacks 10 = .ok (.goto 19, 3) := by decide +kernel
theorem dX4_lacks_13 : decode cX4_lacks 13 = .ok (.aload_n 0, 1) := by decide +kernel
theorem dX4_lacks_14 : decode cX4_lacks 14 = .ok (.getfield 7, 3) := by decide +kernel
theorem dX4_lacks_17 : decode cX4_lacks 17 = .ok (.iload_n 1, 1) := by decide +kernel
theorem dX4_lacks_18 : decode cX4_lacks 18 = .ok (.iaload, 1) := by decide +kernel
theorem dX4_lacks_19 : decode cX4_lacks 19 = .ok (.iconst 1, 1) := by decide +kernel
theorem dX4_lacks_20 : decode cX4_lacks 20 = .ok (.if_icmp .ne 8, 3) := by decide +kernel
theorem dX4_lacks_23 : decode cX4_lacks 23 = .ok (.bipush (-2), 2) := by decide +kernel
theorem dX4_lacks_25 : decode cX4_lacks 25 = .ok (.goto 4, 3) := by decide +kernel
theorem dX4_lacks_28 : decode cX4_lacks 28 = .ok (.iconst 0, 1) := by decide +kernel
theorem dX4_lacks_29 : decode cX4_lacks 29 = .ok (.ireturn, 1) := by decide +kernel
set_option maxRecDepth 20000 in
theorem ggX4_sizeOf_X4_isRow : GoodIn wsX4_sizeOf wsX4_isRow := goodIn_r _ [7, 8, 9, 10, 11, 12, 13, 14, 15, 16, 17, 18, 19, 20, 21, 22, 23, 24] (by decide +kernel) (by decide +kernel)
set_option maxRecDepth 20000 in
theorem gX4_sizeOf_X4_isRow : GoodIn wsX4_sizeOf (wsV RX4 53 RX4 yX4_isRow wsX4_isRow) := goodIn_app (goodIn_of _ (by decide +kernel)) ggX4_sizeOf_X4_isRow
theorem dX4_sizeOf_0 : decode cX4_sizeOf 0 = .ok (.aload_n 0, 1) := by decide +kernel
theorem dX4_sizeOf_1 : decode cX4_sizeOf 1 = .ok (.iload_n 1, 1) := by decide +kernel
theorem dX4_sizeOf_2 : decode cX4_sizeOf 2 = .ok (.invokevirtual 53, 3) := by decide +kernel
theorem dX4_sizeOf_5 : decode cX4_sizeOf 5 = .ok (.ifCond .eq 17, 3) := by decide +kernel
theorem dX4_sizeOf_8 : decode cX4_sizeOf 8 = .ok (.aload_n 0, 1) := by decide +kernel
theorem dX4_sizeOf_9 : decode cX4_sizeOf 9 = .ok (.getfield 22, 3) := by decide +kernel
theorem dX4_sizeOf_12 : decode cX4_sizeOf 12 = .ok (.aload_n 0, 1) := by decide +kernel
theorem dX4_sizeOf_13 : decode cX4_sizeOf 13 = .ok (.getfield 13, 3) := by decide +kernel
theorem dX4_sizeOf_16 : decode cX4_sizeOf 16 = .ok (.iload_n 1, 1) := by decide +kernel
theorem dX4_sizeOf_17 : decode cX4_sizeOf 17 = .ok (.iaload, 1) := by decide +kernel
theorem dX4_sizeOf_18 : decode cX4_sizeOf 18 = .ok (.iaload, 1) := by decide +kernel
theorem dX4_sizeOf_19 : decode cX4_sizeOf 19 = .ok (.goto 4, 3) := by decide +kernel
theorem dX4_sizeOf_22 : decode cX4_sizeOf 22 = .ok (.iconst 0, 1) := by decide +kernel
theorem dX4_sizeOf_23 : decode cX4_sizeOf 23 = .ok (.ireturn, 1) := by decide +kernel
theorem dX4_get_0 : decode cX4_get 0 = .ok (.aload_n 0, 1) := by decide +kernel
theorem dX4_get_1 : decode cX4_get 1 = .ok (.getfield 26, 3) := by decide +kernel
theorem dX4_get_4 : decode cX4_get 4 = .ok (.aload_n 0, 1) := by decide +kernel
theorem dX4_get_5 : decode cX4_get 5 = .ok (.getfield 19, 3) := by decide +kernel
theorem dX4_get_8 : decode cX4_get 8 = .ok (.aload_n 0, 1) := by decide +kernel
theorem dX4_get_9 : decode cX4_get 9 = .ok (.getfield 13, 3) := by decide +kernel
theorem dX4_get_12 : decode cX4_get 12 = .ok (.iload_n 1, 1) := by decide +kernel
theorem dX4_get_13 : decode cX4_get 13 = .ok (.iaload, 1) := by decide +kernel
theorem dX4_get_14 : decode cX4_get 14 = .ok (.iaload, 1) := by decide +kernel
theorem dX4_get_15 : decode cX4_get 15 = .ok (.iload_n 2, 1) := by decide +kernel
theorem dX4_get_16 : decode cX4_get 16 = .ok (.iadd, 1) := by decide +kernel
theorem dX4_get_17 : decode cX4_get 17 = .ok (.laload, 1) := by decide +kernel
theorem dX4_get_18 : decode cX4_get 18 = .ok (.lreturn, 1) := by decide +kernel
theorem dX4_set_0 : decode cX4_set 0 = .ok (.aload_n 0, 1) := by decide +kernel
theorem dX4_set_1 : decode cX4_set 1 = .ok (.getfield 26, 3) := by decide +kernel
theorem dX4_set_4 : decode cX4_set 4 = .ok (.aload_n 0, 1) := by decide +kernel
theorem dX4_set_5 : decode cX4_set 5 = .ok (.getfield 19, 3) := by decide +kernel
theorem dX4_set_8 : decode cX4_set 8 = .ok (.aload_n 0, 1) := by decide +kernel
theorem dX4_set_9 : decode cX4_set 9 = .ok (.getfield 13, 3) := by decide +kernel
theorem dX4_set_12 : decode cX4_set 12 = .ok (.iload_n 1, 1) := by decide +kernel
theorem dX4_set_13 : decode cX4_set 13 = .ok (.iaload, 1) := by decide +kernel
theorem dX4_set_14 : decode cX4_set 14 = .ok (.iaload, 1) := by decide +kernel
theorem dX4_set_15 : decode cX4_set 15 = .ok (.iload_n 2, 1) := by decide +kernel
theorem dX4_set_16 : decode cX4_set 16 = .ok (.iadd, 1) := by decide +kernel
theorem dX4_set_17 : decode cX4_set 17 = .ok (.lload_n 3, 1) := by decide +kernel
theorem dX4_set_18 : decode cX4_set 18 = .ok (.lastore, 1) := by decide +kernel
theorem dX4_set_19 : decode cX4_set 19 = .ok (.return_, 1) := by decide +kernel
set_option maxRecDepth 20000 in
theorem ggX4_goes_X4_isNumbers : GoodIn wsX4_goes wsX4_isNumbers := goodIn_r _ [5, 6, 7, 4, 8] (by decide +kernel) (by decide +kernel)
set_option maxRecDepth 20000 in
theorem gX4_goes_X4_isNumbers : GoodIn wsX4_goes (va_wsS RX4 57 yX4_isNumbers wsX4_isNumbers) := goodIn_app (goodIn_of _ (by decide +kernel)) ggX4_goes_X4_isNumbers
theorem dX4_goes_0 : decode cX4_goes 0 = .ok (.iload_n 1, 1) := by decide +kernel
theorem dX4_goes_1 : decode cX4_goes 1 = .ok (.invokestatic 57, 3) := by decide +kernel
theorem dX4_goes_4 : decode cX4_goes 4 = .ok (.ifCond .ne 9, 3) := by decide +kernel
theorem dX4_goes_7 : decode cX4_goes 7 = .ok (.lload_n 2, 1) := by decide +kernel
theorem dX4_goes_8 : decode cX4_goes 8 = .ok (.lconst 0, 1) := by decide +kernel
theorem dX4_goes_9 : decode cX4_goes 9 = .ok (.lcmp, 1) := by decide +kernel
theorem dX4_goes_10 : decode cX4_goes 10 = .ok (.ifCond .ne 5, 3) := by decide +kernel
theorem dX4_goes_13 : decode cX4_goes 13 = .ok (.iconst 1, 1) := by decide +kernel
theorem dX4_goes_14 : decode cX4_goes 14 = .ok (.ireturn, 1) := by decide +kernel
theorem dX4_goes_15 : decode cX4_goes 15 = .ok (.iload_n 1, 1) := by decide +kernel
theorem dX4_goes_16 : decode cX4_goes 16 = .ok (.bipush 13, 2) := by decide +kernel
theorem dX4_goes_18 : decode cX4_goes 18 = .ok (.if_icmp .eq 9, 3) := by decide +kernel
theorem dX4_goes_21 : decode cX4_goes 21 = .ok (.lload_n 2, 1) := by decide +kernel
theorem dX4_goes_22 : decode cX4_goes 22 = .ok (.lconst 0, 1) := by decide +kernel
theorem dX4_goes_23 : decode cX4_goes 23 = .ok (.lcmp, 1) := by decide +kernel
theorem dX4_goes_24 : decode cX4_goes 24 = .ok (.ifCond .ge 21, 3) := by decide +kernel
theorem dX4_goes_27 : decode cX4_goes 27 = .ok (.iload_n 1, 1) := by decide +kernel
theorem dX4_goes_28 : decode cX4_goes 28 = .ok (.bipush 13, 2) := by decide +kernel
theorem dX4_goes_30 : decode cX4_goes 30 = .ok (.if_icmp .ne 13, 3) := by decide +kernel
theorem dX4_goes_33 : decode cX4_goes 33 = .ok (.lload_n 2, 1) := by decide +kernel
theorem dX4_goes_34 : decode cX4_goes 34 = .ok (.lconst 0, 1) := by decide +kernel
theorem dX4_goes_35 : decode cX4_goes 35 = .ok (.lcmp, 1) := by decide +kernel
theorem dX4_goes_36 : decode cX4_goes 36 = .ok (.ifCond .ge 7, 3) := by decide +kernel
theorem dX4_goes_39 : decode cX4_goes 39 = .ok (.iconst 1, 1) := by decide +kernel
theorem dX4_goes_40 : decode cX4_goes 40 = .ok (.goto 4, 3) := by decide +kernel
theorem dX4_goes_43 : decode cX4_goes 43 = .ok (.iconst 0, 1) := by decide +kernel
theorem dX4_goes_44 : decode cX4_goes 44 = .ok (.ireturn, 1) := by decide +kernel
theorem dX4_goes_45 : decode cX4_goes 45 = .ok (.aload_n 0, 1) := by decide +kernel
theorem dX4_goes_46 : decode cX4_goes 46 = .ok (.getfield 30, 3) := by decide +kernel
theorem dX4_goes_49 : decode cX4_goes 49 = .ok (.lload_n 2, 1) := by decide +kernel
theorem dX4_goes_50 : decode cX4_goes 50 = .ok (.l2i, 1) := by decide +kernel
theorem dX4_goes_51 : decode cX4_goes 51 = .ok (.iaload, 1) := by decide +kernel
theorem dX4_goes_52 : decode cX4_goes 52 = .ok (.istore 4, 2) := by decide +kernel
theorem dX4_goes_54 : decode cX4_goes 54 = .ok (.iload_n 1, 1) := by decide +kernel
theorem dX4_goes_55 : decode cX4_goes 55 = .ok (.bipush 10, 2) := by decide +kernel
theorem dX4_goes_57 : decode cX4_goes 57 = .ok (.if_icmp .eq 27, 3) := by decide +kernel
theorem dX4_goes_60 : decode cX4_goes 60 = .ok (.iload_n 1, 1) := by decide +kernel
theorem dX4_goes_61 : decode cX4_goes 61 = .ok (.bipush 11, 2) := by decide +kernel
theorem dX4_goes_63 : decode cX4_goes 63 = .ok (.if_icmp .ne 9, 3) := by decide +kernel
theorem dX4_goes_66 : decode cX4_goes 66 = .ok (.iload 4, 2) := by decide +kernel
theorem dX4_goes_68 : decode cX4_goes 68 = .ok (.iconst 2, 1) := by decide +kernel
theorem dX4_goes_69 : decode cX4_goes 69 = .ok (.if_icmp .eq 15, 3) := by decide +kernel
theorem dX4_goes_72 : decode cX4_goes 72 = .ok (.iload_n 1, 1) := by decide +kernel
theorem dX4_goes_73 : decode cX4_goes 73 = .ok (.bipush 12, 2) := by decide +kernel
theorem dX4_goes_75 : decode cX4_goes 75 = .ok (.if_icmp .ne 13, 3) := by decide +kernel
theorem dX4_goes_78 : decode cX4_goes 78 = .ok (.iload 4, 2) := by decide +kernel
theorem dX4_goes_80 : decode cX4_goes 80 = .ok (.iconst 3, 1) := by decide +kernel
theorem dX4_goes_81 : decode cX4_goes 81 = .ok (.if_icmp .lt 7, 3) := by decide +kernel
theorem dX4_goes_84 : decode cX4_goes 84 = .ok (.iconst 1, 1) := by decide +kernel
theorem dX4_goes_85 : decode cX4_goes 85 = .ok (.goto 4, 3) := by decide +kernel
theorem dX4_goes_88 : decode cX4_goes 88 = .ok (.iconst 0, 1) := by decide +kernel
theorem dX4_goes_89 : decode cX4_goes 89 = .ok (.ireturn, 1) := by decide +kernel
set_option maxRecDepth 20000 in
theorem ggX4_lay_X4_isTray : GoodIn wsX4_lay wsX4_isTray := goodIn_r _ [11, 12, 13, 10, 14] (by decide +kernel) (by decide +kernel)
set_option maxRecDepth 20000 in
theorem gX4_lay_X4_isTray : GoodIn wsX4_lay (va_wsS RX4 60 yX4_isTray wsX4_isTray) := goodIn_app (goodIn_of _ (by decide +kernel)) ggX4_lay_X4_isTray
set_option maxRecDepth 20000 in
theorem ggX4_lay_X4_in : GoodIn wsX4_lay wsX4_in := goodIn_r _ [14] (by decide +kernel) (by decide +kernel)
set_option maxRecDepth 20000 in
theorem gX4_lay_X4_in : GoodIn wsX4_lay (va_wsS RX4 49 yX4_in wsX4_in) := goodIn_app (goodIn_of _ (by decide +kernel)) ggX4_lay_X4_in
theorem dX4_lay_0 : decode cX4_lay 0 = .ok (.iload_n 1, 1) := by decide +kernel
theorem dX4_lay_1 : decode cX4_lay 1 = .ok (.invokestatic 60, 3) := by decide +kernel
theorem dX4_lay_4 : decode cX4_lay 4 = .ok (.ifCond .eq 23, 3) := by decide +kernel
theorem dX4_lay_7 : decode cX4_lay 7 = .ok (.iload_n 2, 1) := by decide +kernel
theorem dX4_lay_8 : decode cX4_lay 8 = .ok (.iconst 2, 1) := by decide +kernel
theorem dX4_lay_9 : decode cX4_lay 9 = .ok (.bipush 13, 2) := by decide +kernel
theorem dX4_lay_11 : decode cX4_lay 11 = .ok (.invokestatic 49, 3) := by decide +kernel
theorem dX4_lay_14 : decode cX4_lay 14 = .ok (.ifCond .eq 13, 3) := by decide +kernel
theorem dX4_lay_17 : decode cX4_lay 17 = .ok (.iload_n 3, 1) := by decide +kernel
theorem dX4_lay_18 : decode cX4_lay 18 = .ok (.iconst 0, 1) := by decide +kernel
theorem dX4_lay_19 : decode cX4_lay 19 = .ok (.bipush 64, 2) := by decide +kernel
theorem dX4_lay_21 : decode cX4_lay 21 = .ok (.invokestatic 49, 3) := by decide +kernel
theorem dX4_lay_24 : decode cX4_lay 24 = .ok (.ifCond .ne 6, 3) := by decide +kernel
theorem dX4_lay_27 : decode cX4_lay 27 = .ok (.bipush (-6), 2) := by decide +kernel
theorem dX4_lay_29 : decode cX4_lay 29 = .ok (.ireturn, 1) := by decide +kernel
theorem dX4_lay_30 : decode cX4_lay 30 = .ok (.aload_n 0, 1) := by decide +kernel
theorem dX4_lay_31 : decode cX4_lay 31 = .ok (.getfield 16, 3) := by decide +kernel
theorem dX4_lay_34 : decode cX4_lay 34 = .ok (.aload_n 0, 1) := by decide +kernel
theorem dX4_lay_35 : decode cX4_lay 35 = .ok (.getfield 63, 3) := by decide +kernel
theorem dX4_lay_38 : decode cX4_lay 38 = .ok (.iload_n 2, 1) := by decide +kernel
theorem dX4_lay_39 : decode cX4_lay 39 = .ok (.iastore, 1) := by decide +kernel
theorem dX4_lay_40 : decode cX4_lay 40 = .ok (.aload_n 0, 1) := by decide +kernel
theorem dX4_lay_41 : decode cX4_lay 41 = .ok (.getfield 19, 3) := by decide +kernel
theorem dX4_lay_44 : decode cX4_lay 44 = .ok (.aload_n 0, 1) := by decide +kernel
theorem dX4_lay_45 : decode cX4_lay 45 = .ok (.getfield 63, 3) := by decide +kernel
theorem dX4_lay_48 : decode cX4_lay 48 = .ok (.aload_n 0, 1) := by decide +kernel
theorem dX4_lay_49 : decode cX4_lay 49 = .ok (.getfield 66, 3) := by decide +kernel
theorem dX4_lay_52 : decode cX4_lay 52 = .ok (.iastore, 1) := by decide +kernel
theorem dX4_lay_53 : decode cX4_lay 53 = .ok (.aload_n 0, 1) := by decide +kernel
theorem dX4_lay_54 : decode cX4_lay 54 = .ok (.getfield 22, 3) := by decide +kernel
theorem dX4_lay_57 : decode cX4_lay 57 = .ok (.aload_n 0, 1) := by decide +kernel
theorem dX4_lay_58 : decode cX4_lay 58 = .ok (.getfield 63, 3) := by decide +kernel
theorem dX4_lay_61 : decode cX4_lay 61 = .ok (.iload_n 3, 1) := by decide +kernel
theorem dX4_lay_62 : decode cX4_lay 62 = .ok (.iastore, 1) := by decide +kernel
theorem dX4_lay_63 : decode cX4_lay 63 = .ok (.aload_n 0, 1) := by decide +kernel
theorem dX4_lay_64 : decode cX4_lay 64 = .ok (.getfield 7, 3) := by decide +kernel
theorem dX4_lay_67 : decode cX4_lay 67 = .ok (.iload_n 1, 1) := by decide +kernel
theorem dX4_lay_68 : decode cX4_lay 68 = .ok (.iload_n 2, 1) := by decide +kernel
theorem dX4_lay_69 : decode cX4_lay 69 = .ok (.iastore, 1) := by decide +kernel
theorem dX4_lay_70 : decode cX4_lay 70 = .ok (.aload_n 0, 1) := by decide +kernel
theorem dX4_lay_71 : decode cX4_lay 71 = .ok (.getfield 13, 3) := by decide +kernel
theorem dX4_lay_74 : decode cX4_lay 74 = .ok (.iload_n 1, 1) := by decide +kernel
theorem dX4_lay_75 : decode cX4_lay 75 = .ok (.aload_n 0, 1) := by decide +kernel
theorem dX4_lay_76 : decode cX4_lay 76 = .ok (.getfield 63, 3) := by decide +kernel
theorem dX4_lay_79 : decode cX4_lay 79 = .ok (.iastore, 1) := by decide +kernel
theorem dX4_lay_80 : decode cX4_lay 80 = .ok (.aload_n 0, 1) := by decide +kernel
theorem dX4_lay_81 : decode cX4_lay 81 = .ok (.dup, 1) := by decide +kernel
theorem dX4_lay_82 : decode cX4_lay 82 = .ok (.getfield 63, 3) := by decide +kernel
theorem dX4_lay_85 : decode cX4_lay 85 = .ok (.iconst 1, 1) := by decide +kernel
theorem dX4_lay_86 : decode cX4_lay 86 = .ok (.iadd, 1) := by decide +kernel
theorem dX4_lay_87 : decode cX4_lay 87 = .ok (.putfield 63, 3) := by decide +kernel
theorem dX4_lay_90 : decode cX4_lay 90 = .ok (.aload_n 0, 1) := by decide +kernel
theorem dX4_lay_91 : decode cX4_lay 91 = .ok (.dup, 1) := by decide +kernel
theorem dX4_lay_92 : decode cX4_lay 92 = .ok (.getfield 66, 3) := by decide +kernel
theorem dX4_lay_95 : decode cX4_lay 95 = .ok (.iload_n 3, 1) := by decide +kernel
theorem dX4_lay_96 : decode cX4_lay 96 = .ok (.iadd, 1) := by decide +kernel
theorem dX4_lay_97 : decode cX4_lay 97 = .ok (.putfield 66, 3) := by decide +kernel
theorem dX4_lay_100 : decode cX4_lay 100 = .ok (.iload_n 3, 1) := by decide +kernel
theorem dX4_lay_101 : decode cX4_lay 101 = .ok (.ireturn, 1) := by decide +kernel
set_option maxRecDepth 20000 in
theorem ggX4_ticket_X4_isTray : GoodIn wsX4_ticket wsX4_isTray := goodIn_r _ [6, 7, 8, 5, 9] (by decide +kernel) (by decide +kernel)
set_option maxRecDepth 20000 in
theorem gX4_ticket_X4_isTray : GoodIn wsX4_ticket (va_wsS RX4 60 yX4_isTray wsX4_isTray) := goodIn_app (goodIn_of _ (by decide +kernel)) ggX4_ticket_X4_isTray
set_option maxRecDepth 20000 in
theorem ggX4_ticket_X4_in : GoodIn wsX4_ticket wsX4_in := goodIn_r _ [9] (by decide +kernel) (by decide +kernel)
set_option maxRecDepth 20000 in
theorem gX4_ticket_X4_in : GoodIn wsX4_ticket (va_wsS RX4 49 yX4_in wsX4_in) := goodIn_app (goodIn_of _ (by decide +kernel)) ggX4_ticket_X4_in
theorem dX4_ticket_0 : decode cX4_ticket 0 = .ok (.iload_n 1, 1) := by decide +kernel
theorem dX4_ticket_1 : decode cX4_ticket 1 = .ok (.invokestatic 60, 3) := by decide +kernel
theorem dX4_ticket_4 : decode cX4_ticket 4 = .ok (.ifCond .eq 12, 3) := by decide +kernel
theorem dX4_ticket_7 : decode cX4_ticket 7 = .ok (.iload_n 2, 1) := by decide +kernel
theorem dX4_ticket_8 : decode cX4_ticket 8 = .ok (.iconst 0, 1) := by decide +kernel
theorem dX4_ticket_9 : decode cX4_ticket 9 = .ok (.iconst 1, 1) := by decide +kernel
theorem dX4_ticket_10 : decode cX4_ticket 10 = .ok (.invokestatic 49, 3) := by decide +kernel
theorem dX4_ticket_13 : decode cX4_ticket 13 = .ok (.ifCond .ne 5, 3) := by decide +kernel
theorem dX4_ticket_16 : decode cX4_ticket 16 = .ok (.iconst 0, 1) := by decide +kernel
theorem dX4_ticket_17 : decode cX4_ticket 17 = .ok (.ireturn, 1) := by decide +kernel
theorem dX4_ticket_18 : decode cX4_ticket 18 = .ok (.aload_n 0, 1) := by decide +kernel
theorem dX4_ticket_19 : decode cX4_ticket 19 = .ok (.getfield 7, 3) := by decide +kernel
theorem dX4_ticket_22 : decode cX4_ticket 22 = .ok (.iload_n 1, 1) := by decide +kernel
theorem dX4_ticket_23 : decode cX4_ticket 23 = .ok (.iload_n 2, 1) := by decide +kernel
theorem dX4_ticket_24 : decode cX4_ticket 24 = .ok (.iastore, 1) := by decide +kernel
theorem dX4_ticket_25 : decode cX4_ticket 25 = .ok (.aload_n 0, 1) := by decide +kernel
theorem dX4_ticket_26 : decode cX4_ticket 26 = .ok (.getfield 13, 3) := by decide +kernel
theorem dX4_ticket_29 : decode cX4_ticket 29 = .ok (.iload_n 1, 1) := by decide +kernel
theorem dX4_ticket_30 : decode cX4_ticket 30 = .ok (.iload_n 2, 1) := by decide +kernel
theorem dX4_ticket_31 : decode cX4_ticket 31 = .ok (.iconst 1, 1) := by decide +kernel
theorem dX4_ticket_32 : decode cX4_ticket 32 = .ok (.if_icmp .ne 7, 3) := by decide +kernel
theorem dX4_ticket_35 : decode cX4_ticket 35 = .ok (.iload_n 3, 1) := by decide +kernel
theorem dX4_ticket_36 : decode cX4_ticket 36 = .ok (.goto 4, 3) := by decide +kernel
theorem dX4_ticket_39 : decode cX4_ticket 39 = .ok (.iconst 0, 1) := by decide +kernel
theorem dX4_ticket_40 : decode cX4_ticket 40 = .ok (.iastore, 1) := by decide +kernel
theorem dX4_ticket_41 : decode cX4_ticket 41 = .ok (.iconst 1, 1) := by decide +kernel
theorem dX4_ticket_42 : decode cX4_ticket 42 = .ok (.ireturn, 1) := by decide +kernel
set_option maxRecDepth 20000 in
theorem ggX4_share_X4_isTray : GoodIn wsX4_share wsX4_isTray := goodIn_r _ [6, 7, 8, 5, 9] (by decide +kernel) (by decide +kernel)
set_option maxRecDepth 20000 in
theorem gX4_share_X4_isTray : GoodIn wsX4_share (va_wsS RX4 60 yX4_isTray wsX4_isTray) := goodIn_app (goodIn_of _ (by decide +kernel)) ggX4_share_X4_isTray
theorem dX4_share_0 : decode cX4_share 0 = .ok (.iload_n 1, 1) := by decide +kernel
theorem dX4_share_1 : decode cX4_share 1 = .ok (.invokestatic 60, 3) := by decide +kernel
theorem dX4_share_4 : decode cX4_share 4 = .ok (.ifCond .eq 10, 3) := by decide +kernel
theorem dX4_share_7 : decode cX4_share 7 = .ok (.iload_n 2, 1) := by decide +kernel
theorem dX4_share_8 : decode cX4_share 8 = .ok (.invokestatic 60, 3) := by decide +kernel
theorem dX4_share_11 : decode cX4_share 11 = .ok (.ifCond .ne 6, 3) := by decide +kernel
theorem dX4_share_14 : decode cX4_share 14 = .ok (.bipush (-6), 2) := by decide +kernel
theorem dX4_share_16 : decode cX4_share 16 = .ok (.ireturn, 1) := by decide +kernel
theorem dX4_share_17 : decode cX4_share 17 = .ok (.aload_n 0, 1) := by decide +kernel
theorem dX4_share_18 : decode cX4_share 18 = .ok (.getfield 7, 3) := by decide +kernel
theorem dX4_share_21 : decode cX4_share 21 = .ok (.iload_n 2, 1) := by decide +kernel
theorem dX4_share_22 : decode cX4_share 22 = .ok (.aload_n 0, 1) := by decide +kernel
theorem dX4_share_23 : decode cX4_share 23 = .ok (.getfield 7, 3) := by decide +kernel
theorem dX4_share_26 : decode cX4_share 26 = .ok (.iload_n 1, 1) := by decide +kernel
theorem dX4_share_27 : decode cX4_share 27 = .ok (.iaload, 1) := by decide +kernel
theorem dX4_share_28 : decode cX4_share 28 = .ok (.iastore, 1) := by decide +kernel
theorem dX4_share_29 : decode cX4_share 29 = .ok (.aload_n 0, 1) := by decide +kernel
theorem dX4_share_30 : decode cX4_share 30 = .ok (.getfield 13, 3) := by decide +kernel
theorem dX4_share_33 : decode cX4_share 33 = .ok (.iload_n 2, 1) := by decide +kernel
theorem dX4_share_34 : decode cX4_share 34 = .ok (.aload_n 0, 1) := by decide +kernel
theorem dX4_share_35 : decode cX4_share 35 = .ok (.getfield 13, 3) := by decide +kernel
theorem dX4_share_38 : decode cX4_share 38 = .ok (.iload_n 1, 1) := by decide +kernel
theorem dX4_share_39 : decode cX4_share 39 = .ok (.iaload, 1) := by decide +kernel
theorem dX4_share_40 : decode cX4_share 40 = .ok (.iastore, 1) := by decide +kernel
theorem dX4_share_41 : decode cX4_share 41 = .ok (.aload_n 0, 1) := by decide +kernel
theorem dX4_share_42 : decode cX4_share 42 = .ok (.getfield 7, 3) := by decide +kernel
theorem dX4_share_45 : decode cX4_share 45 = .ok (.iload_n 2, 1) := by decide +kernel
theorem dX4_share_46 : decode cX4_share 46 = .ok (.iaload, 1) := by decide +kernel
theorem dX4_share_47 : decode cX4_share 47 = .ok (.ireturn, 1) := by decide +kernel
theorem dX4_narrowed_0 : decode cX4_narrowed 0 = .ok (.iload_n 0, 1) := by decide +kernel
theorem dX4_narrowed_1 : decode cX4_narrowed 1 = .ok (.tableswitch 120 2 8 #[43, 53, 83, 89, 120, 120, 116], 43) := by decide +kernel
theorem dX4_narrowed_44 : decode cX4_narrowed 44 = .ok (.iload_n 1, 1) := by decide +kernel
theorem dX4_narrowed_45 : decode cX4_narrowed 45 = .ok (.ifCond .ne 7, 3) := by decide +kernel
theorem dX4_narrowed_48 : decode cX4_narrowed 48 = .ok (.lconst 0, 1) := by decide +kernel
theorem dX4_narrowed_49 : decode cX4_narrowed 49 = .ok (.goto 4, 3) := by decide +kernel
theorem dX4_narrowed_52 : decode cX4_narrowed 52 = .ok (.lconst 1, 1) := by decide +kernel
theorem dX4_narrowed_53 : decode cX4_narrowed 53 = .ok (.lreturn, 1) := by decide +kernel
theorem dX4_narrowed_54 : decode cX4_narrowed 54 = .ok (.iload_n 1, 1) := by decide +kernel
theorem dX4_narrowed_55 : decode cX4_narrowed 55 = .ok (.sipush 255, 3) := by decide +kernel
theorem dX4_narrowed_58 : decode cX4_narrowed 58 = .ok (.iand, 1) := by decide +kernel
theorem dX4_narrowed_59 : decode cX4_narrowed 59 = .ok (.bipush 127, 2) := by decide +kernel
theorem dX4_narrowed_61 : decode cX4_narrowed 61 = .ok (.if_icmp .le 16, 3) := by decide +kernel
theorem dX4_narrowed_64 : decode cX4_narrowed 64 = .ok (.iload_n 1, 1) := by decide +kernel
theorem dX4_narrowed_65 : decode cX4_narrowed 65 = .ok (.sipush 255, 3) := by decide +kernel
theorem dX4_narrowed_68 : decode cX4_narrowed 68 = .ok (.iand, 1) := by decide +kernel
theorem dX4_narrowed_69 : decode cX4_narrowed 69 = .ok (.sipush 256, 3) := by decide +kernel
theorem dX4_narrowed_72 : decode cX4_narrowed 72 = .ok (.isub, 1) := by decide +kernel
theorem dX4_narrowed_73 : decode cX4_narrowed 73 = .ok (.i2l, 1) := by decide +kernel
theorem dX4_narrowed_74 : decode cX4_narrowed 74 = .ok (.goto 9, 3) := by decide +kernel
theorem dX4_narrowed_77 : decode cX4_narrowed 77 = .ok (.iload_n 1, 1) := by decide +kernel
theorem dX4_narrowed_78 : decode cX4_narrowed 78 = .ok (.sipush 255, 3) := by decide +kernel
theorem dX4_narrowed_81 : decode cX4_narrowed 81 = .ok (.iand, 1) := by decide +kernel
theorem dX4_narrowed_82 : decode cX4_narrowed 82 = .ok (.i2l, 1) := by decide +kernel
theorem dX4_narrowed_83 : decode cX4_narrowed 83 = .ok (.lreturn, 1) := by decide +kernel
theorem dX4_narrowed_84 : decode cX4_narrowed 84 = .ok (.iload_n 1, 1) := by decide +kernel
theorem dX4_narrowed_85 : decode cX4_narrowed 85 = .ok (.ldc 69, 2) := by decide +kernel
theorem dX4_narrowed_87 : decode cX4_narrowed 87 = .ok (.iand, 1) := by decide +kernel
theorem dX4_narrowed_88 : decode cX4_narrowed 88 = .ok (.i2l, 1) := by decide +kernel
theorem dX4_narrowed_89 : decode cX4_narrowed 89 = .ok (.lreturn, 1) := by decide +kernel
theorem dX4_narrowed_90 : decode cX4_narrowed 90 = .ok (.iload_n 1, 1) := by decide +kernel
theorem dX4_narrowed_91 : decode cX4_narrowed 91 = .ok (.ldc 69, 2) := by decide +kernel
theorem dX4_narrowed_93 : decode cX4_narrowed 93 = .ok (.iand, 1) := by decide +kernel
theorem dX4_narrowed_94 : decode cX4_narrowed 94 = .ok (.sipush 32767, 3) := by decide +kernel
theorem dX4_narrowed_97 : decode cX4_narrowed 97 = .ok (.if_icmp .le 14, 3) := by decide +kernel
theorem dX4_narrowed_100 : decode cX4_narrowed 100 = .ok (.iload_n 1, 1) := by decide +kernel
theorem dX4_narrowed_101 : decode cX4_narrowed 101 = .ok (.ldc 69, 2) := by decide +kernel
theorem dX4_narrowed_103 : decode cX4_narrowed 103 = .ok (.iand, 1) := by decide +kernel
theorem dX4_narrowed_104 : decode cX4_narrowed 104 = .ok (.ldc 70, 2) := by decide +kernel
theorem dX4_narrowed_106 : decode cX4_narrowed 106 = .ok (.isub, 1) := by decide +kernel
theorem dX4_narrowed_107 : decode cX4_narrowed 107 = .ok (.i2l, 1) := by decide +kernel
theorem dX4_narrowed_108 : decode cX4_narrowed 108 = .ok (.goto 8, 3) := by decide +kernel
theorem dX4_narrowed_111 : decode cX4_narrowed 111 = .ok (.iload_n 1, 1) := by decide +kernel
theorem dX4_narrowed_112 : decode cX4_narrowed 112 = .ok (.ldc 69, 2) := by decide +kernel
theorem dX4_narrowed_114 : decode cX4_narrowed 114 = .ok (.iand, 1) := by decide +kernel
theorem dX4_narrowed_115 : decode cX4_narrowed 115 = .ok (.i2l, 1) := by decide +kernel
theorem dX4_narrowed_116 : decode cX4_narrowed 116 = .ok (.lreturn, 1) := by decide +kernel
theorem dX4_narrowed_117 : decode cX4_narrowed 117 = .ok (.iload_n 1, 1) := by decide +kernel
theorem dX4_narrowed_118 : decode cX4_narrowed 118 = .ok (.i2f, 1) := by decide +kernel
theorem dX4_narrowed_119 : decode cX4_narrowed 119 = .ok (.f2l, 1) := by decide +kernel
theorem dX4_narrowed_120 : decode cX4_narrowed 120 = .ok (.lreturn, 1) := by decide +kernel
theorem dX4_narrowed_121 : decode cX4_narrowed 121 = .ok (.iload_n 1, 1) := by decide +kernel
theorem dX4_narrowed_122 : decode cX4_narrowed 122 = .ok (.i2l, 1) := by decide +kernel
theorem dX4_narrowed_123 : decode cX4_narrowed 123 = .ok (.lreturn, 1) := by decide +kernel
theorem dX4_made_0 : decode cX4_made 0 = .ok (.iload_n 1, 1) := by decide +kernel
theorem dX4_made_1 : decode cX4_made 1 = .ok (.iconst 5, 1) := by decide +kernel
theorem dX4_made_2 : decode cX4_made 2 = .ok (.irem, 1) := by decide +kernel
theorem dX4_made_3 : decode cX4_made 3 = .ok (.ifCond .ge 11, 3) := by decide +kernel
theorem dX4_made_6 : decode cX4_made 6 = .ok (.iload_n 1, 1) := by decide +kernel
theorem dX4_made_7 : decode cX4_made 7 = .ok (.iconst 5, 1) := by decide +kernel
theorem dX4_made_8 : decode cX4_made 8 = .ok (.irem, 1) := by decide +kernel
theorem dX4_made_9 : decode cX4_made 9 = .ok (.iconst 5, 1) := by decide +kernel
theorem dX4_made_10 : decode cX4_made 10 = .ok (.iadd, 1) := by decide +kernel
theorem dX4_made_11 : decode cX4_made 11 = .ok (.goto 6, 3) := by decide +kernel
theorem dX4_made_14 : decode cX4_made 14 = .ok (.iload_n 1, 1) := by decide +kernel
theorem dX4_made_15 : decode cX4_made 15 = .ok (.iconst 5, 1) := by decide +kernel
theorem dX4_made_16 : decode cX4_made 16 = .ok (.irem, 1) := by decide +kernel
theorem dX4_made_17 : decode cX4_made 17 = .ok (.istore_n 2, 1) := by decide +kernel
theorem dX4_made_18 : decode cX4_made 18 = .ok (.iload_n 2, 1) := by decide +kernel
theorem dX4_made_19 : decode cX4_made 19 = .ok (.ifCond .ne 5, 3) := by decide +kernel
theorem dX4_made_22 : decode cX4_made 22 = .ok (.lconst 0, 1) := by decide +kernel
theorem dX4_made_23 : decode cX4_made 23 = .ok (.lreturn, 1) := by decide +kernel
theorem dX4_made_24 : decode cX4_made 24 = .ok (.aload_n 0, 1) := by decide +kernel
theorem dX4_made_25 : decode cX4_made 25 = .ok (.dup, 1) := by decide +kernel
theorem dX4_made_26 : decode cX4_made 26 = .ok (.getfield 71, 3) := by decide +kernel
theorem dX4_made_29 : decode cX4_made 29 = .ok (.iconst 1, 1) := by decide +kernel
theorem dX4_made_30 : decode cX4_made 30 = .ok (.iadd, 1) := by decide +kernel
theorem dX4_made_31 : decode cX4_made 31 = .ok (.putfield 71, 3) := by decide +kernel
theorem dX4_made_34 : decode cX4_made 34 = .ok (.aload_n 0, 1) := by decide +kernel
theorem dX4_made_35 : decode cX4_made 35 = .ok (.getfield 30, 3) := by decide +kernel
theorem dX4_made_38 : decode cX4_made 38 = .ok (.aload_n 0, 1) := by decide +kernel
theorem dX4_made_39 : decode cX4_made 39 = .ok (.getfield 71, 3) := by decide +kernel
theorem dX4_made_42 : decode cX4_made 42 = .ok (.iload_n 2, 1) := by decide +kernel
theorem dX4_made_43 : decode cX4_made 43 = .ok (.iastore, 1) := by decide +kernel
theorem dX4_made_44 : decode cX4_made 44 = .ok (.aload_n 0, 1) := by decide +kernel
theorem dX4_made_45 : decode cX4_made 45 = .ok (.getfield 71, 3) := by decide +kernel
theorem dX4_made_48 : decode cX4_made 48 = .ok (.i2l, 1) := by decide +kernel
theorem dX4_made_49 : decode cX4_made 49 = .ok (.lreturn, 1) := by decide +kernel
set_option maxRecDepth 20000 in
theorem ggX4_put_X4_isTray : GoodIn wsX4_put wsX4_isTray := goodIn_r _ [7, 8, 9, 6, 10] (by decide +kernel) (by decide +kernel)
set_option maxRecDepth 20000 in
theorem gX4_put_X4_isTray : GoodIn wsX4_put (va_wsS RX4 60 yX4_isTray wsX4_isTray) := goodIn_app (goodIn_of _ (by decide +kernel)) ggX4_put_X4_isTray
set_option maxRecDepth 20000 in
theorem ggX4_put_X4_isRow : GoodIn wsX4_put wsX4_isRow := goodIn_r _ [14, 1, 48, 49, 50, 51, 52, 53, 54, 55, 56, 57, 58, 59, 60, 61, 62, 63] (by decide +kernel) (by decide +kernel)
set_option maxRecDepth 20000 in
theorem gX4_put_X4_isRow : GoodIn wsX4_put (wsV RX4 53 RX4 yX4_isRow wsX4_isRow) := goodIn_app (goodIn_of _ (by decide +kernel)) ggX4_put_X4_isRow
set_option maxRecDepth 20000 in
theorem ggX4_put_X4_lacks : GoodIn wsX4_put wsX4_lacks := goodIn_r _ [18, 1, 48, 49, 50, 51, 52, 53, 54, 55, 56, 57, 58, 59, 60, 61, 62, 63] (by decide +kernel) (by decide +kernel)
set_option maxRecDepth 20000 in
theorem gX4_put_X4_lacks : GoodIn wsX4_put (wsV RX4 74 RX4 yX4_lacks wsX4_lacks) := goodIn_app (goodIn_of _ (by decide +kernel)) ggX4_put_X4_lacks
set_option maxRecDepth 20000 in
theorem ggX4_put_X4_isNumbers : GoodIn wsX4_put wsX4_isNumbers := goodIn_r _ [21, 8, 9, 6, 10] (by decide +kernel) (by decide +kernel)
set_option maxRecDepth 20000 in
theorem gX4_put_X4_isNumbers : GoodIn wsX4_put (va_wsS RX4 57 yX4_isNumbers wsX4_isNumbers) := goodIn_app (goodIn_of _ (by decide +kernel)) ggX4_put_X4_isNumbers
set_option maxRecDepth 20000 in
theorem ggX4_put_X4_narrowed : GoodIn wsX4_put wsX4_narrowed := goodIn_r _ [24, 25, 26] (by decide +kernel) (by decide +kernel)
set_option maxRecDepth 20000 in
theorem gX4_put_X4_narrowed : GoodIn wsX4_put (va_wsS RX4 78 yX4_narrowed wsX4_narrowed) := goodIn_app (goodIn_of _ (by decide +kernel)) ggX4_put_X4_narrowed
set_option maxRecDepth 20000 in
theorem ggX4_put_X4_made : GoodIn wsX4_put wsX4_made := goodIn_r _ [30, 31, 32, 48, 49, 50, 51, 52, 53, 54, 55, 56, 57, 58, 59, 60, 61, 62, 63] (by decide +kernel) (by decide +kernel)
set_option maxRecDepth 20000 in
theorem gX4_put_X4_made : GoodIn wsX4_put (wsV RX4 84 RX4 yX4_made wsX4_made) := goodIn_app (goodIn_of _ (by decide +kernel)) ggX4_put_X4_made
set_option maxRecDepth 20000 in
theorem ggX4_put_X4_sizeOf : GoodIn wsX4_put wsX4_sizeOf := goodIn_r _ [36, 37, 3, 11, 12, 13, 6, 14, 1, 48, 49, 50, 51, 52, 53, 54, 55, 56, 57, 58, 59, 60, 61, 62, 63] (by decide +kernel) (by decide +kernel)
set_option maxRecDepth 20000 in
theorem gX4_put_X4_sizeOf : GoodIn wsX4_put (wsV RX4 88 RX4 yX4_sizeOf wsX4_sizeOf) := goodIn_app (goodIn_of _ (by decide +kernel)) ggX4_put_X4_sizeOf
set_option maxRecDepth 20000 in
theorem ggX4_put_X4_in : GoodIn wsX4_put wsX4_in := goodIn_r _ [10] (by decide +kernel) (by decide +kernel)
set_option maxRecDepth 20000 in
theorem gX4_put_X4_in : GoodIn wsX4_put (va_wsS RX4 49 yX4_in wsX4_in) := goodIn_app (goodIn_of _ (by decide +kernel)) ggX4_put_X4_in
set_option maxRecDepth 20000 in
theorem ggX4_put_X4_goes : GoodIn wsX4_put wsX4_goes := goodIn_r _ [41, 32, 19, 20, 6, 21, 8, 9, 10, 48, 49, 50, 51, 52, 53, 54, 55, 56, 57, 58, 59, 60, 61, 62, 63] (by decide +kernel) (by decide +kernel)
set_option maxRecDepth 20000 in
theorem gX4_put_X4_goes : GoodIn wsX4_put (wsV RX4 91 RX4 yX4_goes wsX4_goes) := goodIn_app (goodIn_of _ (by decide +kernel)) ggX4_put_X4_goes
set_option maxRecDepth 20000 in
theorem ggX4_put_X4_set : GoodIn wsX4_put wsX4_set := goodIn_r _ [45, 46, 47, 3, 48, 49, 50, 51, 52, 53, 54, 55, 56, 57, 58, 59, 60, 61, 62, 63] (by decide +kernel) (by decide +kernel)
set_option maxRecDepth 20000 in
theorem gX4_put_X4_set : GoodIn wsX4_put (wsV RX4 95 RX4 yX4_set wsX4_set) := goodIn_app (goodIn_of _ (by decide +kernel)) ggX4_put_X4_set
theorem dX4_put_0 : decode cX4_put 0 = .ok (.iload_n 1, 1) := by decide +kernel
theorem dX4_put_1 : decode cX4_put 1 = .ok (.invokestatic 60, 3) := by decide +kernel
theorem dX4_put_4 : decode cX4_put 4 = .ok (.ifCond .ne 6, 3) := by decide +kernel
theorem dX4_put_7 : decode cX4_put 7 = .ok (.bipush (-6), 2) := by decide +kernel
theorem dX4_put_9 : decode cX4_put 9 = .ok (.ireturn, 1) := by decide +kernel
theorem dX4_put_10 : decode cX4_put 10 = .ok (.aload_n 0, 1) := by decide +kernel
theorem dX4_put_11 : decode cX4_put 11 = .ok (.iload_n 1, 1) := by decide +kernel
theorem dX4_put_12 : decode cX4_put 12 = .ok (.invokevirtual 53, 3) := by decide +kernel
theorem dX4_put_15 : decode cX4_put 15 = .ok (.ifCond .ne 9, 3) := by decide +kernel
theorem dX4_put_18 : decode cX4_put 18 = .ok (.aload_n 0, 1) := by decide +kernel
theorem dX4_put_19 : decode cX4_put 19 = .ok (.iload_n 1, 1) := by decide +kernel
theorem dX4_put_20 : decode cX4_put 20 = .ok (.invokevirtual 74, 3) := by decide +kernel
theorem dX4_put_23 : decode cX4_put 23 = .ok (.ireturn, 1) := by decide +kernel
theorem dX4_put_24 : decode cX4_put 24 = .ok (.aload_n 0, 1) := by decide +kernel
theorem dX4_put_25 : decode cX4_put 25 = .ok (.getfield 7, 3) := by decide +kernel
theorem dX4_put_28 : decode cX4_put 28 = .ok (.iload_n 1, 1) := by decide +kernel
theorem dX4_put_29 : decode cX4_put 29 = .ok (.iaload, 1) := by decide +kernel
theorem dX4_put_30 : decode cX4_put 30 = .ok (.istore 4, 2) := by decide +kernel
theorem dX4_put_32 : decode cX4_put 32 = .ok (.lconst 0, 1) := by decide +kernel
theorem dX4_put_33 : decode cX4_put 33 = .ok (.lstore 5, 2) := by decide +kernel
theorem dX4_put_35 : decode cX4_put 35 = .ok (.iload 4, 2) := by decide +kernel
theorem dX4_put_37 : decode cX4_put 37 = .ok (.invokestatic 57, 3) := by decide +kernel
theorem dX4_put_40 : decode cX4_put 40 = .ok (.ifCond .eq 14, 3) := by decide +kernel
theorem dX4_put_43 : decode cX4_put 43 = .ok (.iload 4, 2) := by decide +kernel
theorem dX4_put_45 : decode cX4_put 45 = .ok (.iload_n 3, 1) := by decide +kernel
theorem dX4_put_46 : decode cX4_put 46 = .ok (.invokestatic 78, 3) := by decide +kernel
theorem dX4_put_49 : decode cX4_put 49 = .ok (.lstore 5, 2) := by decide +kernel
theorem dX4_put_51 : decode cX4_put 51 = .ok (.goto 55, 3) := by decide +kernel
theorem dX4_put_54 : decode cX4_put 54 = .ok (.iload 4, 2) := by decide +kernel
theorem dX4_put_56 : decode cX4_put 56 = .ok (.bipush 13, 2) := by decide +kernel
theorem dX4_put_58 : decode cX4_put 58 = .ok (.if_icmp .ne 41, 3) := by decide +kernel
theorem dX4_put_61 : decode cX4_put 61 = .ok (.iload_n 3, 1) := by decide +kernel
theorem dX4_put_62 : decode cX4_put 62 = .ok (.invokestatic 60, 3) := by decide +kernel
theorem dX4_put_65 : decode cX4_put 65 = .ok (.ifCond .eq 28, 3) := by decide +kernel
theorem dX4_put_68 : decode cX4_put 68 = .ok (.aload_n 0, 1) := by decide +kernel
theorem dX4_put_69 : decode cX4_put 69 = .ok (.getfield 7, 3) := by decide +kernel
theorem dX4_put_72 : decode cX4_put 72 = .ok (.iload_n 3, 1) := by decide +kernel
theorem dX4_put_73 : decode cX4_put 73 = .ok (.iaload, 1) := by decide +kernel
theorem dX4_put_74 : decode cX4_put 74 = .ok (.bipush 6, 2) := by decide +kernel
theorem dX4_put_76 : decode cX4_put 76 = .ok (.if_icmp .ne 17, 3) := by decide +kernel
theorem dX4_put_79 : decode cX4_put 79 = .ok (.ldc2_w 82, 3) := by decide +kernel
theorem dX4_put_82 : decode cX4_put 82 = .ok (.aload_n 0, 1) := by decide +kernel
theorem dX4_put_83 : decode cX4_put 83 = .ok (.getfield 13, 3) := by decide +kernel
theorem dX4_put_86 : decode cX4_put 86 = .ok (.iload_n 3, 1) := by decide +kernel
theorem dX4_put_87 : decode cX4_put 87 = .ok (.iaload, 1) := by decide +kernel
theorem dX4_put_88 : decode cX4_put 88 = .ok (.i2l, 1) := by decide +kernel
theorem dX4_put_89 : decode cX4_put 89 = .ok (.lsub, 1) := by decide +kernel
theorem dX4_put_90 : decode cX4_put 90 = .ok (.goto 4, 3) := by decide +kernel
theorem dX4_put_93 : decode cX4_put 93 = .ok (.lconst 0, 1) := by decide +kernel
theorem dX4_put_94 : decode cX4_put 94 = .ok (.lstore 5, 2) := by decide +kernel
theorem dX4_put_96 : decode cX4_put 96 = .ok (.goto 10, 3) := by decide +kernel
theorem dX4_put_99 : decode cX4_put 99 = .ok (.aload_n 0, 1) := by decide +kernel
theorem dX4_put_100 : decode cX4_put 100 = .ok (.iload_n 3, 1) := by decide +kernel
theorem dX4_put_101 : decode cX4_put 101 = .ok (.invokevirtual 84, 3) := by decide +kernel
theorem dX4_put_104 : decode cX4_put 104 = .ok (.lstore 5, 2) := by decide +kernel
theorem dX4_put_106 : decode cX4_put 106 = .ok (.iload_n 2, 1) := by decide +kernel
theorem dX4_put_107 : decode cX4_put 107 = .ok (.iconst 0, 1) := by decide +kernel
theorem dX4_put_108 : decode cX4_put 108 = .ok (.aload_n 0, 1) := by decide +kernel
theorem dX4_put_109 : decode cX4_put 109 = .ok (.iload_n 1, 1) := by decide +kernel
theorem dX4_put_110 : decode cX4_put 110 = .ok (.invokevirtual 88, 3) := by decide +kernel
theorem dX4_put_113 : decode cX4_put 113 = .ok (.iconst 1, 1) := by decide +kernel
theorem dX4_put_114 : decode cX4_put 114 = .ok (.isub, 1) := by decide +kernel
theorem dX4_put_115 : decode cX4_put 115 = .ok (.invokestatic 49, 3) := by decide +kernel
theorem dX4_put_118 : decode cX4_put 118 = .ok (.ifCond .ne 6, 3) := by decide +kernel
theorem dX4_put_121 : decode cX4_put 121 = .ok (.bipush (-4), 2) := by decide +kernel
theorem dX4_put_123 : decode cX4_put 123 = .ok (.ireturn, 1) := by decide +kernel
theorem dX4_put_124 : decode cX4_put 124 = .ok (.aload_n 0, 1) := by decide +kernel
theorem dX4_put_125 : decode cX4_put 125 = .ok (.iload 4, 2) := by decide +kernel
theorem dX4_put_127 : decode cX4_put 127 = .ok (.lload 5, 2) := by decide +kernel
theorem dX4_put_129 : decode cX4_put 129 = .ok (.invokevirtual 91, 3) := by decide +kernel
theorem dX4_put_132 : decode cX4_put 132 = .ok (.ifCond .ne 6, 3) := by decide +kernel
theorem dX4_put_135 : decode cX4_put 135 = .ok (.bipush (-3), 2) := by decide +kernel
theorem dX4_put_137 : decode cX4_put 137 = .ok (.ireturn, 1) := by decide +kernel
theorem dX4_put_138 : decode cX4_put 138 = .ok (.aload_n 0, 1) := by decide +kernel
theorem dX4_put_139 : decode cX4_put 139 = .ok (.iload_n 1, 1) := by decide +kernel
theorem dX4_put_140 : decode cX4_put 140 = .ok (.iload_n 2, 1) := by decide +kernel
theorem dX4_put_141 : decode cX4_put 141 = .ok (.lload 5, 2) := by decide +kernel
theorem dX4_put_143 : decode cX4_put 143 = .ok (.invokevirtual 95, 3) := by decide +kernel
theorem dX4_put_146 : decode cX4_put 146 = .ok (.iconst 1, 1) := by decide +kernel
theorem dX4_put_147 : decode cX4_put 147 = .ok (.ireturn, 1) := by decide +kernel
set_option maxRecDepth 20000 in
theorem ggX4_keep_X4_isRow : GoodIn wsX4_keep wsX4_isRow := goodIn_r _ [8, 9, 21, 22, 23, 24, 25, 26, 27, 28, 29, 30, 31, 32, 33, 34, 35, 36] (by decide +kernel) (by decide +kernel)
set_option maxRecDepth 20000 in
theorem gX4_keep_X4_isRow : GoodIn wsX4_keep (wsV RX4 53 RX4 yX4_isRow wsX4_isRow) := goodIn_app (goodIn_of _ (by decide +kernel)) ggX4_keep_X4_isRow
set_option maxRecDepth 20000 in
theorem ggX4_keep_X4_sizeOf : GoodIn wsX4_keep wsX4_sizeOf := goodIn_r _ [13, 14, 1, 4, 5, 6, 7, 8, 9, 21, 22, 23, 24, 25, 26, 27, 28, 29, 30, 31, 32, 33, 34, 35, 36] (by decide +kernel) (by decide +kernel)
set_option maxRecDepth 20000 in
theorem gX4_keep_X4_sizeOf : GoodIn wsX4_keep (wsV RX4 88 RX4 yX4_sizeOf wsX4_sizeOf) := goodIn_app (goodIn_of _ (by decide +kernel)) ggX4_keep_X4_sizeOf
set_option maxRecDepth 20000 in
theorem ggX4_keep_X4_get : GoodIn wsX4_keep wsX4_get := goodIn_r _ [18, 19, 20, 1, 21, 22, 23, 24, 25, 26, 27, 28, 29, 30, 31, 32, 33, 34, 35, 36] (by decide +kernel) (by decide +kernel)
set_option maxRecDepth 20000 in
theorem gX4_keep_X4_get : GoodIn wsX4_keep (wsV RX4 99 RX4 yX4_get wsX4_get) := goodIn_app (goodIn_of _ (by decide +kernel)) ggX4_keep_X4_get
theorem dX4_keep_0 : decode cX4_keep 0 = .ok (.aload_n 0, 1) := by decide +kernel
theorem dX4_keep_1 : decode cX4_keep 1 = .ok (.aload_n 0, 1) := by decide +kernel
theorem dX4_keep_2 : decode cX4_keep 2 = .ok (.iload_n 1, 1) := by decide +kernel
theorem dX4_keep_3 : decode cX4_keep 3 = .ok (.invokevirtual 53, 3) := by decide +kernel
theorem dX4_keep_6 : decode cX4_keep 6 = .ok (.ifCond .eq 12, 3) := by decide +kernel
theorem dX4_keep_9 : decode cX4_keep 9 = .ok (.aload_n 0, 1) := by decide +kernel
theorem dX4_keep_10 : decode cX4_keep 10 = .ok (.getfield 13, 3) := by decide +kernel
theorem dX4_keep_13 : decode cX4_keep 13 = .ok (.iload_n 1, 1) := by decide +kernel
theorem dX4_keep_14 : decode cX4_keep 14 = .ok (.iaload, 1) := by decide +kernel
theorem dX4_keep_15 : decode cX4_keep 15 = .ok (.goto 4, 3) := by decide +kernel
theorem dX4_keep_18 : decode cX4_keep 18 = .ok (.iconst (-1), 1) := by decide +kernel
theorem dX4_keep_19 : decode cX4_keep 19 = .ok (.putfield 42, 3) := by decide +kernel
theorem dX4_keep_22 : decode cX4_keep 22 = .ok (.iconst 0, 1) := by decide +kernel
theorem dX4_keep_23 : decode cX4_keep 23 = .ok (.istore_n 2, 1) := by decide +kernel
theorem dX4_keep_24 : decode cX4_keep 24 = .ok (.iload_n 2, 1) := by decide +kernel
theorem dX4_keep_25 : decode cX4_keep 25 = .ok (.aload_n 0, 1) := by decide +kernel
theorem dX4_keep_26 : decode cX4_keep 26 = .ok (.iload_n 1, 1) := by decide +kernel
theorem dX4_keep_27 : decode cX4_keep 27 = .ok (.invokevirtual 88, 3) := by decide +kernel
theorem dX4_keep_30 : decode cX4_keep 30 = .ok (.if_icmp .ge 21, 3) := by decide +kernel
theorem dX4_keep_33 : decode cX4_keep 33 = .ok (.aload_n 0, 1) := by decide +kernel
theorem dX4_keep_34 : decode cX4_keep 34 = .ok (.getfield 39, 3) := by decide +kernel
theorem dX4_keep_37 : decode cX4_keep 37 = .ok (.iload_n 2, 1) := by decide +kernel
theorem dX4_keep_38 : decode cX4_keep 38 = .ok (.aload_n 0, 1) := by decide +kernel
theorem dX4_keep_39 : decode cX4_keep 39 = .ok (.iload_n 1, 1) := by decide +kernel
theorem dX4_keep_40 : decode cX4_keep 40 = .ok (.iload_n 2, 1) := by decide +kernel
theorem dX4_keep_41 : decode cX4_keep 41 = .ok (.invokevirtual 99, 3) := by decide +kernel
theorem dX4_keep_44 : decode cX4_keep 44 = .ok (.lastore, 1) := by decide +kernel
theorem dX4_keep_45 : decode cX4_keep 45 = .ok (.iinc 2 1, 3) := by decide +kernel
theorem dX4_keep_48 : decode cX4_keep 48 = .ok (.goto (-24), 3) := by decide +kernel
theorem dX4_keep_51 : decode cX4_keep 51 = .ok (.return_, 1) := by decide +kernel
theorem dX4_told0_0 : decode cX4_told0 0 = .ok (.aload_n 0, 1) := by decide +kernel
theorem dX4_told0_1 : decode cX4_told0 1 = .ok (.getfield 46, 3) := by decide +kernel
theorem dX4_told0_4 : decode cX4_told0 4 = .ok (.iload_n 1, 1) := by decide +kernel
theorem dX4_told0_5 : decode cX4_told0 5 = .ok (.ifCond .ge 9, 3) := by decide +kernel
theorem dX4_told0_8 : decode cX4_told0 8 = .ok (.iconst 1, 1) := by decide +kernel
theorem dX4_told0_9 : decode cX4_told0 9 = .ok (.iload_n 1, 1) := by decide +kernel
theorem dX4_told0_10 : decode cX4_told0 10 = .ok (.isub, 1) := by decide +kernel
theorem dX4_told0_11 : decode cX4_told0 11 = .ok (.goto 4, 3) := by decide +kernel
theorem dX4_told0_14 : decode cX4_told0 14 = .ok (.iconst 1, 1) := by decide +kernel
theorem dX4_told0_15 : decode cX4_told0 15 = .ok (.dup2, 1) := by decide +kernel
theorem dX4_told0_16 : decode cX4_told0 16 = .ok (.iaload, 1) := by decide +kernel
theorem dX4_told0_17 : decode cX4_told0 17 = .ok (.iconst 1, 1) := by decide +kernel
theorem dX4_told0_18 : decode cX4_told0 18 = .ok (.iadd, 1) := by decide +kernel
theorem dX4_told0_19 : decode cX4_told0 19 = .ok (.iastore, 1) := by decide +kernel
theorem dX4_told0_20 : decode cX4_told0 20 = .ok (.iload_n 1, 1) := by decide +kernel
theorem dX4_told0_21 : decode cX4_told0 21 = .ok (.ireturn, 1) := by decide +kernel
set_option maxRecDepth 20000 in
theorem ggX4_unlike_X4_isNumbers : GoodIn wsX4_unlike wsX4_isNumbers := goodIn_r _ [5, 6, 7, 4, 8] (by decide +kernel) (by decide +kernel)
set_option maxRecDepth 20000 in
theorem gX4_unlike_X4_isNumbers : GoodIn wsX4_unlike (va_wsS RX4 57 yX4_isNumbers wsX4_isNumbers) := goodIn_app (goodIn_of _ (by decide +kernel)) ggX4_unlike_X4_isNumbers
theorem dX4_unlike_0 : decode cX4_unlike 0 = .ok (.aload_n 0, 1) := by decide +kernel
theorem dX4_unlike_1 : decode cX4_unlike 1 = .ok (.getfield 7, 3) := by decide +kernel
theorem dX4_unlike_4 : decode cX4_unlike 4 = .ok (.iload_n 1, 1) := by decide +kernel
theorem dX4_unlike_5 : decode cX4_unlike 5 = .ok (.iaload, 1) := by decide +kernel
theorem dX4_unlike_6 : decode cX4_unlike 6 = .ok (.ifCond .eq 12, 3) := by decide +kernel
theorem dX4_unlike_9 : decode cX4_unlike 9 = .ok (.aload_n 0, 1) := by decide +kernel
theorem dX4_unlike_10 : decode cX4_unlike 10 = .ok (.getfield 7, 3) := by decide +kernel
theorem dX4_unlike_13 : decode cX4_unlike 13 = .ok (.iload_n 2, 1) := by decide +kernel
theorem dX4_unlike_14 : decode cX4_unlike 14 = .ok (.iaload, 1) := by decide +kernel
theorem dX4_unlike_15 : decode cX4_unlike 15 = .ok (.ifCond .ne 5, 3) := by decide +kernel
theorem dX4_unlike_18 : decode cX4_unlike 18 = .ok (.iconst (-1), 1) := by decide +kernel
theorem dX4_unlike_19 : decode cX4_unlike 19 = .ok (.ireturn, 1) := by decide +kernel
theorem dX4_unlike_20 : decode cX4_unlike 20 = .ok (.aload_n 0, 1) := by decide +kernel
theorem dX4_unlike_21 : decode cX4_unlike 21 = .ok (.getfield 7, 3) := by decide +kernel
theorem dX4_unlike_24 : decode cX4_unlike 24 = .ok (.iload_n 1, 1) := by decide +kernel
theorem dX4_unlike_25 : decode cX4_unlike 25 = .ok (.iaload, 1) := by decide +kernel
theorem dX4_unlike_26 : decode cX4_unlike 26 = .ok (.iconst 1, 1) := by decide +kernel
theorem dX4_unlike_27 : decode cX4_unlike 27 = .ok (.if_icmp .eq 13, 3) := by decide +kernel
theorem dX4_unlike_30 : decode cX4_unlike 30 = .ok (.aload_n 0, 1) := by decide +kernel
theorem dX4_unlike_31 : decode cX4_unlike 31 = .ok (.getfield 7, 3) := by decide +kernel
theorem dX4_unlike_34 : decode cX4_unlike 34 = .ok (.iload_n 2, 1) := by decide +kernel
theorem dX4_unlike_35 : decode cX4_unlike 35 = .ok (.iaload, 1) := by decide +kernel
theorem dX4_unlike_36 : decode cX4_unlike 36 = .ok (.iconst 1, 1) := by decide +kernel
theorem dX4_unlike_37 : decode cX4_unlike 37 = .ok (.if_icmp .ne 6, 3) := by decide +kernel
theorem dX4_unlike_40 : decode cX4_unlike 40 = .ok (.bipush (-2), 2) := by decide +kernel
theorem dX4_unlike_42 : decode cX4_unlike 42 = .ok (.ireturn, 1) := by decide +kernel
theorem dX4_unlike_43 : decode cX4_unlike 43 = .ok (.aload_n 0, 1) := by decide +kernel
theorem dX4_unlike_44 : decode cX4_unlike 44 = .ok (.getfield 7, 3) := by decide +kernel
theorem dX4_unlike_47 : decode cX4_unlike 47 = .ok (.iload_n 1, 1) := by decide +kernel
theorem dX4_unlike_48 : decode cX4_unlike 48 = .ok (.iaload, 1) := by decide +kernel
theorem dX4_unlike_49 : decode cX4_unlike 49 = .ok (.invokestatic 57, 3) := by decide +kernel
theorem dX4_unlike_52 : decode cX4_unlike 52 = .ok (.ifCond .ne 15, 3) := by decide +kernel
theorem dX4_unlike_55 : decode cX4_unlike 55 = .ok (.aload_n 0, 1) := by decide +kernel
theorem dX4_unlike_56 : decode cX4_unlike 56 = .ok (.getfield 7, 3) := by decide +kernel
theorem dX4_unlike_59 : decode cX4_unlike 59 = .ok (.iload_n 2, 1) := by decide +kernel
theorem dX4_unlike_60 : decode cX4_unlike 60 = .ok (.iaload, 1) := by decide +kernel
theorem dX4_unlike_61 : decode cX4_unlike 61 = .ok (.invokestatic 57, 3) := by decide +kernel
theorem dX4_unlike_64 : decode cX4_unlike 64 = .ok (.ifCond .eq 23, 3) := by decide +kernel
theorem dX4_unlike_67 : decode cX4_unlike 67 = .ok (.aload_n 0, 1) := by decide +kernel
theorem dX4_unlike_68 : decode cX4_unlike 68 = .ok (.getfield 7, 3) := by decide +kernel
theorem dX4_unlike_71 : decode cX4_unlike 71 = .ok (.iload_n 1, 1) := by decide +kernel
theorem dX4_unlike_72 : decode cX4_unlike 72 = .ok (.iaload, 1) := by decide +kernel
theorem dX4_unlike_73 : decode cX4_unlike 73 = .ok (.aload_n 0, 1) := by decide +kernel
theorem dX4_unlike_74 : decode cX4_unlike 74 = .ok (.getfield 7, 3) := by decide +kernel
theorem dX4_unlike_77 : decode cX4_unlike 77 = .ok (.iload_n 2, 1) := by decide +kernel
theorem dX4_unlike_78 : decode cX4_unlike 78 = .ok (.iaload, 1) := by decide +kernel
theorem dX4_unlike_79 : decode cX4_unlike 79 = .ok (.if_icmp .eq 8, 3) := by decide +kernel
theorem dX4_unlike_82 : decode cX4_unlike 82 = .ok (.bipush (-3), 2) := by decide +kernel
theorem dX4_unlike_84 : decode cX4_unlike 84 = .ok (.goto 4, 3) := by decide +kernel
theorem dX4_unlike_87 : decode cX4_unlike 87 = .ok (.iconst 0, 1) := by decide +kernel
theorem dX4_unlike_88 : decode cX4_unlike 88 = .ok (.ireturn, 1) := by decide +kernel
set_option maxRecDepth 20000 in
theorem ggX4_moved_X4_unlike : GoodIn wsX4_moved wsX4_unlike := goodIn_r _ [8, 3, 9, 10, 7, 11, 12, 13, 14, 40, 41, 42, 43, 44, 45, 46, 47, 48, 49, 50, 51, 52, 53, 54, 55] (by decide +kernel) (by decide +kernel)
set_option maxRecDepth 20000 in
theorem gX4_moved_X4_unlike : GoodIn wsX4_moved (wsV RX4 105 RX4 yX4_unlike wsX4_unlike) := goodIn_app (goodIn_of _ (by decide +kernel)) ggX4_moved_X4_unlike
set_option maxRecDepth 20000 in
theorem ggX4_moved_X4_sizeOf : GoodIn wsX4_moved wsX4_sizeOf := goodIn_r _ [18, 19, 20, 21, 22, 23, 7, 24, 3, 40, 41, 42, 43, 44, 45, 46, 47, 48, 49, 50, 51, 52, 53, 54, 55] (by decide +kernel) (by decide +kernel)
set_option maxRecDepth 20000 in
theorem gX4_moved_X4_sizeOf : GoodIn wsX4_moved (wsV RX4 88 RX4 yX4_sizeOf wsX4_sizeOf) := goodIn_app (goodIn_of _ (by decide +kernel)) ggX4_moved_X4_sizeOf
set_option maxRecDepth 20000 in
theorem ggX4_moved_X4_get : GoodIn wsX4_moved wsX4_get := goodIn_r _ [28, 29, 30, 20, 40, 41, 42, 43, 44, 45, 46, 47, 48, 49, 50, 51, 52, 53, 54, 55] (by decide +kernel) (by decide +kernel)
set_option maxRecDepth 20000 in
theorem gX4_moved_X4_get : GoodIn wsX4_moved (wsV RX4 99 RX4 yX4_get wsX4_get) := goodIn_app (goodIn_of _ (by decide +kernel)) ggX4_moved_X4_get
set_option maxRecDepth 20000 in
theorem ggX4_moved_X4_goes : GoodIn wsX4_moved wsX4_goes := goodIn_r _ [34, 35, 9, 10, 7, 11, 12, 13, 14, 40, 41, 42, 43, 44, 45, 46, 47, 48, 49, 50, 51, 52, 53, 54, 55] (by decide +kernel) (by decide +kernel)
set_option maxRecDepth 20000 in
theorem gX4_moved_X4_goes : GoodIn wsX4_moved (wsV RX4 91 RX4 yX4_goes wsX4_goes) := goodIn_app (goodIn_of _ (by decide +kernel)) ggX4_moved_X4_goes
set_option maxRecDepth 20000 in
theorem ggX4_moved_X4_set : GoodIn wsX4_moved wsX4_set := goodIn_r _ [39, 29, 30, 20, 40, 41, 42, 43, 44, 45, 46, 47, 48, 49, 50, 51, 52, 53, 54, 55] (by decide +kernel) (by decide +kernel)
set_option maxRecDepth 20000 in
theorem gX4_moved_X4_set : GoodIn wsX4_moved (wsV RX4 95 RX4 yX4_set wsX4_set) := goodIn_app (goodIn_of _ (by decide +kernel)) ggX4_moved_X4_set
theorem dX4_moved_0 : decode cX4_moved 0 = .ok (.aload_n 0, 1) := by decide +kernel
theorem dX4_moved_1 : decode cX4_moved 1 = .ok (.iconst 0, 1) := by decide +kernel
theorem dX4_moved_2 : decode cX4_moved 2 = .ok (.putfield 102, 3) := by decide +kernel
theorem dX4_moved_5 : decode cX4_moved 5 = .ok (.aload_n 0, 1) := by decide +kernel
theorem dX4_moved_6 : decode cX4_moved 6 = .ok (.iload_n 1, 1) := by decide +kernel
theorem dX4_moved_7 : decode cX4_moved 7 = .ok (.iload_n 3, 1) := by decide +kernel
theorem dX4_moved_8 : decode cX4_moved 8 = .ok (.invokevirtual 105, 3) := by decide +kernel
theorem dX4_moved_11 : decode cX4_moved 11 = .ok (.istore 6, 2) := by decide +kernel
theorem dX4_moved_13 : decode cX4_moved 13 = .ok (.iload 6, 2) := by decide +kernel
theorem dX4_moved_15 : decode cX4_moved 15 = .ok (.ifCond .ge 6, 3) := by decide +kernel
theorem dX4_moved_18 : decode cX4_moved 18 = .ok (.iload 6, 2) := by decide +kernel
theorem dX4_moved_20 : decode cX4_moved 20 = .ok (.ireturn, 1) := by decide +kernel
theorem dX4_moved_21 : decode cX4_moved 21 = .ok (.iload_n 2, 1) := by decide +kernel
theorem dX4_moved_22 : decode cX4_moved 22 = .ok (.ifCond .lt 46, 3) := by decide +kernel
theorem dX4_moved_25 : decode cX4_moved 25 = .ok (.iload 4, 2) := by decide +kernel
theorem dX4_moved_27 : decode cX4_moved 27 = .ok (.ifCond .lt 41, 3) := by decide +kernel
theorem dX4_moved_30 : decode cX4_moved 30 = .ok (.iload 5, 2) := by decide +kernel
theorem dX4_moved_32 : decode cX4_moved 32 = .ok (.ifCond .lt 36, 3) := by decide +kernel
theorem dX4_moved_35 : decode cX4_moved 35 = .ok (.iload_n 2, 1) := by decide +kernel
theorem dX4_moved_36 : decode cX4_moved 36 = .ok (.i2l, 1) := by decide +kernel
theorem dX4_moved_37 : decode cX4_moved 37 = .ok (.iload 5, 2) := by decide +kernel
theorem dX4_moved_39 : decode cX4_moved 39 = .ok (.i2l, 1) := by decide +kernel
theorem dX4_moved_40 : decode cX4_moved 40 = .ok (.ladd, 1) := by decide +kernel
theorem dX4_moved_41 : decode cX4_moved 41 = .ok (.aload_n 0, 1) := by decide +kernel
theorem dX4_moved_42 : decode cX4_moved 42 = .ok (.iload_n 1, 1) := by decide +kernel
theorem dX4_moved_43 : decode cX4_moved 43 = .ok (.invokevirtual 88, 3) := by decide +kernel
theorem dX4_moved_46 : decode cX4_moved 46 = .ok (.i2l, 1) := by decide +kernel
theorem dX4_moved_47 : decode cX4_moved 47 = .ok (.lcmp, 1) := by decide +kernel
theorem dX4_moved_48 : decode cX4_moved 48 = .ok (.ifCond .gt 20, 3) := by decide +kernel
theorem dX4_moved_51 : decode cX4_moved 51 = .ok (.iload 4, 2) := by decide +kernel
theorem dX4_moved_53 : decode cX4_moved 53 = .ok (.i2l, 1) := by decide +kernel
theorem dX4_moved_54 : decode cX4_moved 54 = .ok (.iload 5, 2) := by decide +kernel
theorem dX4_moved_56 : decode cX4_moved 56 = .ok (.i2l, 1) := by decide +kernel
theorem dX4_moved_57 : decode cX4_moved 57 = .ok (.ladd, 1) := by decide +kernel
theorem dX4_moved_58 : decode cX4_moved 58 = .ok (.aload_n 0, 1) := by decide +kernel
theorem dX4_moved_59 : decode cX4_moved 59 = .ok (.iload_n 3, 1) := by decide +kernel
theorem dX4_moved_60 : decode cX4_moved 60 = .ok (.invokevirtual 88, 3) := by decide +kernel
theorem dX4_moved_63 : decode cX4_moved 63 = .ok (.i2l, 1) := by decide +kernel
theorem dX4_moved_64 : decode cX4_moved 64 = .ok (.lcmp, 1) := by decide +kernel
theorem dX4_moved_65 : decode cX4_moved 65 = .ok (.ifCond .le 6, 3) := by decide +kernel
theorem dX4_moved_68 : decode cX4_moved 68 = .ok (.bipush (-4), 2) := by decide +kernel
theorem dX4_moved_70 : decode cX4_moved 70 = .ok (.ireturn, 1) := by decide +kernel
theorem dX4_moved_71 : decode cX4_moved 71 = .ok (.iconst 0, 1) := by decide +kernel
theorem dX4_moved_72 : decode cX4_moved 72 = .ok (.istore 7, 2) := by decide +kernel
theorem dX4_moved_74 : decode cX4_moved 74 = .ok (.iload 7, 2) := by decide +kernel
theorem dX4_moved_76 : decode cX4_moved 76 = .ok (.iload 5, 2) := by decide +kernel
theorem dX4_moved_78 : decode cX4_moved 78 = .ok (.if_icmp .ge 25, 3) := by decide +kernel
theorem dX4_moved_81 : decode cX4_moved 81 = .ok (.aload_n 0, 1) := by decide +kernel
theorem dX4_moved_82 : decode cX4_moved 82 = .ok (.getfield 36, 3) := by decide +kernel
theorem dX4_moved_85 : decode cX4_moved 85 = .ok (.iload 7, 2) := by decide +kernel
theorem dX4_moved_87 : decode cX4_moved 87 = .ok (.aload_n 0, 1) := by decide +kernel
theorem dX4_moved_88 : decode cX4_moved 88 = .ok (.iload_n 1, 1) := by decide +kernel
theorem dX4_moved_89 : decode cX4_moved 89 = .ok (.iload_n 2, 1) := by decide +kernel
theorem dX4_moved_90 : decode cX4_moved 90 = .ok (.iload 7, 2) := by decide +kernel
theorem dX4_moved_92 : decode cX4_moved 92 = .ok (.iadd, 1) := by decide +kernel
theorem dX4_moved_93 : decode cX4_moved 93 = .ok (.invokevirtual 99, 3) := by decide +kernel
theorem dX4_moved_96 : decode cX4_moved 96 = .ok (.lastore, 1) := by decide +kernel
theorem dX4_moved_97 : decode cX4_moved 97 = .ok (.iinc 7 1, 3) := by decide +kernel
theorem dX4_moved_100 : decode cX4_moved 100 = .ok (.goto (-26), 3) := by decide +kernel
theorem dX4_moved_103 : decode cX4_moved 103 = .ok (.iconst 0, 1) := by decide +kernel
theorem dX4_moved_104 : decode cX4_moved 104 = .ok (.istore 7, 2) := by decide +kernel
theorem dX4_moved_106 : decode cX4_moved 106 = .ok (.iload 7, 2) := by decide +kernel
theorem dX4_moved_108 : decode cX4_moved 108 = .ok (.iload 5, 2) := by decide +kernel
theorem dX4_moved_110 : decode cX4_moved 110 = .ok (.if_icmp .ge 59, 3) := by decide +kernel
theorem dX4_moved_113 : decode cX4_moved 113 = .ok (.aload_n 0, 1) := by decide +kernel
theorem dX4_moved_114 : decode cX4_moved 114 = .ok (.aload_n 0, 1) := by decide +kernel
theorem dX4_moved_115 : decode cX4_moved 115 = .ok (.getfield 7, 3) := by decide +kernel
theorem dX4_moved_118 : decode cX4_moved 118 = .ok (.iload_n 3, 1) := by decide +kernel
theorem dX4_moved_119 : decode cX4_moved 119 = .ok (.iaload, 1) := by decide +kernel
theorem dX4_moved_120 : decode cX4_moved 120 = .ok (.aload_n 0, 1) := by decide +kernel
theorem dX4_moved_121 : decode cX4_moved 121 = .ok (.getfield 36, 3) := by decide +kernel
theorem dX4_moved_124 : decode cX4_moved 124 = .ok (.iload 7, 2) := by decide +kernel
theorem dX4_moved_126 : decode cX4_moved 126 = .ok (.laload, 1) := by decide +kernel
theorem dX4_moved_127 : decode cX4_moved 127 = .ok (.invokevirtual 91, 3) := by decide +kernel
theorem dX4_moved_130 : decode cX4_moved 130 = .ok (.ifCond .ne 6, 3) := by decide +kernel
theorem dX4_moved_133 : decode cX4_moved 133 = .ok (.bipush (-5), 2) := by decide +kernel
theorem dX4_moved_135 : decode cX4_moved 135 = .ok (.ireturn, 1) := by decide +kernel
theorem dX4_moved_136 : decode cX4_moved 136 = .ok (.aload_n 0, 1) := by decide +kernel
theorem dX4_moved_137 : decode cX4_moved 137 = .ok (.iload_n 3, 1) := by decide +kernel
theorem dX4_moved_138 : decode cX4_moved 138 = .ok (.iload 4, 2) := by decide +kernel
theorem dX4_moved_140 : decode cX4_moved 140 = .ok (.iload 7, 2) := by decide +kernel
theorem dX4_moved_142 : decode cX4_moved 142 = .ok (.iadd, 1) := by decide +kernel
theorem dX4_moved_143 : decode cX4_moved 143 = .ok (.aload_n 0, 1) := by decide +kernel
theorem dX4_moved_144 : decode cX4_moved 144 = .ok (.getfield 36, 3) := by decide +kernel
theorem dX4_moved_147 : decode cX4_moved 147 = .ok (.iload 7, 2) := by decide +kernel
theorem dX4_moved_149 : decode cX4_moved 149 = .ok (.laload, 1) := by decide +kernel
theorem dX4_moved_150 : decode cX4_moved 150 = .ok (.invokevirtual 95, 3) := by decide +kernel
theorem dX4_moved_153 : decode cX4_moved 153 = .ok (.aload_n 0, 1) := by decide +kernel
theorem dX4_moved_154 : decode cX4_moved 154 = .ok (.dup, 1) := by decide +kernel
theorem dX4_moved_155 : decode cX4_moved 155 = .ok (.getfield 102, 3) := by decide +kernel
theorem dX4_moved_158 : decode cX4_moved 158 = .ok (.iconst 1, 1) := by decide +kernel
theorem dX4_moved_159 : decode cX4_moved 159 = .ok (.iadd, 1) := by decide +kernel
theorem dX4_moved_160 : decode cX4_moved 160 = .ok (.putfield 102, 3) := by decide +kernel
theorem dX4_moved_163 : decode cX4_moved 163 = .ok (.iinc 7 1, 3) := by decide +kernel
theorem dX4_moved_166 : decode cX4_moved 166 = .ok (.goto (-60), 3) := by decide +kernel
theorem dX4_moved_169 : decode cX4_moved 169 = .ok (.iload 5, 2) := by decide +kernel
theorem dX4_moved_171 : decode cX4_moved 171 = .ok (.ireturn, 1) := by decide +kernel
set_option maxRecDepth 20000 in
theorem ggX4_move_X4_isTray : GoodIn wsX4_move wsX4_isTray := goodIn_r _ [4, 5, 6, 3, 7] (by decide +kernel) (by decide +kernel)
set_option maxRecDepth 20000 in
theorem gX4_move_X4_isTray : GoodIn wsX4_move (va_wsS RX4 60 yX4_isTray wsX4_isTray) := goodIn_app (goodIn_of _ (by decide +kernel)) ggX4_move_X4_isTray
set_option maxRecDepth 20000 in
theorem ggX4_move_X4_keep : GoodIn wsX4_move wsX4_keep := goodIn_r _ [11, 12, 13, 14, 15, 16, 17, 3, 18, 19, 20, 21, 22, 23, 24, 25, 26, 27, 28, 29, 30, 58, 59, 60, 61, 62, 63, 64, 65, 66, 67, 68, 69, 70, 71, 72, 73] (by decide +kernel) (by decide +kernel)
set_option maxRecDepth 20000 in
theorem gX4_move_X4_keep : GoodIn wsX4_move (wsV RX4 109 RX4 yX4_keep wsX4_keep) := goodIn_app (goodIn_of _ (by decide +kernel)) ggX4_move_X4_keep
set_option maxRecDepth 20000 in
theorem ggX4_move_X4_moved : GoodIn wsX4_move wsX4_moved := goodIn_r _ [34, 35, 36, 19, 37, 38, 39, 3, 40, 41, 42, 43, 5, 6, 7, 20, 21, 22, 23, 24, 12, 15, 16, 17, 18, 25, 26, 27, 28, 29, 30, 44, 45, 46, 47, 48, 49, 50, 51, 52, 58, 59, 60, 61, 62, 63, 64, 65, 66, 67, 68, 69, 70, 71, 72, 73] (by decide +kernel) (by decide +kernel)
set_option maxRecDepth 20000 in
theorem gX4_move_X4_moved : GoodIn wsX4_move (wsV RX4 113 RX4 yX4_moved wsX4_moved) := goodIn_app (goodIn_of _ (by decide +kernel)) ggX4_move_X4_moved
set_option maxRecDepth 20000 in
theorem ggX4_move_X4_told0 : GoodIn wsX4_move wsX4_told0 := goodIn_r _ [56, 57, 58, 59, 60, 61, 62, 63, 64, 65, 66, 67, 68, 69, 70, 71, 72, 73] (by decide +kernel) (by decide +kernel)
set_option maxRecDepth 20000 in
theorem gX4_move_X4_told0 : GoodIn wsX4_move (wsV RX4 117 RX4 yX4_told0 wsX4_told0) := goodIn_app (goodIn_of _ (by decide +kernel)) ggX4_move_X4_told0
theorem dX4_move_0 : decode cX4_move 0 = .ok (.iload_n 1, 1) := by decide +kernel
theorem dX4_move_1 : decode cX4_move 1 = .ok (.invokestatic 60, 3) := by decide +kernel
theorem dX4_move_4 : decode cX4_move 4 = .ok (.ifCond .eq 10, 3) := by decide +kernel
theorem dX4_move_7 : decode cX4_move 7 = .ok (.iload_n 3, 1) := by decide +kernel
theorem dX4_move_8 : decode cX4_move 8 = .ok (.invokestatic 60, 3) := by decide +kernel
theorem dX4_move_11 : decode cX4_move 11 = .ok (.ifCond .ne 6, 3) := by decide +kernel
theorem dX4_move_14 : decode cX4_move 14 = .ok (.bipush (-6), 2) := by decide +kernel
theorem dX4_move_16 : decode cX4_move 16 = .ok (.ireturn, 1) := by decide +kernel
theorem dX4_move_17 : decode cX4_move 17 = .ok (.aload_n 0, 1) := by decide +kernel
theorem dX4_move_18 : decode cX4_move 18 = .ok (.iload_n 3, 1) := by decide +kernel
theorem dX4_move_19 : decode cX4_move 19 = .ok (.invokevirtual 109, 3) := by decide +kernel
theorem dX4_move_22 : decode cX4_move 22 = .ok (.aload_n 0, 1) := by decide +kernel
theorem dX4_move_23 : decode cX4_move 23 = .ok (.aload_n 0, 1) := by decide +kernel
theorem dX4_move_24 : decode cX4_move 24 = .ok (.iload_n 1, 1) := by decide +kernel
theorem dX4_move_25 : decode cX4_move 25 = .ok (.iload_n 2, 1) := by decide +kernel
theorem dX4_move_26 : decode cX4_move 26 = .ok (.iload_n 3, 1) := by decide +kernel
theorem dX4_move_27 : decode cX4_move 27 = .ok (.iload 4, 2) := by decide +kernel
theorem dX4_move_29 : decode cX4_move 29 = .ok (.iload 5, 2) := by decide +kernel
theorem dX4_move_31 : decode cX4_move 31 = .ok (.invokevirtual 113, 3) := by decide +kernel
theorem dX4_move_34 : decode cX4_move 34 = .ok (.invokevirtual 117, 3) := by decide +kernel
theorem dX4_move_37 : decode cX4_move 37 = .ok (.ireturn, 1) := by decide +kernel
set_option maxRecDepth 20000 in
theorem ggX4_open_X4_isTray : GoodIn wsX4_open wsX4_isTray := goodIn_r _ [4, 5, 6, 3, 7] (by decide +kernel) (by decide +kernel)
set_option maxRecDepth 20000 in
theorem gX4_open_X4_isTray : GoodIn wsX4_open (va_wsS RX4 60 yX4_isTray wsX4_isTray) := goodIn_app (goodIn_of _ (by decide +kernel)) ggX4_open_X4_isTray
set_option maxRecDepth 20000 in
theorem ggX4_open_X4_keep : GoodIn wsX4_open wsX4_keep := goodIn_r _ [11, 12, 13, 14, 15, 16, 17, 3, 18, 19, 20, 21, 22, 23, 24, 25, 26, 27, 28, 29, 30, 58, 59, 60, 61, 62, 63, 64, 65, 66, 67, 68, 69, 70, 71, 72, 73] (by decide +kernel) (by decide +kernel)
set_option maxRecDepth 20000 in
theorem gX4_open_X4_keep : GoodIn wsX4_open (wsV RX4 109 RX4 yX4_keep wsX4_keep) := goodIn_app (goodIn_of _ (by decide +kernel)) ggX4_open_X4_keep
set_option maxRecDepth 20000 in
theorem ggX4_open_X4_sizeOf : GoodIn wsX4_open wsX4_sizeOf := goodIn_r _ [23, 24, 12, 15, 16, 17, 3, 18, 19, 58, 59, 60, 61, 62, 63, 64, 65, 66, 67, 68, 69, 70, 71, 72, 73] (by decide +kernel) (by decide +kernel)
set_option maxRecDepth 20000 in
theorem gX4_open_X4_sizeOf : GoodIn wsX4_open (wsV RX4 88 RX4 yX4_sizeOf wsX4_sizeOf) := goodIn_app (goodIn_of _ (by decide +kernel)) ggX4_open_X4_sizeOf
set_option maxRecDepth 20000 in
theorem ggX4_open_X4_moved : GoodIn wsX4_open wsX4_moved := goodIn_r _ [34, 35, 36, 19, 37, 38, 39, 3, 40, 41, 42, 43, 5, 6, 7, 20, 21, 22, 23, 24, 12, 15, 16, 17, 18, 25, 26, 27, 28, 29, 30, 44, 45, 46, 47, 48, 49, 50, 51, 52, 58, 59, 60, 61, 62, 63, 64, 65, 66, 67, 68, 69, 70, 71, 72, 73] (by decide +kernel) (by decide +kernel)
set_option maxRecDepth 20000 in
theorem gX4_open_X4_moved : GoodIn wsX4_open (wsV RX4 113 RX4 yX4_moved wsX4_moved) := goodIn_app (goodIn_of _ (by decide +kernel)) ggX4_open_X4_moved
set_option maxRecDepth 20000 in
theorem ggX4_open_X4_told0 : GoodIn wsX4_open wsX4_told0 := goodIn_r _ [56, 57, 58, 59, 60, 61, 62, 63, 64, 65, 66, 67, 68, 69, 70, 71, 72, 73] (by decide +kernel) (by decide +kernel)
set_option maxRecDepth 20000 in
theorem gX4_open_X4_told0 : GoodIn wsX4_open (wsV RX4 117 RX4 yX4_told0 wsX4_told0) := goodIn_app (goodIn_of _ (by decide +kernel)) ggX4_open_X4_told0
theorem dX4_open_0 : decode cX4_open 0 = .ok (.iload_n 1, 1) := by decide +kernel
theorem dX4_open_1 : decode cX4_open 1 = .ok (.invokestatic 60, 3) := by decide +kernel
theorem dX4_open_4 : decode cX4_open 4 = .ok (.ifCond .ne 6, 3) := by decide +kernel
theorem dX4_open_7 : decode cX4_open 7 = .ok (.bipush (-6), 2) := by decide +kernel
theorem dX4_open_9 : decode cX4_open 9 = .ok (.ireturn, 1) := by decide +kernel
theorem dX4_open_10 : decode cX4_open 10 = .ok (.aload_n 0, 1) := by decide +kernel
theorem dX4_open_11 : decode cX4_open 11 = .ok (.iload_n 1, 1) := by decide +kernel
theorem dX4_open_12 : decode cX4_open 12 = .ok (.invokevirtual 109, 3) := by decide +kernel
theorem dX4_open_15 : decode cX4_open 15 = .ok (.aload_n 0, 1) := by decide +kernel
theorem dX4_open_16 : decode cX4_open 16 = .ok (.aload_n 0, 1) := by decide +kernel
theorem dX4_open_17 : decode cX4_open 17 = .ok (.iload_n 1, 1) := by decide +kernel
theorem dX4_open_18 : decode cX4_open 18 = .ok (.iload_n 2, 1) := by decide +kernel
theorem dX4_open_19 : decode cX4_open 19 = .ok (.iload_n 1, 1) := by decide +kernel
theorem dX4_open_20 : decode cX4_open 20 = .ok (.iload_n 2, 1) := by decide +kernel
theorem dX4_open_21 : decode cX4_open 21 = .ok (.iload_n 3, 1) := by decide +kernel
theorem dX4_open_22 : decode cX4_open 22 = .ok (.iadd, 1) := by decide +kernel
theorem dX4_open_23 : decode cX4_open 23 = .ok (.aload_n 0, 1) := by decide +kernel
theorem dX4_open_24 : decode cX4_open 24 = .ok (.iload_n 1, 1) := by decide +kernel
theorem dX4_open_25 : decode cX4_open 25 = .ok (.invokevirtual 88, 3) := by decide +kernel
theorem dX4_open_28 : decode cX4_open 28 = .ok (.iload_n 2, 1) := by decide +kernel
theorem dX4_open_29 : decode cX4_open 29 = .ok (.isub, 1) := by decide +kernel
theorem dX4_open_30 : decode cX4_open 30 = .ok (.iload_n 3, 1) := by decide +kernel
theorem dX4_open_31 : decode cX4_open 31 = .ok (.isub, 1) := by decide +kernel
theorem dX4_open_32 : decode cX4_open 32 = .ok (.invokevirtual 113, 3) := by decide +kernel
theorem dX4_open_35 : decode cX4_open 35 = .ok (.invokevirtual 117, 3) := by decide +kernel
theorem dX4_open_38 : decode cX4_open 38 = .ok (.ireturn, 1) := by decide +kernel
set_option maxRecDepth 20000 in
theorem ggX4_close_X4_isTray : GoodIn wsX4_close wsX4_isTray := goodIn_r _ [4, 5, 6, 3, 7] (by decide +kernel) (by decide +kernel)
set_option maxRecDepth 20000 in
theorem gX4_close_X4_isTray : GoodIn wsX4_close (va_wsS RX4 60 yX4_isTray wsX4_isTray) := goodIn_app (goodIn_of _ (by decide +kernel)) ggX4_close_X4_isTray
set_option maxRecDepth 20000 in
theorem ggX4_close_X4_keep : GoodIn wsX4_close wsX4_keep := goodIn_r _ [11, 12, 13, 14, 15, 16, 17, 3, 18, 19, 20, 21, 22, 23, 24, 25, 26, 27, 28, 29, 30, 58, 59, 60, 61, 62, 63, 64, 65, 66, 67, 68, 69, 70, 71, 72, 73] (by decide +kernel) (by decide +kernel)
set_option maxRecDepth 20000 in
theorem gX4_close_X4_keep : GoodIn wsX4_close (wsV RX4 109 RX4 yX4_keep wsX4_keep) := goodIn_app (goodIn_of _ (by decide +kernel)) ggX4_close_X4_keep
set_option maxRecDepth 20000 in
theorem ggX4_close_X4_sizeOf : GoodIn wsX4_close wsX4_sizeOf := goodIn_r _ [23, 24, 12, 15, 16, 17, 3, 18, 19, 58, 59, 60, 61, 62, 63, 64, 65, 66, 67, 68, 69, 70, 71, 72, 73] (by decide +kernel) (by decide +kernel)
set_option maxRecDepth 20000 in
theorem gX4_close_X4_sizeOf : GoodIn wsX4_close (wsV RX4 88 RX4 yX4_sizeOf wsX4_sizeOf) := goodIn_app (goodIn_of _ (by decide +kernel)) ggX4_close_X4_sizeOf
set_option maxRecDepth 20000 in
theorem ggX4_close_X4_moved : GoodIn wsX4_close wsX4_moved := goodIn_r _ [34, 35, 36, 19, 37, 38, 39, 3, 40, 41, 42, 43, 5, 6, 7, 20, 21, 22, 23, 24, 12, 15, 16, 17, 18, 25, 26, 27, 28, 29, 30, 44, 45, 46, 47, 48, 49, 50, 51, 52, 58, 59, 60, 61, 62, 63, 64, 65, 66, 67, 68, 69, 70, 71, 72, 73] (by decide +kernel) (by decide +kernel)
set_option maxRecDepth 20000 in
theorem gX4_close_X4_moved : GoodIn wsX4_close (wsV RX4 113 RX4 yX4_moved wsX4_moved) := goodIn_app (goodIn_of _ (by decide +kernel)) ggX4_close_X4_moved
set_option maxRecDepth 20000 in
theorem ggX4_close_X4_told0 : GoodIn wsX4_close wsX4_told0 := goodIn_r _ [56, 57, 58, 59, 60, 61, 62, 63, 64, 65, 66, 67, 68, 69, 70, 71, 72, 73] (by decide +kernel) (by decide +kernel)
set_option maxRecDepth 20000 in
theorem gX4_close_X4_told0 : GoodIn wsX4_close (wsV RX4 117 RX4 yX4_told0 wsX4_told0) := goodIn_app (goodIn_of _ (by decide +kernel)) ggX4_close_X4_told0
theorem dX4_close_0 : decode cX4_close 0 = .ok (.iload_n 1, 1) := by decide +kernel
theorem dX4_close_1 : decode cX4_close 1 = .ok (.invokestatic 60, 3) := by decide +kernel
theorem dX4_close_4 : decode cX4_close 4 = .ok (.ifCond .ne 6, 3) := by decide +kernel
theorem dX4_close_7 : decode cX4_close 7 = .ok (.bipush (-6), 2) := by decide +kernel
theorem dX4_close_9 : decode cX4_close 9 = .ok (.ireturn, 1) := by decide +kernel
theorem dX4_close_10 : decode cX4_close 10 = .ok (.aload_n 0, 1) := by decide +kernel
theorem dX4_close_11 : decode cX4_close 11 = .ok (.iload_n 1, 1) := by decide +kernel
theorem dX4_close_12 : decode cX4_close 12 = .ok (.invokevirtual 109, 3) := by decide +kernel
theorem dX4_close_15 : decode cX4_close 15 = .ok (.aload_n 0, 1) := by decide +kernel
theorem dX4_close_16 : decode cX4_close 16 = .ok (.aload_n 0, 1) := by decide +kernel
theorem dX4_close_17 : decode cX4_close 17 = .ok (.iload_n 1, 1) := by decide +kernel
theorem dX4_close_18 : decode cX4_close 18 = .ok (.iload_n 2, 1) := by decide +kernel
theorem dX4_close_19 : decode cX4_close 19 = .ok (.iload_n 3, 1) := by decide +kernel
theorem dX4_close_20 : decode cX4_close 20 = .ok (.iadd, 1) := by decide +kernel
theorem dX4_close_21 : decode cX4_close 21 = .ok (.iload_n 1, 1) := by decide +kernel
theorem dX4_close_22 : decode cX4_close 22 = .ok (.iload_n 2, 1) := by decide +kernel
theorem dX4_close_23 : decode cX4_close 23 = .ok (.aload_n 0, 1) := by decide +kernel
theorem dX4_close_24 : decode cX4_close 24 = .ok (.iload_n 1, 1) := by decide +kernel
theorem dX4_close_25 : decode cX4_close 25 = .ok (.invokevirtual 88, 3) := by decide +kernel
theorem dX4_close_28 : decode cX4_close 28 = .ok (.iload_n 2, 1) := by decide +kernel
theorem dX4_close_29 : decode cX4_close 29 = .ok (.isub, 1) := by decide +kernel
theorem dX4_close_30 : decode cX4_close 30 = .ok (.iload_n 3, 1) := by decide +kernel
theorem dX4_close_31 : decode cX4_close 31 = .ok (.isub, 1) := by decide +kernel
theorem dX4_close_32 : decode cX4_close 32 = .ok (.invokevirtual 113, 3) := by decide +kernel
theorem dX4_close_35 : decode cX4_close 35 = .ok (.invokevirtual 117, 3) := by decide +kernel
theorem dX4_close_38 : decode cX4_close 38 = .ok (.ireturn, 1) := by decide +kernel
set_option maxRecDepth 20000 in
theorem ggX4_turn_X4_isTray : GoodIn wsX4_turn wsX4_isTray := goodIn_r _ [5, 6, 7, 4, 8] (by decide +kernel) (by decide +kernel)
set_option maxRecDepth 20000 in
theorem gX4_turn_X4_isTray : GoodIn wsX4_turn (va_wsS RX4 60 yX4_isTray wsX4_isTray) := goodIn_app (goodIn_of _ (by decide +kernel)) ggX4_turn_X4_isTray
set_option maxRecDepth 20000 in
theorem ggX4_turn_X4_keep : GoodIn wsX4_turn wsX4_keep := goodIn_r _ [12, 13, 14, 1, 15, 16, 17, 4, 18, 19, 20, 21, 22, 23, 24, 25, 26, 27, 28, 29, 30, 44, 45, 46, 47, 48, 49, 50, 51, 52, 53, 54, 55, 56, 57, 58, 59] (by decide +kernel) (by decide +kernel)
set_option maxRecDepth 20000 in
theorem gX4_turn_X4_keep : GoodIn wsX4_turn (wsV RX4 109 RX4 yX4_keep wsX4_keep) := goodIn_app (goodIn_of _ (by decide +kernel)) ggX4_turn_X4_keep
set_option maxRecDepth 20000 in
theorem ggX4_turn_X4_isRow : GoodIn wsX4_turn wsX4_isRow := goodIn_r _ [18, 19, 44, 45, 46, 47, 48, 49, 50, 51, 52, 53, 54, 55, 56, 57, 58, 59] (by decide +kernel) (by decide +kernel)
set_option maxRecDepth 20000 in
theorem gX4_turn_X4_isRow : GoodIn wsX4_turn (wsV RX4 53 RX4 yX4_isRow wsX4_isRow) := goodIn_app (goodIn_of _ (by decide +kernel)) ggX4_turn_X4_isRow
set_option maxRecDepth 20000 in
theorem ggX4_turn_X4_lacks : GoodIn wsX4_turn wsX4_lacks := goodIn_r _ [34, 19, 44, 45, 46, 47, 48, 49, 50, 51, 52, 53, 54, 55, 56, 57, 58, 59] (by decide +kernel) (by decide +kernel)
set_option maxRecDepth 20000 in
theorem gX4_turn_X4_lacks : GoodIn wsX4_turn (wsV RX4 74 RX4 yX4_lacks wsX4_lacks) := goodIn_app (goodIn_of _ (by decide +kernel)) ggX4_turn_X4_lacks
set_option maxRecDepth 20000 in
theorem ggX4_turn_X4_told0 : GoodIn wsX4_turn wsX4_told0 := goodIn_r _ [38, 39, 44, 45, 46, 47, 48, 49, 50, 51, 52, 53, 54, 55, 56, 57, 58, 59] (by decide +kernel) (by decide +kernel)
set_option maxRecDepth 20000 in
theorem gX4_turn_X4_told0 : GoodIn wsX4_turn (wsV RX4 117 RX4 yX4_told0 wsX4_told0) := goodIn_app (goodIn_of _ (by decide +kernel)) ggX4_turn_X4_told0
set_option maxRecDepth 20000 in
theorem ggX4_turn_X4_sizeOf : GoodIn wsX4_turn wsX4_sizeOf := goodIn_r _ [23, 24, 13, 15, 16, 17, 4, 18, 19, 44, 45, 46, 47, 48, 49, 50, 51, 52, 53, 54, 55, 56, 57, 58, 59] (by decide +kernel) (by decide +kernel)
set_option maxRecDepth 20000 in
theorem gX4_turn_X4_sizeOf : GoodIn wsX4_turn (wsV RX4 88 RX4 yX4_sizeOf wsX4_sizeOf) := goodIn_app (goodIn_of _ (by decide +kernel)) ggX4_turn_X4_sizeOf
set_option maxRecDepth 20000 in
theorem ggX4_turn_X4_set : GoodIn wsX4_turn wsX4_set := goodIn_r _ [43, 29, 30, 13, 44, 45, 46, 47, 48, 49, 50, 51, 52, 53, 54, 55, 56, 57, 58, 59] (by decide +kernel) (by decide +kernel)
set_option maxRecDepth 20000 in
theorem gX4_turn_X4_set : GoodIn wsX4_turn (wsV RX4 95 RX4 yX4_set wsX4_set) := goodIn_app (goodIn_of _ (by decide +kernel)) ggX4_turn_X4_set
theorem dX4_turn_0 : decode cX4_turn 0 = .ok (.iload_n 1, 1) := by decide +kernel
theorem dX4_turn_1 : decode cX4_turn 1 = .ok (.invokestatic 60, 3) := by decide +kernel
theorem dX4_turn_4 : decode cX4_turn 4 = .ok (.ifCond .ne 6, 3) := by decide +kernel
theorem dX4_turn_7 : decode cX4_turn 7 = .ok (.bipush (-6), 2) := by decide +kernel
theorem dX4_turn_9 : decode cX4_turn 9 = .ok (.ireturn, 1) := by decide +kernel
theorem dX4_turn_10 : decode cX4_turn 10 = .ok (.aload_n 0, 1) := by decide +kernel
theorem dX4_turn_11 : decode cX4_turn 11 = .ok (.iload_n 1, 1) := by decide +kernel
theorem dX4_turn_12 : decode cX4_turn 12 = .ok (.invokevirtual 109, 3) := by decide +kernel
theorem dX4_turn_15 : decode cX4_turn 15 = .ok (.aload_n 0, 1) := by decide +kernel
theorem dX4_turn_16 : decode cX4_turn 16 = .ok (.iload_n 1, 1) := by decide +kernel
theorem dX4_turn_17 : decode cX4_turn 17 = .ok (.invokevirtual 53, 3) := by decide +kernel
theorem dX4_turn_20 : decode cX4_turn 20 = .ok (.ifCond .ne 13, 3) := by decide +kernel
theorem dX4_turn_23 : decode cX4_turn 23 = .ok (.aload_n 0, 1) := by decide +kernel
theorem dX4_turn_24 : decode cX4_turn 24 = .ok (.aload_n 0, 1) := by decide +kernel
theorem dX4_turn_25 : decode cX4_turn 25 = .ok (.iload_n 1, 1) := by decide +kernel
theorem dX4_turn_26 : decode cX4_turn 26 = .ok (.invokevirtual 74, 3) := by decide +kernel
theorem dX4_turn_29 : decode cX4_turn 29 = .ok (.invokevirtual 117, 3) := by decide +kernel
theorem dX4_turn_32 : decode cX4_turn 32 = .ok (.ireturn, 1) := by decide +kernel
theorem dX4_turn_33 : decode cX4_turn 33 = .ok (.aload_n 0, 1) := by decide +kernel
theorem dX4_turn_34 : decode cX4_turn 34 = .ok (.iload_n 1, 1) := by decide +kernel
theorem dX4_turn_35 : decode cX4_turn 35 = .ok (.invokevirtual 88, 3) := by decide +kernel
theorem dX4_turn_38 : decode cX4_turn 38 = .ok (.istore_n 3, 1) := by decide +kernel
theorem dX4_turn_39 : decode cX4_turn 39 = .ok (.iconst 0, 1) := by decide +kernel
theorem dX4_turn_40 : decode cX4_turn 40 = .ok (.istore 4, 2) := by decide +kernel
theorem dX4_turn_42 : decode cX4_turn 42 = .ok (.iload 4, 2) := by decide +kernel
theorem dX4_turn_44 : decode cX4_turn 44 = .ok (.iload_n 3, 1) := by decide +kernel
theorem dX4_turn_45 : decode cX4_turn 45 = .ok (.if_icmp .ge 50, 3) := by decide +kernel
theorem dX4_turn_48 : decode cX4_turn 48 = .ok (.iload 4, 2) := by decide +kernel
theorem dX4_turn_50 : decode cX4_turn 50 = .ok (.i2l, 1) := by decide +kernel
theorem dX4_turn_51 : decode cX4_turn 51 = .ok (.iload_n 2, 1) := by decide +kernel
theorem dX4_turn_52 : decode cX4_turn 52 = .ok (.i2l, 1) := by decide +kernel
theorem dX4_turn_53 : decode cX4_turn 53 = .ok (.ladd, 1) := by decide +kernel
theorem dX4_turn_54 : decode cX4_turn 54 = .ok (.iload_n 3, 1) := by decide +kernel
theorem dX4_turn_55 : decode cX4_turn 55 = .ok (.i2l, 1) := by decide +kernel
theorem dX4_turn_56 : decode cX4_turn 56 = .ok (.lrem, 1) := by decide +kernel
theorem dX4_turn_57 : decode cX4_turn 57 = .ok (.lstore 5, 2) := by decide +kernel
theorem dX4_turn_59 : decode cX4_turn 59 = .ok (.aload_n 0, 1) := by decide +kernel
theorem dX4_turn_60 : decode cX4_turn 60 = .ok (.iload_n 1, 1) := by decide +kernel
theorem dX4_turn_61 : decode cX4_turn 61 = .ok (.iload 4, 2) := by decide +kernel
theorem dX4_turn_63 : decode cX4_turn 63 = .ok (.aload_n 0, 1) := by decide +kernel
theorem dX4_turn_64 : decode cX4_turn 64 = .ok (.getfield 39, 3) := by decide +kernel
theorem dX4_turn_67 : decode cX4_turn 67 = .ok (.lload 5, 2) := by decide +kernel
theorem dX4_turn_69 : decode cX4_turn 69 = .ok (.lconst 0, 1) := by decide +kernel
theorem dX4_turn_70 : decode cX4_turn 70 = .ok (.lcmp, 1) := by decide +kernel
theorem dX4_turn_71 : decode cX4_turn 71 = .ok (.ifCond .ge 11, 3) := by decide +kernel
theorem dX4_turn_74 : decode cX4_turn 74 = .ok (.lload 5, 2) := by decide +kernel
theorem dX4_turn_76 : decode cX4_turn 76 = .ok (.iload_n 3, 1) := by decide +kernel
theorem dX4_turn_77 : decode cX4_turn 77 = .ok (.i2l, 1) := by decide +kernel
theorem dX4_turn_78 : decode cX4_turn 78 = .ok (.ladd, 1) := by decide +kernel
theorem dX4_turn_79 : decode cX4_turn 79 = .ok (.goto 5, 3) := by decide +kernel
theorem dX4_turn_82 : decode cX4_turn 82 = .ok (.lload 5, 2) := by decide +kernel
theorem dX4_turn_84 : decode cX4_turn 84 = .ok (.l2i, 1) := by decide +kernel
theorem dX4_turn_85 : decode cX4_turn 85 = .ok (.laload, 1) := by decide +kernel
theorem dX4_turn_86 : decode cX4_turn 86 = .ok (.invokevirtual 95, 3) := by decide +kernel
theorem dX4_turn_89 : decode cX4_turn 89 = .ok (.iinc 4 1, 3) := by decide +kernel
theorem dX4_turn_92 : decode cX4_turn 92 = .ok (.goto (-50), 3) := by decide +kernel
theorem dX4_turn_95 : decode cX4_turn 95 = .ok (.aload_n 0, 1) := by decide +kernel
theorem dX4_turn_96 : decode cX4_turn 96 = .ok (.iload_n 3, 1) := by decide +kernel
theorem dX4_turn_97 : decode cX4_turn 97 = .ok (.invokevirtual 117, 3) := by decide +kernel
theorem dX4_turn_100 : decode cX4_turn 100 = .ok (.ireturn, 1) := by decide +kernel
set_option maxRecDepth 20000 in
theorem ggX4_spread_X4_isTray : GoodIn wsX4_spread wsX4_isTray := goodIn_r _ [5, 6, 7, 4, 8] (by decide +kernel) (by decide +kernel)
set_option maxRecDepth 20000 in
theorem gX4_spread_X4_isTray : GoodIn wsX4_spread (va_wsS RX4 60 yX4_isTray wsX4_isTray) := goodIn_app (goodIn_of _ (by decide +kernel)) ggX4_spread_X4_isTray
set_option maxRecDepth 20000 in
theorem ggX4_spread_X4_keep : GoodIn wsX4_spread wsX4_keep := goodIn_r _ [12, 13, 14, 1, 15, 16, 17, 4, 18, 19, 20, 21, 22, 23, 24, 25, 26, 27, 28, 29, 30, 44, 45, 46, 47, 48, 49, 50, 51, 52, 53, 54, 55, 56, 57, 58, 59] (by decide +kernel) (by decide +kernel)
set_option maxRecDepth 20000 in
theorem gX4_spread_X4_keep : GoodIn wsX4_spread (wsV RX4 109 RX4 yX4_keep wsX4_keep) := goodIn_app (goodIn_of _ (by decide +kernel)) ggX4_spread_X4_keep
set_option maxRecDepth 20000 in
theorem ggX4_spread_X4_isRow : GoodIn wsX4_spread wsX4_isRow := goodIn_r _ [18, 19, 44, 45, 46, 47, 48, 49, 50, 51, 52, 53, 54, 55, 56, 57, 58, 59] (by decide +kernel) (by decide +kernel)
set_option maxRecDepth 20000 in
theorem gX4_spread_X4_isRow : GoodIn wsX4_spread (wsV RX4 53 RX4 yX4_isRow wsX4_isRow) := goodIn_app (goodIn_of _ (by decide +kernel)) ggX4_spread_X4_isRow
set_option maxRecDepth 20000 in
theorem ggX4_spread_X4_lacks : GoodIn wsX4_spread wsX4_lacks := goodIn_r _ [34, 19, 44, 45, 46, 47, 48, 49, 50, 51, 52, 53, 54, 55, 56, 57, 58, 59] (by decide +kernel) (by decide +kernel)
set_option maxRecDepth 20000 in
theorem gX4_spread_X4_lacks : GoodIn wsX4_spread (wsV RX4 74 RX4 yX4_lacks wsX4_lacks) := goodIn_app (goodIn_of _ (by decide +kernel)) ggX4_spread_X4_lacks
set_option maxRecDepth 20000 in
theorem ggX4_spread_X4_told0 : GoodIn wsX4_spread wsX4_told0 := goodIn_r _ [38, 39, 44, 45, 46, 47, 48, 49, 50, 51, 52, 53, 54, 55, 56, 57, 58, 59] (by decide +kernel) (by decide +kernel)
set_option maxRecDepth 20000 in
theorem gX4_spread_X4_told0 : GoodIn wsX4_spread (wsV RX4 117 RX4 yX4_told0 wsX4_told0) := goodIn_app (goodIn_of _ (by decide +kernel)) ggX4_spread_X4_told0
set_option maxRecDepth 20000 in
theorem ggX4_spread_X4_sizeOf : GoodIn wsX4_spread wsX4_sizeOf := goodIn_r _ [23, 24, 13, 15, 16, 17, 4, 18, 19, 44, 45, 46, 47, 48, 49, 50, 51, 52, 53, 54, 55, 56, 57, 58, 59] (by decide +kernel) (by decide +kernel)
set_option maxRecDepth 20000 in
theorem gX4_spread_X4_sizeOf : GoodIn wsX4_spread (wsV RX4 88 RX4 yX4_sizeOf wsX4_sizeOf) := goodIn_app (goodIn_of _ (by decide +kernel)) ggX4_spread_X4_sizeOf
set_option maxRecDepth 20000 in
theorem ggX4_spread_X4_in : GoodIn wsX4_spread wsX4_in := goodIn_r _ [8] (by decide +kernel) (by decide +kernel)
set_option maxRecDepth 20000 in
theorem gX4_spread_X4_in : GoodIn wsX4_spread (va_wsS RX4 49 yX4_in wsX4_in) := goodIn_app (goodIn_of _ (by decide +kernel)) ggX4_spread_X4_in
set_option maxRecDepth 20000 in
theorem ggX4_spread_X4_set : GoodIn wsX4_spread wsX4_set := goodIn_r _ [43, 29, 30, 13, 44, 45, 46, 47, 48, 49, 50, 51, 52, 53, 54, 55, 56, 57, 58, 59] (by decide +kernel) (by decide +kernel)
set_option maxRecDepth 20000 in
theorem gX4_spread_X4_set : GoodIn wsX4_spread (wsV RX4 95 RX4 yX4_set wsX4_set) := goodIn_app (goodIn_of _ (by decide +kernel)) ggX4_spread_X4_set
theorem dX4_spread_0 : decode cX4_spread 0 = .ok (.iload_n 1, 1) := by decide +kernel
theorem dX4_spread_1 : decode cX4_spread 1 = .ok (.invokestatic 60, 3) := by decide +kernel
theorem dX4_spread_4 : decode cX4_spread 4 = .ok (.ifCond .ne 6, 3) := by decide +kernel
theorem dX4_spread_7 : decode cX4_spread 7 = .ok (.bipush (-6), 2) := by decide +kernel
theorem dX4_spread_9 : decode cX4_spread 9 = .ok (.ireturn, 1) := by decide +kernel
theorem dX4_spread_10 : decode cX4_spread 10 = .ok (.aload_n 0, 1) := by decide +kernel
theorem dX4_spread_11 : decode cX4_spread 11 = .ok (.iload_n 1, 1) := by decide +kernel
theorem dX4_spread_12 : decode cX4_spread 12 = .ok (.invokevirtual 109, 3) := by decide +kernel
theorem dX4_spread_15 : decode cX4_spread 15 = .ok (.aload_n 0, 1) := by decide +kernel
theorem dX4_spread_16 : decode cX4_spread 16 = .ok (.iload_n 1, 1) := by decide +kernel
theorem dX4_spread_17 : decode cX4_spread 17 = .ok (.invokevirtual 53, 3) := by decide +kernel
theorem dX4_spread_20 : decode cX4_spread 20 = .ok (.ifCond .ne 13, 3) := by decide +kernel
theorem dX4_spread_23 : decode cX4_spread 23 = .ok (.aload_n 0, 1) := by decide +kernel
theorem dX4_spread_24 : decode cX4_spread 24 = .ok (.aload_n 0, 1) := by decide +kernel
theorem dX4_spread_25 : decode cX4_spread 25 = .ok (.iload_n 1, 1) := by decide +kernel
theorem dX4_spread_26 : decode cX4_spread 26 = .ok (.invokevirtual 74, 3) := by decide +kernel
theorem dX4_spread_29 : decode cX4_spread 29 = .ok (.invokevirtual 117, 3) := by decide +kernel
theorem dX4_spread_32 : decode cX4_spread 32 = .ok (.ireturn, 1) := by decide +kernel
theorem dX4_spread_33 : decode cX4_spread 33 = .ok (.aload_n 0, 1) := by decide +kernel
theorem dX4_spread_34 : decode cX4_spread 34 = .ok (.iload_n 1, 1) := by decide +kernel
theorem dX4_spread_35 : decode cX4_spread 35 = .ok (.invokevirtual 88, 3) := by decide +kernel
theorem dX4_spread_38 : decode cX4_spread 38 = .ok (.istore_n 3, 1) := by decide +kernel
theorem dX4_spread_39 : decode cX4_spread 39 = .ok (.iload_n 2, 1) := by decide +kernel
theorem dX4_spread_40 : decode cX4_spread 40 = .ok (.iconst 1, 1) := by decide +kernel
theorem dX4_spread_41 : decode cX4_spread 41 = .ok (.iload_n 3, 1) := by decide +kernel
theorem dX4_spread_42 : decode cX4_spread 42 = .ok (.invokestatic 49, 3) := by decide +kernel
theorem dX4_spread_45 : decode cX4_spread 45 = .ok (.ifCond .ne 10, 3) := by decide +kernel
theorem dX4_spread_48 : decode cX4_spread 48 = .ok (.aload_n 0, 1) := by decide +kernel
theorem dX4_spread_49 : decode cX4_spread 49 = .ok (.bipush (-4), 2) := by decide +kernel
theorem dX4_spread_51 : decode cX4_spread 51 = .ok (.invokevirtual 117, 3) := by decide +kernel
theorem dX4_spread_54 : decode cX4_spread 54 = .ok (.ireturn, 1) := by decide +kernel
theorem dX4_spread_55 : decode cX4_spread 55 = .ok (.iload_n 2, 1) := by decide +kernel
theorem dX4_spread_56 : decode cX4_spread 56 = .ok (.istore 4, 2) := by decide +kernel
theorem dX4_spread_58 : decode cX4_spread 58 = .ok (.iload 4, 2) := by decide +kernel
theorem dX4_spread_60 : decode cX4_spread 60 = .ok (.iload_n 3, 1) := by decide +kernel
theorem dX4_spread_61 : decode cX4_spread 61 = .ok (.if_icmp .ge 25, 3) := by decide +kernel
theorem dX4_spread_64 : decode cX4_spread 64 = .ok (.aload_n 0, 1) := by decide +kernel
theorem dX4_spread_65 : decode cX4_spread 65 = .ok (.iload_n 1, 1) := by decide +kernel
theorem dX4_spread_66 : decode cX4_spread 66 = .ok (.iload 4, 2) := by decide +kernel
theorem dX4_spread_68 : decode cX4_spread 68 = .ok (.aload_n 0, 1) := by decide +kernel
theorem dX4_spread_69 : decode cX4_spread 69 = .ok (.getfield 39, 3) := by decide +kernel
theorem dX4_spread_72 : decode cX4_spread 72 = .ok (.iload 4, 2) := by decide +kernel
theorem dX4_spread_74 : decode cX4_spread 74 = .ok (.iload_n 2, 1) := by decide +kernel
theorem dX4_spread_75 : decode cX4_spread 75 = .ok (.irem, 1) := by decide +kernel
theorem dX4_spread_76 : decode cX4_spread 76 = .ok (.laload, 1) := by decide +kernel
theorem dX4_spread_77 : decode cX4_spread 77 = .ok (.invokevirtual 95, 3) := by decide +kernel
theorem dX4_spread_80 : decode cX4_spread 80 = .ok (.iinc 4 1, 3) := by decide +kernel
theorem dX4_spread_83 : decode cX4_spread 83 = .ok (.goto (-25), 3) := by decide +kernel
theorem dX4_spread_86 : decode cX4_spread 86 = .ok (.aload_n 0, 1) := by decide +kernel
theorem dX4_spread_87 : decode cX4_spread 87 = .ok (.iload_n 3, 1) := by decide +kernel
theorem dX4_spread_88 : decode cX4_spread 88 = .ok (.invokevirtual 117, 3) := by decide +kernel
theorem dX4_spread_91 : decode cX4_spread 91 = .ok (.ireturn, 1) := by decide +kernel
theorem dX4_undo_0 : decode cX4_undo 0 = .ok (.aload_n 0, 1) := by decide +kernel
theorem dX4_undo_1 : decode cX4_undo 1 = .ok (.getfield 42, 3) := by decide +kernel
theorem dX4_undo_4 : decode cX4_undo 4 = .ok (.iconst (-1), 1) := by decide +kernel
theorem dX4_undo_5 : decode cX4_undo 5 = .ok (.if_icmp .ne 5, 3) := by decide +kernel
theorem dX4_undo_8 : decode cX4_undo 8 = .ok (.iconst (-1), 1) := by decide +kernel
theorem dX4_undo_9 : decode cX4_undo 9 = .ok (.ireturn, 1) := by decide +kernel
theorem dX4_undo_10 : decode cX4_undo 10 = .ok (.aload_n 0, 1) := by decide +kernel
theorem dX4_undo_11 : decode cX4_undo 11 = .ok (.getfield 22, 3) := by decide +kernel
theorem dX4_undo_14 : decode cX4_undo 14 = .ok (.aload_n 0, 1) := by decide +kernel
theorem dX4_undo_15 : decode cX4_undo 15 = .ok (.getfield 42, 3) := by decide +kernel
theorem dX4_undo_18 : decode cX4_undo 18 = .ok (.iaload, 1) := by decide +kernel
theorem dX4_undo_19 : decode cX4_undo 19 = .ok (.istore_n 1, 1) := by decide +kernel
theorem dX4_undo_20 : decode cX4_undo 20 = .ok (.iconst 0, 1) := by decide +kernel
theorem dX4_undo_21 : decode cX4_undo 21 = .ok (.istore_n 2, 1) := by decide +kernel
theorem dX4_undo_22 : decode cX4_undo 22 = .ok (.iload_n 2, 1) := by decide +kernel
theorem dX4_undo_23 : decode cX4_undo 23 = .ok (.iload_n 1, 1) := by decide +kernel
theorem dX4_undo_24 : decode cX4_undo 24 = .ok (.if_icmp .ge 31, 3) := by decide +kernel
theorem dX4_undo_27 : decode cX4_undo 27 = .ok (.aload_n 0, 1) := by decide +kernel
theorem dX4_undo_28 : decode cX4_undo 28 = .ok (.getfield 26, 3) := by decide +kernel
theorem dX4_undo_31 : decode cX4_undo 31 = .ok (.aload_n 0, 1) := by decide +kernel
theorem dX4_undo_32 : decode cX4_undo 32 = .ok (.getfield 19, 3) := by decide +kernel
theorem dX4_undo_35 : decode cX4_undo 35 = .ok (.aload_n 0, 1) := by decide +kernel
theorem dX4_undo_36 : decode cX4_undo 36 = .ok (.getfield 42, 3) := by decide +kernel
theorem dX4_undo_39 : decode cX4_undo 39 = .ok (.iaload, 1) := by decide +kernel
theorem dX4_undo_40 : decode cX4_undo 40 = .ok (.iload_n 2, 1) := by decide +kernel
theorem dX4_undo_41 : decode cX4_undo 41 = .ok (.iadd, 1) := by decide +kernel
theorem dX4_undo_42 : decode cX4_undo 42 = .ok (.aload_n 0, 1) := by decide +kernel
theorem dX4_undo_43 : decode cX4_undo 43 = .ok (.getfield 39, 3) := by decide +kernel
theorem dX4_undo_46 : decode cX4_undo 46 = .ok (.iload_n 2, 1) := by decide +kernel
theorem dX4_undo_47 : decode cX4_undo 47 = .ok (.laload, 1) := by decide +kernel
theorem dX4_undo_48 : decode cX4_undo 48 = .ok (.lastore, 1) := by decide +kernel
theorem dX4_undo_49 : decode cX4_undo 49 = .ok (.iinc 2 1, 3) := by decide +kernel
theorem dX4_undo_52 : decode cX4_undo 52 = .ok (.goto (-30), 3) := by decide +kernel
theorem dX4_undo_55 : decode cX4_undo 55 = .ok (.aload_n 0, 1) := by decide +kernel
theorem dX4_undo_56 : decode cX4_undo 56 = .ok (.iconst (-1), 1) := by decide +kernel
theorem dX4_undo_57 : decode cX4_undo 57 = .ok (.putfield 42, 3) := by decide +kernel
theorem dX4_undo_60 : decode cX4_undo 60 = .ok (.iload_n 1, 1) := by decide +kernel
theorem dX4_undo_61 : decode cX4_undo 61 = .ok (.ireturn, 1) := by decide +kernel
set_option maxRecDepth 20000 in
theorem ggX4_match_X4_isTray : GoodIn wsX4_match wsX4_isTray := goodIn_r _ [4, 5, 6, 3, 7] (by decide +kernel) (by decide +kernel)
set_option maxRecDepth 20000 in
theorem gX4_match_X4_isTray : GoodIn wsX4_match (va_wsS RX4 60 yX4_isTray wsX4_isTray) := goodIn_app (goodIn_of _ (by decide +kernel)) ggX4_match_X4_isTray
set_option maxRecDepth 20000 in
theorem ggX4_match_X4_unlike : GoodIn wsX4_match wsX4_unlike := goodIn_r _ [11, 12, 13, 14, 3, 15, 5, 6, 7, 32, 33, 34, 35, 36, 37, 38, 39, 40, 41, 42, 43, 44, 45, 46, 47] (by decide +kernel) (by decide +kernel)
set_option maxRecDepth 20000 in
theorem gX4_match_X4_unlike : GoodIn wsX4_match (wsV RX4 105 RX4 yX4_unlike wsX4_unlike) := goodIn_app (goodIn_of _ (by decide +kernel)) ggX4_match_X4_unlike
set_option maxRecDepth 20000 in
theorem ggX4_match_X4_sizeOf : GoodIn wsX4_match wsX4_sizeOf := goodIn_r _ [19, 20, 21, 22, 23, 24, 3, 25, 12, 32, 33, 34, 35, 36, 37, 38, 39, 40, 41, 42, 43, 44, 45, 46, 47] (by decide +kernel) (by decide +kernel)
set_option maxRecDepth 20000 in
theorem gX4_match_X4_sizeOf : GoodIn wsX4_match (wsV RX4 88 RX4 yX4_sizeOf wsX4_sizeOf) := goodIn_app (goodIn_of _ (by decide +kernel)) ggX4_match_X4_sizeOf
set_option maxRecDepth 20000 in
theorem ggX4_match_X4_get : GoodIn wsX4_match wsX4_get := goodIn_r _ [29, 30, 31, 21, 32, 33, 34, 35, 36, 37, 38, 39, 40, 41, 42, 43, 44, 45, 46, 47] (by decide +kernel) (by decide +kernel)
set_option maxRecDepth 20000 in
theorem gX4_match_X4_get : GoodIn wsX4_match (wsV RX4 99 RX4 yX4_get wsX4_get) := goodIn_app (goodIn_of _ (by decide +kernel)) ggX4_match_X4_get
theorem dX4_match_0 : decode cX4_match 0 = .ok (.iload_n 1, 1) := by decide +kernel
theorem dX4_match_1 : decode cX4_match 1 = .ok (.invokestatic 60, 3) := by decide +kernel
theorem dX4_match_4 : decode cX4_match 4 = .ok (.ifCond .eq 10, 3) := by decide +kernel
theorem dX4_match_7 : decode cX4_match 7 = .ok (.iload_n 3, 1) := by decide +kernel
theorem dX4_match_8 : decode cX4_match 8 = .ok (.invokestatic 60, 3) := by decide +kernel
theorem dX4_match_11 : decode cX4_match 11 = .ok (.ifCond .ne 6, 3) := by decide +kernel
theorem dX4_match_14 : decode cX4_match 14 = .ok (.bipush (-6), 2) := by decide +kernel
theorem dX4_match_16 : decode cX4_match 16 = .ok (.ireturn, 1) := by decide +kernel
theorem dX4_match_17 : decode cX4_match 17 = .ok (.aload_n 0, 1) := by decide +kernel
theorem dX4_match_18 : decode cX4_match 18 = .ok (.iload_n 1, 1) := by decide +kernel
theorem dX4_match_19 : decode cX4_match 19 = .ok (.iload_n 3, 1) := by decide +kernel
theorem dX4_match_20 : decode cX4_match 20 = .ok (.invokevirtual 105, 3) := by decide +kernel
theorem dX4_match_23 : decode cX4_match 23 = .ok (.istore 6, 2) := by decide +kernel
theorem dX4_match_25 : decode cX4_match 25 = .ok (.iload 6, 2) := by decide +kernel
theorem dX4_match_27 : decode cX4_match 27 = .ok (.ifCond .ge 6, 3) := by decide +kernel
theorem dX4_match_30 : decode cX4_match 30 = .ok (.iload 6, 2) := by decide +kernel
theorem dX4_match_32 : decode cX4_match 32 = .ok (.ireturn, 1) := by decide +kernel
theorem dX4_match_33 : decode cX4_match 33 = .ok (.iload_n 2, 1) := by decide +kernel
theorem dX4_match_34 : decode cX4_match 34 = .ok (.ifCond .lt 32, 3) := by decide +kernel
theorem dX4_match_37 : decode cX4_match 37 = .ok (.iload 4, 2) := by decide +kernel
theorem dX4_match_39 : decode cX4_match 39 = .ok (.ifCond .lt 27, 3) := by decide +kernel
theorem dX4_match_42 : decode cX4_match 42 = .ok (.iload 5, 2) := by decide +kernel
theorem dX4_match_44 : decode cX4_match 44 = .ok (.ifCond .lt 22, 3) := by decide +kernel
theorem dX4_match_47 : decode cX4_match 47 = .ok (.iload_n 2, 1) := by decide +kernel
theorem dX4_match_48 : decode cX4_match 48 = .ok (.aload_n 0, 1) := by decide +kernel
theorem dX4_match_49 : decode cX4_match 49 = .ok (.iload_n 1, 1) := by decide +kernel
theorem dX4_match_50 : decode cX4_match 50 = .ok (.invokevirtual 88, 3) := by decide +kernel
theorem dX4_match_53 : decode cX4_match 53 = .ok (.if_icmp .gt 13, 3) := by decide +kernel
theorem dX4_match_56 : decode cX4_match 56 = .ok (.iload 4, 2) := by decide +kernel
theorem dX4_match_58 : decode cX4_match 58 = .ok (.aload_n 0, 1) := by decide +kernel
theorem dX4_match_59 : decode cX4_match 59 = .ok (.iload_n 3, 1) := by decide +kernel
theorem dX4_match_60 : decode cX4_match 60 = .ok (.invokevirtual 88, 3) := by decide +kernel
theorem dX4_match_63 : decode cX4_match 63 = .ok (.if_icmp .le 6, 3) := by decide +kernel
theorem dX4_match_66 : decode cX4_match 66 = .ok (.bipush (-4), 2) := by decide +kernel
theorem dX4_match_68 : decode cX4_match 68 = .ok (.ireturn, 1) := by decide +kernel
theorem dX4_match_69 : decode cX4_match 69 = .ok (.iconst 0, 1) := by decide +kernel
theorem dX4_match_70 : decode cX4_match 70 = .ok (.istore 7, 2) := by decide +kernel
theorem dX4_match_72 : decode cX4_match 72 = .ok (.iload 7, 2) := by decide +kernel
theorem dX4_match_74 : decode cX4_match 74 = .ok (.iload 5, 2) := by decide +kernel
theorem dX4_match_76 : decode cX4_match 76 = .ok (.if_icmp .ge 57, 3) := by decide +kernel
theorem dX4_match_79 : decode cX4_match 79 = .ok (.iload_n 2, 1) := by decide +kernel
theorem dX4_match_80 : decode cX4_match 80 = .ok (.iload 7, 2) := by decide +kernel
theorem dX4_match_82 : decode cX4_match 82 = .ok (.iadd, 1) := by decide +kernel
theorem dX4_match_83 : decode cX4_match 83 = .ok (.aload_n 0, 1) := by decide +kernel
theorem dX4_match_84 : decode cX4_match 84 = .ok (.iload_n 1, 1) := by decide +kernel
theorem dX4_match_85 : decode cX4_match 85 = .ok (.invokevirtual 88, 3) := by decide +kernel
theorem dX4_match_88 : decode cX4_match 88 = .ok (.if_icmp .ge 45, 3) := by decide +kernel
theorem dX4_match_91 : decode cX4_match 91 = .ok (.iload 4, 2) := by decide +kernel
theorem dX4_match_93 : decode cX4_match 93 = .ok (.iload 7, 2) := by decide +kernel
theorem dX4_match_95 : decode cX4_match 95 = .ok (.iadd, 1) := by decide +kernel
theorem dX4_match_96 : decode cX4_match 96 = .ok (.aload_n 0, 1) := by decide +kernel
theorem dX4_match_97 : decode cX4_match 97 = .ok (.iload_n 3, 1) := by decide +kernel
theorem dX4_match_98 : decode cX4_match 98 = .ok (.invokevirtual 88, 3) := by decide +kernel
theorem dX4_match_101 : decode cX4_match 101 = .ok (.if_icmp .ge 32, 3) := by decide +kernel
theorem dX4_match_104 : decode cX4_match 104 = .ok (.aload_n 0, 1) := by decide +kernel
theorem dX4_match_105 : decode cX4_match 105 = .ok (.iload_n 1, 1) := by decide +kernel
theorem dX4_match_106 : decode cX4_match 106 = .ok (.iload_n 2, 1) := by decide +kernel
theorem dX4_match_107 : decode cX4_match 107 = .ok (.iload 7, 2) := by decide +kernel
theorem dX4_match_109 : decode cX4_match 109 = .ok (.iadd, 1) := by decide +kernel
theorem dX4_match_110 : decode cX4_match 110 = .ok (.invokevirtual 99, 3) := by decide +kernel
theorem dX4_match_113 : decode cX4_match 113 = .ok (.aload_n 0, 1) := by decide +kernel
theorem dX4_match_114 : decode cX4_match 114 = .ok (.iload_n 3, 1) := by decide +kernel
theorem dX4_match_115 : decode cX4_match 115 = .ok (.iload 4, 2) := by decide +kernel
theorem dX4_match_117 : decode cX4_match 117 = .ok (.iload 7, 2) := by decide +kernel
theorem dX4_match_119 : decode cX4_match 119 = .ok (.iadd, 1) := by decide +kernel
theorem dX4_match_120 : decode cX4_match 120 = .ok (.invokevirtual 99, 3) := by decide +kernel
theorem dX4_match_123 : decode cX4_match 123 = .ok (.lcmp, 1) := by decide +kernel
theorem dX4_match_124 : decode cX4_match 124 = .ok (.ifCond .ne 9, 3) := by decide +kernel
theorem dX4_match_127 : decode cX4_match 127 = .ok (.iinc 7 1, 3) := by decide +kernel
theorem dX4_match_130 : decode cX4_match 130 = .ok (.goto (-58), 3) := by decide +kernel
theorem dX4_match_133 : decode cX4_match 133 = .ok (.iload 7, 2) := by decide +kernel
theorem dX4_match_135 : decode cX4_match 135 = .ok (.ireturn, 1) := by decide +kernel
set_option maxRecDepth 20000 in
theorem ggX4_polish_X4_isTray : GoodIn wsX4_polish wsX4_isTray := goodIn_r _ [6, 7, 8, 5, 9] (by decide +kernel) (by decide +kernel)
set_option maxRecDepth 20000 in
theorem gX4_polish_X4_isTray : GoodIn wsX4_polish (va_wsS RX4 60 yX4_isTray wsX4_isTray) := goodIn_app (goodIn_of _ (by decide +kernel)) ggX4_polish_X4_isTray
set_option maxRecDepth 20000 in
theorem ggX4_polish_X4_isRow : GoodIn wsX4_polish wsX4_isRow := goodIn_r _ [13, 1, 30, 31, 32, 33, 34, 35, 36, 37, 38, 39, 40, 41, 42, 43, 44, 45] (by decide +kernel) (by decide +kernel)
set_option maxRecDepth 20000 in
theorem gX4_polish_X4_isRow : GoodIn wsX4_polish (wsV RX4 53 RX4 yX4_isRow wsX4_isRow) := goodIn_app (goodIn_of _ (by decide +kernel)) ggX4_polish_X4_isRow
set_option maxRecDepth 20000 in
theorem ggX4_polish_X4_lacks : GoodIn wsX4_polish wsX4_lacks := goodIn_r _ [17, 1, 30, 31, 32, 33, 34, 35, 36, 37, 38, 39, 40, 41, 42, 43, 44, 45] (by decide +kernel) (by decide +kernel)
set_option maxRecDepth 20000 in
theorem gX4_polish_X4_lacks : GoodIn wsX4_polish (wsV RX4 74 RX4 yX4_lacks wsX4_lacks) := goodIn_app (goodIn_of _ (by decide +kernel)) ggX4_polish_X4_lacks
set_option maxRecDepth 20000 in
theorem ggX4_polish_X4_in : GoodIn wsX4_polish wsX4_in := goodIn_r _ [9] (by decide +kernel) (by decide +kernel)
set_option maxRecDepth 20000 in
theorem gX4_polish_X4_in : GoodIn wsX4_polish (va_wsS RX4 49 yX4_in wsX4_in) := goodIn_app (goodIn_of _ (by decide +kernel)) ggX4_polish_X4_in
set_option maxRecDepth 20000 in
theorem ggX4_polish_X4_sizeOf : GoodIn wsX4_polish wsX4_sizeOf := goodIn_r _ [21, 22, 23, 10, 11, 12, 5, 13, 1, 30, 31, 32, 33, 34, 35, 36, 37, 38, 39, 40, 41, 42, 43, 44, 45] (by decide +kernel) (by decide +kernel)
set_option maxRecDepth 20000 in
theorem gX4_polish_X4_sizeOf : GoodIn wsX4_polish (wsV RX4 88 RX4 yX4_sizeOf wsX4_sizeOf) := goodIn_app (goodIn_of _ (by decide +kernel)) ggX4_polish_X4_sizeOf
set_option maxRecDepth 20000 in
theorem ggX4_polish_X4_get : GoodIn wsX4_polish wsX4_get := goodIn_r _ [27, 28, 29, 23, 30, 31, 32, 33, 34, 35, 36, 37, 38, 39, 40, 41, 42, 43, 44, 45] (by decide +kernel) (by decide +kernel)
set_option maxRecDepth 20000 in
theorem gX4_polish_X4_get : GoodIn wsX4_polish (wsV RX4 99 RX4 yX4_get wsX4_get) := goodIn_app (goodIn_of _ (by decide +kernel)) ggX4_polish_X4_get
theorem dX4_polish_0 : decode cX4_polish 0 = .ok (.iload_n 1, 1) := by decide +kernel
theorem dX4_polish_1 : decode cX4_polish 1 = .ok (.invokestatic 60, 3) := by decide +kernel
theorem dX4_polish_4 : decode cX4_polish 4 = .ok (.ifCond .ne 6, 3) := by decide +kernel
theorem dX4_polish_7 : decode cX4_polish 7 = .ok (.bipush (-6), 2) := by decide +kernel
theorem dX4_polish_9 : decode cX4_polish 9 = .ok (.ireturn, 1) := by decide +kernel
theorem dX4_polish_10 : decode cX4_polish 10 = .ok (.aload_n 0, 1) := by decide +kernel
theorem dX4_polish_11 : decode cX4_polish 11 = .ok (.iload_n 1, 1) := by decide +kernel
theorem dX4_polish_12 : decode cX4_polish 12 = .ok (.invokevirtual 53, 3) := by decide +kernel
theorem dX4_polish_15 : decode cX4_polish 15 = .ok (.ifCond .ne 9, 3) := by decide +kernel
theorem dX4_polish_18 : decode cX4_polish 18 = .ok (.aload_n 0, 1) := by decide +kernel
theorem dX4_polish_19 : decode cX4_polish 19 = .ok (.iload_n 1, 1) := by decide +kernel
theorem dX4_polish_20 : decode cX4_polish 20 = .ok (.invokevirtual 74, 3) := by decide +kernel
theorem dX4_polish_23 : decode cX4_polish 23 = .ok (.ireturn, 1) := by decide +kernel
theorem dX4_polish_24 : decode cX4_polish 24 = .ok (.aload_n 0, 1) := by decide +kernel
theorem dX4_polish_25 : decode cX4_polish 25 = .ok (.getfield 7, 3) := by decide +kernel
theorem dX4_polish_28 : decode cX4_polish 28 = .ok (.iload_n 1, 1) := by decide +kernel
theorem dX4_polish_29 : decode cX4_polish 29 = .ok (.iaload, 1) := by decide +kernel
theorem dX4_polish_30 : decode cX4_polish 30 = .ok (.bipush 10, 2) := by decide +kernel
theorem dX4_polish_32 : decode cX4_polish 32 = .ok (.bipush 12, 2) := by decide +kernel
theorem dX4_polish_34 : decode cX4_polish 34 = .ok (.invokestatic 49, 3) := by decide +kernel
theorem dX4_polish_37 : decode cX4_polish 37 = .ok (.ifCond .ne 6, 3) := by decide +kernel
theorem dX4_polish_40 : decode cX4_polish 40 = .ok (.bipush (-3), 2) := by decide +kernel
theorem dX4_polish_42 : decode cX4_polish 42 = .ok (.ireturn, 1) := by decide +kernel
theorem dX4_polish_43 : decode cX4_polish 43 = .ok (.iload_n 2, 1) := by decide +kernel
theorem dX4_polish_44 : decode cX4_polish 44 = .ok (.iconst 0, 1) := by decide +kernel
theorem dX4_polish_45 : decode cX4_polish 45 = .ok (.aload_n 0, 1) := by decide +kernel
theorem dX4_polish_46 : decode cX4_polish 46 = .ok (.iload_n 1, 1) := by decide +kernel
theorem dX4_polish_47 : decode cX4_polish 47 = .ok (.invokevirtual 88, 3) := by decide +kernel
theorem dX4_polish_50 : decode cX4_polish 50 = .ok (.iconst 1, 1) := by decide +kernel
theorem dX4_polish_51 : decode cX4_polish 51 = .ok (.isub, 1) := by decide +kernel
theorem dX4_polish_52 : decode cX4_polish 52 = .ok (.invokestatic 49, 3) := by decide +kernel
theorem dX4_polish_55 : decode cX4_polish 55 = .ok (.ifCond .ne 6, 3) := by decide +kernel
theorem dX4_polish_58 : decode cX4_polish 58 = .ok (.bipush (-4), 2) := by decide +kernel
theorem dX4_polish_60 : decode cX4_polish 60 = .ok (.ireturn, 1) := by decide +kernel
theorem dX4_polish_61 : decode cX4_polish 61 = .ok (.aload_n 0, 1) := by decide +kernel
theorem dX4_polish_62 : decode cX4_polish 62 = .ok (.iload_n 1, 1) := by decide +kernel
theorem dX4_polish_63 : decode cX4_polish 63 = .ok (.iload_n 2, 1) := by decide +kernel
theorem dX4_polish_64 : decode cX4_polish 64 = .ok (.invokevirtual 99, 3) := by decide +kernel
theorem dX4_polish_67 : decode cX4_polish 67 = .ok (.l2i, 1) := by decide +kernel
theorem dX4_polish_68 : decode cX4_polish 68 = .ok (.istore 4, 2) := by decide +kernel
theorem dX4_polish_70 : decode cX4_polish 70 = .ok (.iload 4, 2) := by decide +kernel
theorem dX4_polish_72 : decode cX4_polish 72 = .ok (.ifCond .ne 5, 3) := by decide +kernel
theorem dX4_polish_75 : decode cX4_polish 75 = .ok (.iconst (-1), 1) := by decide +kernel
theorem dX4_polish_76 : decode cX4_polish 76 = .ok (.ireturn, 1) := by decide +kernel
theorem dX4_polish_77 : decode cX4_polish 77 = .ok (.aload_n 0, 1) := by decide +kernel
theorem dX4_polish_78 : decode cX4_polish 78 = .ok (.getfield 33, 3) := by decide +kernel
theorem dX4_polish_81 : decode cX4_polish 81 = .ok (.iload 4, 2) := by decide +kernel
theorem dX4_polish_83 : decode cX4_polish 83 = .ok (.dup2, 1) := by decide +kernel
theorem dX4_polish_84 : decode cX4_polish 84 = .ok (.iaload, 1) := by decide +kernel
theorem dX4_polish_85 : decode cX4_polish 85 = .ok (.iload_n 3, 1) := by decide +kernel
theorem dX4_polish_86 : decode cX4_polish 86 = .ok (.iadd, 1) := by decide +kernel
theorem dX4_polish_87 : decode cX4_polish 87 = .ok (.iastore, 1) := by decide +kernel
theorem dX4_polish_88 : decode cX4_polish 88 = .ok (.iload 4, 2) := by decide +kernel
theorem dX4_polish_90 : decode cX4_polish 90 = .ok (.ireturn, 1) := by decide +kernel
set_option maxRecDepth 20000 in
theorem ggX4_tray_X4_isTray : GoodIn wsX4_tray wsX4_isTray := goodIn_r _ [6, 7, 8, 5, 9] (by decide +kernel) (by decide +kernel)
set_option maxRecDepth 20000 in
theorem gX4_tray_X4_isTray : GoodIn wsX4_tray (va_wsS RX4 60 yX4_isTray wsX4_isTray) := goodIn_app (goodIn_of _ (by decide +kernel)) ggX4_tray_X4_isTray
set_option maxRecDepth 20000 in
theorem ggX4_tray_X4_in : GoodIn wsX4_tray wsX4_in := goodIn_r _ [9] (by decide +kernel) (by decide +kernel)
set_option maxRecDepth 20000 in
theorem gX4_tray_X4_in : GoodIn wsX4_tray (va_wsS RX4 49 yX4_in wsX4_in) := goodIn_app (goodIn_of _ (by decide +kernel)) ggX4_tray_X4_in
set_option maxRecDepth 20000 in
theorem ggX4_tray_X4_sizeOf : GoodIn wsX4_tray wsX4_sizeOf := goodIn_r _ [13, 14, 2, 15, 16, 17, 5, 18, 1, 19, 20, 21, 22, 23, 24, 25, 26, 27, 28, 29, 30, 31, 32, 33, 34] (by decide +kernel) (by decide +kernel)
set_option maxRecDepth 20000 in
theorem gX4_tray_X4_sizeOf : GoodIn wsX4_tray (wsV RX4 88 RX4 yX4_sizeOf wsX4_sizeOf) := goodIn_app (goodIn_of _ (by decide +kernel)) ggX4_tray_X4_sizeOf
theorem dX4_tray_0 : decode cX4_tray 0 = .ok (.iload_n 1, 1) := by decide +kernel
theorem dX4_tray_1 : decode cX4_tray 1 = .ok (.invokestatic 60, 3) := by decide +kernel
theorem dX4_tray_4 : decode cX4_tray 4 = .ok (.ifCond .eq 12, 3) := by decide +kernel
theorem dX4_tray_7 : decode cX4_tray 7 = .ok (.iload_n 2, 1) := by decide +kernel
theorem dX4_tray_8 : decode cX4_tray 8 = .ok (.iconst 0, 1) := by decide +kernel
theorem dX4_tray_9 : decode cX4_tray 9 = .ok (.iconst 1, 1) := by decide +kernel
theorem dX4_tray_10 : decode cX4_tray 10 = .ok (.invokestatic 49, 3) := by decide +kernel
theorem dX4_tray_13 : decode cX4_tray 13 = .ok (.ifCond .ne 6, 3) := by decide +kernel
theorem dX4_tray_16 : decode cX4_tray 16 = .ok (.bipush (-6), 2) := by decide +kernel
theorem dX4_tray_18 : decode cX4_tray 18 = .ok (.ireturn, 1) := by decide +kernel
theorem dX4_tray_19 : decode cX4_tray 19 = .ok (.iload_n 2, 1) := by decide +kernel
theorem dX4_tray_20 : decode cX4_tray 20 = .ok (.ifCond .ne 12, 3) := by decide +kernel
theorem dX4_tray_23 : decode cX4_tray 23 = .ok (.aload_n 0, 1) := by decide +kernel
theorem dX4_tray_24 : decode cX4_tray 24 = .ok (.getfield 7, 3) := by decide +kernel
theorem dX4_tray_27 : decode cX4_tray 27 = .ok (.iload_n 1, 1) := by decide +kernel
theorem dX4_tray_28 : decode cX4_tray 28 = .ok (.iaload, 1) := by decide +kernel
theorem dX4_tray_29 : decode cX4_tray 29 = .ok (.goto 27, 3) := by decide +kernel
theorem dX4_tray_32 : decode cX4_tray 32 = .ok (.aload_n 0, 1) := by decide +kernel
theorem dX4_tray_33 : decode cX4_tray 33 = .ok (.getfield 7, 3) := by decide +kernel
theorem dX4_tray_36 : decode cX4_tray 36 = .ok (.iload_n 1, 1) := by decide +kernel
theorem dX4_tray_37 : decode cX4_tray 37 = .ok (.iaload, 1) := by decide +kernel
theorem dX4_tray_38 : decode cX4_tray 38 = .ok (.iconst 1, 1) := by decide +kernel
theorem dX4_tray_39 : decode cX4_tray 39 = .ok (.if_icmp .ne 12, 3) := by decide +kernel
theorem dX4_tray_42 : decode cX4_tray 42 = .ok (.aload_n 0, 1) := by decide +kernel
theorem dX4_tray_43 : decode cX4_tray 43 = .ok (.getfield 13, 3) := by decide +kernel
theorem dX4_tray_46 : decode cX4_tray 46 = .ok (.iload_n 1, 1) := by decide +kernel
theorem dX4_tray_47 : decode cX4_tray 47 = .ok (.iaload, 1) := by decide +kernel
theorem dX4_tray_48 : decode cX4_tray 48 = .ok (.goto 8, 3) := by decide +kernel
theorem dX4_tray_51 : decode cX4_tray 51 = .ok (.aload_n 0, 1) := by decide +kernel
theorem dX4_tray_52 : decode cX4_tray 52 = .ok (.iload_n 1, 1) := by decide +kernel
theorem dX4_tray_53 : decode cX4_tray 53 = .ok (.invokevirtual 88, 3) := by decide +kernel
theorem dX4_tray_56 : decode cX4_tray 56 = .ok (.ireturn, 1) := by decide +kernel
set_option maxRecDepth 20000 in
theorem ggX4_what_X4_isTray : GoodIn wsX4_what wsX4_isTray := goodIn_r _ [6, 7, 8, 5, 9] (by decide +kernel) (by decide +kernel)
set_option maxRecDepth 20000 in
theorem gX4_what_X4_isTray : GoodIn wsX4_what (va_wsS RX4 60 yX4_isTray wsX4_isTray) := goodIn_app (goodIn_of _ (by decide +kernel)) ggX4_what_X4_isTray
set_option maxRecDepth 20000 in
theorem ggX4_what_X4_isRow : GoodIn wsX4_what wsX4_isRow := goodIn_r _ [13, 1, 33, 34, 35, 36, 37, 38, 39, 40, 41, 42, 43, 44, 45, 46, 47, 48] (by decide +kernel) (by decide +kernel)
set_option maxRecDepth 20000 in
theorem gX4_what_X4_isRow : GoodIn wsX4_what (wsV RX4 53 RX4 yX4_isRow wsX4_isRow) := goodIn_app (goodIn_of _ (by decide +kernel)) ggX4_what_X4_isRow
set_option maxRecDepth 20000 in
theorem ggX4_what_X4_lacks : GoodIn wsX4_what wsX4_lacks := goodIn_r _ [17, 1, 33, 34, 35, 36, 37, 38, 39, 40, 41, 42, 43, 44, 45, 46, 47, 48] (by decide +kernel) (by decide +kernel)
set_option maxRecDepth 20000 in
theorem gX4_what_X4_lacks : GoodIn wsX4_what (wsV RX4 74 RX4 yX4_lacks wsX4_lacks) := goodIn_app (goodIn_of _ (by decide +kernel)) ggX4_what_X4_lacks
set_option maxRecDepth 20000 in
theorem ggX4_what_X4_sizeOf : GoodIn wsX4_what wsX4_sizeOf := goodIn_r _ [21, 22, 23, 10, 11, 12, 5, 13, 1, 33, 34, 35, 36, 37, 38, 39, 40, 41, 42, 43, 44, 45, 46, 47, 48] (by decide +kernel) (by decide +kernel)
set_option maxRecDepth 20000 in
theorem gX4_what_X4_sizeOf : GoodIn wsX4_what (wsV RX4 88 RX4 yX4_sizeOf wsX4_sizeOf) := goodIn_app (goodIn_of _ (by decide +kernel)) ggX4_what_X4_sizeOf
set_option maxRecDepth 20000 in
theorem ggX4_what_X4_in : GoodIn wsX4_what wsX4_in := goodIn_r _ [9] (by decide +kernel) (by decide +kernel)
set_option maxRecDepth 20000 in
theorem gX4_what_X4_in : GoodIn wsX4_what (va_wsS RX4 49 yX4_in wsX4_in) := goodIn_app (goodIn_of _ (by decide +kernel)) ggX4_what_X4_in
set_option maxRecDepth 20000 in
theorem ggX4_what_X4_isNumbers : GoodIn wsX4_what wsX4_isNumbers := goodIn_r _ [26, 7, 8, 5, 9] (by decide +kernel) (by decide +kernel)
set_option maxRecDepth 20000 in
theorem gX4_what_X4_isNumbers : GoodIn wsX4_what (va_wsS RX4 57 yX4_isNumbers wsX4_isNumbers) := goodIn_app (goodIn_of _ (by decide +kernel)) ggX4_what_X4_isNumbers
set_option maxRecDepth 20000 in
theorem ggX4_what_X4_get : GoodIn wsX4_what wsX4_get := goodIn_r _ [30, 31, 32, 23, 33, 34, 35, 36, 37, 38, 39, 40, 41, 42, 43, 44, 45, 46, 47, 48] (by decide +kernel) (by decide +kernel)
set_option maxRecDepth 20000 in
theorem gX4_what_X4_get : GoodIn wsX4_what (wsV RX4 99 RX4 yX4_get wsX4_get) := goodIn_app (goodIn_of _ (by decide +kernel)) ggX4_what_X4_get
theorem dX4_what_0 : decode cX4_what 0 = .ok (.iload_n 1, 1) := by decide +kernel
theorem dX4_what_1 : decode cX4_what 1 = .ok (.invokestatic 60, 3) := by decide +kernel
theorem dX4_what_4 : decode cX4_what 4 = .ok (.ifCond .ne 6, 3) := by decide +kernel
theorem dX4_what_7 : decode cX4_what 7 = .ok (.bipush (-6), 2) := by decide +kernel
theorem dX4_what_9 : decode cX4_what 9 = .ok (.ireturn, 1) := by decide +kernel
theorem dX4_what_10 : decode cX4_what 10 = .ok (.aload_n 0, 1) := by decide +kernel
theorem dX4_what_11 : decode cX4_what 11 = .ok (.iload_n 1, 1) := by decide +kernel
theorem dX4_what_12 : decode cX4_what 12 = .ok (.invokevirtual 53, 3) := by decide +kernel
theorem dX4_what_15 : decode cX4_what 15 = .ok (.ifCond .ne 9, 3) := by decide +kernel
theorem dX4_what_18 : decode cX4_what 18 = .ok (.aload_n 0, 1) := by decide +kernel
theorem dX4_what_19 : decode cX4_what 19 = .ok (.iload_n 1, 1) := by decide +kernel
theorem dX4_what_20 : decode cX4_what 20 = .ok (.invokevirtual 74, 3) := by decide +kernel
theorem dX4_what_23 : decode cX4_what 23 = .ok (.ireturn, 1) := by decide +kernel
theorem dX4_what_24 : decode cX4_what 24 = .ok (.iload_n 2, 1) := by decide +kernel
theorem dX4_what_25 : decode cX4_what 25 = .ok (.iconst 0, 1) := by decide +kernel
theorem dX4_what_26 : decode cX4_what 26 = .ok (.aload_n 0, 1) := by decide +kernel
theorem dX4_what_27 : decode cX4_what 27 = .ok (.iload_n 1, 1) := by decide +kernel
theorem dX4_what_28 : decode cX4_what 28 = .ok (.invokevirtual 88, 3) := by decide +kernel
theorem dX4_what_31 : decode cX4_what 31 = .ok (.iconst 1, 1) := by decide +kernel
theorem dX4_what_32 : decode cX4_what 32 = .ok (.isub, 1) := by decide +kernel
theorem dX4_what_33 : decode cX4_what 33 = .ok (.invokestatic 49, 3) := by decide +kernel
theorem dX4_what_36 : decode cX4_what 36 = .ok (.ifCond .ne 6, 3) := by decide +kernel
theorem dX4_what_39 : decode cX4_what 39 = .ok (.bipush (-4), 2) := by decide +kernel
theorem dX4_what_41 : decode cX4_what 41 = .ok (.ireturn, 1) := by decide +kernel
theorem dX4_what_42 : decode cX4_what 42 = .ok (.aload_n 0, 1) := by decide +kernel
theorem dX4_what_43 : decode cX4_what 43 = .ok (.getfield 7, 3) := by decide +kernel
theorem dX4_what_46 : decode cX4_what 46 = .ok (.iload_n 1, 1) := by decide +kernel
theorem dX4_what_47 : decode cX4_what 47 = .ok (.iaload, 1) := by decide +kernel
theorem dX4_what_48 : decode cX4_what 48 = .ok (.invokestatic 57, 3) := by decide +kernel
theorem dX4_what_51 : decode cX4_what 51 = .ok (.ifCond .eq 5, 3) := by decide +kernel
theorem dX4_what_54 : decode cX4_what 54 = .ok (.iconst 1, 1) := by decide +kernel
theorem dX4_what_55 : decode cX4_what 55 = .ok (.ireturn, 1) := by decide +kernel
theorem dX4_what_56 : decode cX4_what 56 = .ok (.aload_n 0, 1) := by decide +kernel
theorem dX4_what_57 : decode cX4_what 57 = .ok (.iload_n 1, 1) := by decide +kernel
theorem dX4_what_58 : decode cX4_what 58 = .ok (.iload_n 2, 1) := by decide +kernel
theorem dX4_what_59 : decode cX4_what 59 = .ok (.invokevirtual 99, 3) := by decide +kernel
theorem dX4_what_62 : decode cX4_what 62 = .ok (.lstore_n 3, 1) := by decide +kernel
theorem dX4_what_63 : decode cX4_what 63 = .ok (.lload_n 3, 1) := by decide +kernel
theorem dX4_what_64 : decode cX4_what 64 = .ok (.lconst 0, 1) := by decide +kernel
theorem dX4_what_65 : decode cX4_what 65 = .ok (.lcmp, 1) := by decide +kernel
theorem dX4_what_66 : decode cX4_what 66 = .ok (.ifCond .ne 7, 3) := by decide +kernel
theorem dX4_what_69 : decode cX4_what 69 = .ok (.iconst 0, 1) := by decide +kernel
theorem dX4_what_70 : decode cX4_what 70 = .ok (.goto 23, 3) := by decide +kernel
theorem dX4_what_73 : decode cX4_what 73 = .ok (.lload_n 3, 1) := by decide +kernel
theorem dX4_what_74 : decode cX4_what 74 = .ok (.lconst 0, 1) := by decide +kernel
theorem dX4_what_75 : decode cX4_what 75 = .ok (.lcmp, 1) := by decide +kernel
theorem dX4_what_76 : decode cX4_what 76 = .ok (.ifCond .ge 8, 3) := by decide +kernel
theorem dX4_what_79 : decode cX4_what 79 = .ok (.bipush 6, 2) := by decide +kernel
theorem dX4_what_81 : decode cX4_what 81 = .ok (.goto 12, 3) := by decide +kernel
theorem dX4_what_84 : decode cX4_what 84 = .ok (.iconst 1, 1) := by decide +kernel
theorem dX4_what_85 : decode cX4_what 85 = .ok (.aload_n 0, 1) := by decide +kernel
theorem dX4_what_86 : decode cX4_what 86 = .ok (.getfield 30, 3) := by decide +kernel
theorem dX4_what_89 : decode cX4_what 89 = .ok (.lload_n 3, 1) := by decide +kernel
theorem dX4_what_90 : decode cX4_what 90 = .ok (.l2i, 1) := by decide +kernel
theorem dX4_what_91 : decode cX4_what 91 = .ok (.iaload, 1) := by decide +kernel
theorem dX4_what_92 : decode cX4_what 92 = .ok (.iadd, 1) := by decide +kernel
theorem dX4_what_93 : decode cX4_what 93 = .ok (.ireturn, 1) := by decide +kernel
set_option maxRecDepth 20000 in
theorem ggX4_at_X4_what : GoodIn wsX4_at wsX4_what := goodIn_r _ [7, 8, 9, 10, 11, 6, 12, 13, 14, 15, 16, 17, 18, 19, 20, 21, 22, 23, 24, 25, 26, 27, 1, 28, 29, 30, 31, 32, 33, 34, 35, 36, 37, 38, 39, 40, 41, 42, 43, 44, 45, 46, 47, 48, 49, 50, 51, 52, 53] (by decide +kernel) (by decide +kernel)
set_option maxRecDepth 20000 in
theorem gX4_at_X4_what : GoodIn wsX4_at (wsV RX4 120 RX4 yX4_what wsX4_what) := goodIn_app (goodIn_of _ (by decide +kernel)) ggX4_at_X4_what
set_option maxRecDepth 20000 in
theorem ggX4_at_X4_get : GoodIn wsX4_at wsX4_get := goodIn_r _ [35, 36, 37, 28, 38, 39, 40, 41, 42, 43, 44, 45, 46, 47, 48, 49, 50, 51, 52, 53] (by decide +kernel) (by decide +kernel)
set_option maxRecDepth 20000 in
theorem gX4_at_X4_get : GoodIn wsX4_at (wsV RX4 99 RX4 yX4_get wsX4_get) := goodIn_app (goodIn_of _ (by decide +kernel)) ggX4_at_X4_get
theorem dX4_at_0 : decode cX4_at 0 = .ok (.aload_n 0, 1) := by decide +kernel
theorem dX4_at_1 : decode cX4_at 1 = .ok (.iload_n 1, 1) := by decide +kernel
theorem dX4_at_2 : decode cX4_at 2 = .ok (.iload_n 2, 1) := by decide +kernel
theorem dX4_at_3 : decode cX4_at 3 = .ok (.invokevirtual 120, 3) := by decide +kernel
theorem dX4_at_6 : decode cX4_at 6 = .ok (.istore_n 3, 1) := by decide +kernel
theorem dX4_at_7 : decode cX4_at 7 = .ok (.iload_n 3, 1) := by decide +kernel
theorem dX4_at_8 : decode cX4_at 8 = .ok (.ifCond .gt 5, 3) := by decide +kernel
theorem dX4_at_11 : decode cX4_at 11 = .ok (.lconst 0, 1) := by decide +kernel
theorem dX4_at_12 : decode cX4_at 12 = .ok (.lreturn, 1) := by decide +kernel
theorem dX4_at_13 : decode cX4_at 13 = .ok (.iload_n 3, 1) := by decide +kernel
theorem dX4_at_14 : decode cX4_at 14 = .ok (.bipush 6, 2) := by decide +kernel
theorem dX4_at_16 : decode cX4_at 16 = .ok (.if_icmp .ne 23, 3) := by decide +kernel
theorem dX4_at_19 : decode cX4_at 19 = .ok (.aload_n 0, 1) := by decide +kernel
theorem dX4_at_20 : decode cX4_at 20 = .ok (.getfield 22, 3) := by decide +kernel
theorem dX4_at_23 : decode cX4_at 23 = .ok (.ldc2_w 82, 3) := by decide +kernel
theorem dX4_at_26 : decode cX4_at 26 = .ok (.aload_n 0, 1) := by decide +kernel
theorem dX4_at_27 : decode cX4_at 27 = .ok (.iload_n 1, 1) := by decide +kernel
theorem dX4_at_28 : decode cX4_at 28 = .ok (.iload_n 2, 1) := by decide +kernel
theorem dX4_at_29 : decode cX4_at 29 = .ok (.invokevirtual 99, 3) := by decide +kernel
theorem dX4_at_32 : decode cX4_at 32 = .ok (.lsub, 1) := by decide +kernel
theorem dX4_at_33 : decode cX4_at 33 = .ok (.l2i, 1) := by decide +kernel
theorem dX4_at_34 : decode cX4_at 34 = .ok (.iaload, 1) := by decide +kernel
theorem dX4_at_35 : decode cX4_at 35 = .ok (.i2l, 1) := by decide +kernel
theorem dX4_at_36 : decode cX4_at 36 = .ok (.goto 9, 3) := by decide +kernel
theorem dX4_at_39 : decode cX4_at 39 = .ok (.aload_n 0, 1) := by decide +kernel
theorem dX4_at_40 : decode cX4_at 40 = .ok (.iload_n 1, 1) := by decide +kernel
theorem dX4_at_41 : decode cX4_at 41 = .ok (.iload_n 2, 1) := by decide +kernel
theorem dX4_at_42 : decode cX4_at 42 = .ok (.invokevirtual 99, 3) := by decide +kernel
theorem dX4_at_45 : decode cX4_at 45 = .ok (.lreturn, 1) := by decide +kernel
set_option maxRecDepth 20000 in
theorem ggX4_polished_X4_what : GoodIn wsX4_polished wsX4_what := goodIn_r _ [10, 11, 12, 13, 14, 9, 15, 16, 17, 18, 19, 20, 21, 22, 23, 24, 25, 26, 27, 28, 29, 30, 3, 31, 32, 33, 34, 35, 36, 37, 38, 4, 5, 39, 40, 41, 42, 43, 44, 45, 46, 47, 48, 49, 50, 51, 52, 53, 54] (by decide +kernel) (by decide +kernel)
set_option maxRecDepth 20000 in
theorem gX4_polished_X4_what : GoodIn wsX4_polished (wsV RX4 120 RX4 yX4_what wsX4_what) := goodIn_app (goodIn_of _ (by decide +kernel)) ggX4_polished_X4_what
set_option maxRecDepth 20000 in
theorem ggX4_polished_X4_get : GoodIn wsX4_polished wsX4_get := goodIn_r _ [38, 4, 5, 31, 39, 40, 41, 42, 43, 44, 45, 46, 47, 48, 49, 50, 51, 52, 53, 54] (by decide +kernel) (by decide +kernel)
set_option maxRecDepth 20000 in
theorem gX4_polished_X4_get : GoodIn wsX4_polished (wsV RX4 99 RX4 yX4_get wsX4_get) := goodIn_app (goodIn_of _ (by decide +kernel)) ggX4_polished_X4_get
theorem dX4_polished_0 : decode cX4_polished 0 = .ok (.aload_n 0, 1) := by decide +kernel
theorem dX4_polished_1 : decode cX4_polished 1 = .ok (.iload_n 1, 1) := by decide +kernel
theorem dX4_polished_2 : decode cX4_polished 2 = .ok (.iload_n 2, 1) := by decide +kernel
theorem dX4_polished_3 : decode cX4_polished 3 = .ok (.invokevirtual 120, 3) := by decide +kernel
theorem dX4_polished_6 : decode cX4_polished 6 = .ok (.istore_n 3, 1) := by decide +kernel
theorem dX4_polished_7 : decode cX4_polished 7 = .ok (.iload_n 3, 1) := by decide +kernel
theorem dX4_polished_8 : decode cX4_polished 8 = .ok (.iconst 2, 1) := by decide +kernel
theorem dX4_polished_9 : decode cX4_polished 9 = .ok (.if_icmp .ge 5, 3) := by decide +kernel
theorem dX4_polished_12 : decode cX4_polished 12 = .ok (.iconst 0, 1) := by decide +kernel
theorem dX4_polished_13 : decode cX4_polished 13 = .ok (.ireturn, 1) := by decide +kernel
theorem dX4_polished_14 : decode cX4_polished 14 = .ok (.aload_n 0, 1) := by decide +kernel
theorem dX4_polished_15 : decode cX4_polished 15 = .ok (.iload_n 1, 1) := by decide +kernel
theorem dX4_polished_16 : decode cX4_polished 16 = .ok (.iload_n 2, 1) := by decide +kernel
theorem dX4_polished_17 : decode cX4_polished 17 = .ok (.invokevirtual 99, 3) := by decide +kernel
theorem dX4_polished_20 : decode cX4_polished 20 = .ok (.lstore 4, 2) := by decide +kernel
theorem dX4_polished_22 : decode cX4_polished 22 = .ok (.iload_n 3, 1) := by decide +kernel
theorem dX4_polished_23 : decode cX4_polished 23 = .ok (.bipush 6, 2) := by decide +kernel
theorem dX4_polished_25 : decode cX4_polished 25 = .ok (.if_icmp .ge 12, 3) := by decide +kernel
theorem dX4_polished_28 : decode cX4_polished 28 = .ok (.aload_n 0, 1) := by decide +kernel
theorem dX4_polished_29 : decode cX4_polished 29 = .ok (.getfield 33, 3) := by decide +kernel
theorem dX4_polished_32 : decode cX4_polished 32 = .ok (.lload 4, 2) := by decide +kernel
theorem dX4_polished_34 : decode cX4_polished 34 = .ok (.l2i, 1) := by decide +kernel
theorem dX4_polished_35 : decode cX4_polished 35 = .ok (.iaload, 1) := by decide +kernel
theorem dX4_polished_36 : decode cX4_polished 36 = .ok (.ireturn, 1) := by decide +kernel
theorem dX4_polished_37 : decode cX4_polished 37 = .ok (.ldc2_w 82, 3) := by decide +kernel
theorem dX4_polished_40 : decode cX4_polished 40 = .ok (.lload 4, 2) := by decide +kernel
theorem dX4_polished_42 : decode cX4_polished 42 = .ok (.lsub, 1) := by decide +kernel
theorem dX4_polished_43 : decode cX4_polished 43 = .ok (.l2i, 1) := by decide +kernel
theorem dX4_polished_44 : decode cX4_polished 44 = .ok (.istore 6, 2) := by decide +kernel
theorem dX4_polished_46 : decode cX4_polished 46 = .ok (.iconst 0, 1) := by decide +kernel
theorem dX4_polished_47 : decode cX4_polished 47 = .ok (.istore 7, 2) := by decide +kernel
theorem dX4_polished_49 : decode cX4_polished 49 = .ok (.iconst 0, 1) := by decide +kernel
theorem dX4_polished_50 : decode cX4_polished 50 = .ok (.istore 8, 2) := by decide +kernel
theorem dX4_polished_52 : decode cX4_polished 52 = .ok (.iload 8, 2) := by decide +kernel
theorem dX4_polished_54 : decode cX4_polished 54 = .ok (.aload_n 0, 1) := by decide +kernel
theorem dX4_polished_55 : decode cX4_polished 55 = .ok (.getfield 22, 3) := by decide +kernel
theorem dX4_polished_58 : decode cX4_polished 58 = .ok (.iload 6, 2) := by decide +kernel
theorem dX4_polished_60 : decode cX4_polished 60 = .ok (.iaload, 1) := by decide +kernel
theorem dX4_polished_61 : decode cX4_polished 61 = .ok (.if_icmp .ge 30, 3) := by decide +kernel
theorem dX4_polished_64 : decode cX4_polished 64 = .ok (.iload 7, 2) := by decide +kernel
theorem dX4_polished_66 : decode cX4_polished 66 = .ok (.aload_n 0, 1) := by decide +kernel
theorem dX4_polished_67 : decode cX4_polished 67 = .ok (.getfield 26, 3) := by decide +kernel
theorem dX4_polished_70 : decode cX4_polished 70 = .ok (.aload_n 0, 1) := by decide +kernel
theorem dX4_polished_71 : decode cX4_polished 71 = .ok (.getfield 19, 3) := by decide +kernel
theorem dX4_polished_74 : decode cX4_polished 74 = .ok (.iload 6, 2) := by decide +kernel
theorem dX4_polished_76 : decode cX4_polished 76 = .ok (.iaload, 1) := by decide +kernel
theorem dX4_polished_77 : decode cX4_polished 77 = .ok (.iload 8, 2) := by decide +kernel
theorem dX4_polished_79 : decode cX4_polished 79 = .ok (.iadd, 1) := by decide +kernel
theorem dX4_polished_80 : decode cX4_polished 80 = .ok (.laload, 1) := by decide +kernel
theorem dX4_polished_81 : decode cX4_polished 81 = .ok (.l2i, 1) := by decide +kernel
theorem dX4_polished_82 : decode cX4_polished 82 = .ok (.iadd, 1) := by decide +kernel
theorem dX4_polished_83 : decode cX4_polished 83 = .ok (.istore 7, 2) := by decide +kernel
theorem dX4_polished_85 : decode cX4_polished 85 = .ok (.iinc 8 1, 3) := by decide +kernel
theorem dX4_polished_88 : decode cX4_polished 88 = .ok (.goto (-36), 3) := by decide +kernel
theorem dX4_polished_91 : decode cX4_polished 91 = .ok (.iload 7, 2) := by decide +kernel
theorem dX4_polished_93 : decode cX4_polished 93 = .ok (.ireturn, 1) := by decide +kernel
set_option maxRecDepth 20000 in
theorem ggX4_told_X4_in : GoodIn wsX4_told wsX4_in := goodIn_r _ [7] (by decide +kernel) (by decide +kernel)
set_option maxRecDepth 20000 in
theorem gX4_told_X4_in : GoodIn wsX4_told (va_wsS RX4 49 yX4_in wsX4_in) := goodIn_app (goodIn_of _ (by decide +kernel)) ggX4_told_X4_in
theorem dX4_told_0 : decode cX4_told 0 = .ok (.iload_n 1, 1) := by decide +kernel
theorem dX4_told_1 : decode cX4_told 1 = .ok (.ifCond .ne 10, 3) := by decide +kernel
theorem dX4_told_4 : decode cX4_told 4 = .ok (.aload_n 0, 1) := by decide +kernel
theorem dX4_told_5 : decode cX4_told 5 = .ok (.getfield 102, 3) := by decide +kernel
theorem dX4_told_8 : decode cX4_told 8 = .ok (.goto 37, 3) := by decide +kernel
theorem dX4_told_11 : decode cX4_told 11 = .ok (.iload_n 1, 1) := by decide +kernel
theorem dX4_told_12 : decode cX4_told 12 = .ok (.bipush 7, 2) := by decide +kernel
theorem dX4_told_14 : decode cX4_told 14 = .ok (.if_icmp .ne 10, 3) := by decide +kernel
theorem dX4_told_17 : decode cX4_told 17 = .ok (.aload_n 0, 1) := by decide +kernel
theorem dX4_told_18 : decode cX4_told 18 = .ok (.getfield 71, 3) := by decide +kernel
theorem dX4_told_21 : decode cX4_told 21 = .ok (.goto 24, 3) := by decide +kernel
theorem dX4_told_24 : decode cX4_told 24 = .ok (.iload_n 1, 1) := by decide +kernel
theorem dX4_told_25 : decode cX4_told 25 = .ok (.iconst 1, 1) := by decide +kernel
theorem dX4_told_26 : decode cX4_told 26 = .ok (.bipush 6, 2) := by decide +kernel
theorem dX4_told_28 : decode cX4_told 28 = .ok (.invokestatic 49, 3) := by decide +kernel
theorem dX4_told_31 : decode cX4_told 31 = .ok (.ifCond .eq 12, 3) := by decide +kernel
theorem dX4_told_34 : decode cX4_told 34 = .ok (.aload_n 0, 1) := by decide +kernel
theorem dX4_told_35 : decode cX4_told 35 = .ok (.getfield 46, 3) := by decide +kernel
theorem dX4_told_38 : decode cX4_told 38 = .ok (.iload_n 1, 1) := by decide +kernel
theorem dX4_told_39 : decode cX4_told 39 = .ok (.iaload, 1) := by decide +kernel
theorem dX4_told_40 : decode cX4_told 40 = .ok (.goto 5, 3) := by decide +kernel
theorem dX4_told_43 : decode cX4_told 43 = .ok (.bipush (-6), 2) := by decide +kernel
theorem dX4_told_45 : decode cX4_told 45 = .ok (.ireturn, 1) := by decide +kernel
end
section
set_option maxRecDepth 20000 in
theorem ggL_law_X3_init : GoodIn wsL_law wsX3_init := goodIn_r _ [8, 9, 10, 11, 12, 13, 14, 15, 16, 17, 18, 19, 20, 21, 22, 23, 24, 25, 26, 27, 28, 29, 30, 31, 32, 33, 34, 35, 36, 378, 379, 380, 381, 382, 355, 356, 357, 358, 359, 360, 361] (by decide +kernel) (by decide +kernel)
set_option maxRecDepth 20000 in
theorem gL_law_X3_init : GoodIn wsL_law (wsX3_init) := ggL_law_X3_init
set_option maxRecDepth 20000 in
theorem ggL_law_X4_init : GoodIn wsL_law wsX4_init := goodIn_r _ [39, 40, 10, 11, 19, 41, 42, 43, 44, 45, 46, 29, 47, 48, 49, 50, 51, 52, 53, 362, 363, 364, 365, 366, 367, 368, 369, 370, 371, 372, 373, 374, 375, 376, 377] (by decide +kernel) (by decide +kernel)
set_option maxRecDepth 20000 in
theorem gL_law_X4_init : GoodIn wsL_law (wsX4_init) := ggL_law_X4_init
set_option maxRecDepth 20000 in
theorem ggL_law_X3_lay : GoodIn wsL_law wsX3_lay := goodIn_r _ [57, 16, 12, 13, 14, 58, 59, 2, 60, 23, 24, 25, 26, 27, 28, 29, 30, 31, 32, 33, 34, 35, 36, 10, 11, 355, 356, 357, 358, 359, 360, 361, 378, 379, 380, 381, 382] (by decide +kernel) (by decide +kernel)
set_option maxRecDepth 20000 in
theorem gL_law_X3_lay : GoodIn wsL_law (wsV RL 13 RX3 yX3_lay wsX3_lay) := goodIn_app (goodIn_of _ (by decide +kernel)) ggL_law_X3_lay
set_option maxRecDepth 20000 in
theorem ggL_law_X4_lay : GoodIn wsL_law wsX4_lay := goodIn_r _ [64, 43, 65, 44, 66, 45, 41, 42, 67, 68, 5, 69, 70, 71, 72, 362, 363, 364, 365, 366, 367, 368, 369, 370, 371, 372, 373, 374, 375, 376, 377] (by decide +kernel) (by decide +kernel)
set_option maxRecDepth 20000 in
theorem gL_law_X4_lay : GoodIn wsL_law (wsV RL 17 RX4 yX4_lay wsX4_lay) := goodIn_app (goodIn_of _ (by decide +kernel)) ggL_law_X4_lay
set_option maxRecDepth 20000 in
theorem ggL_law_X3_ticket : GoodIn wsL_law wsX3_ticket := goodIn_r _ [76, 16, 12, 13, 14, 15, 58, 59, 2, 60, 23, 24, 25, 26, 27, 28, 29, 30, 31, 32, 33, 34, 35, 36, 10, 11, 355, 356, 357, 358, 359, 360, 361, 378, 379, 380, 381, 382] (by decide +kernel) (by decide +kernel)
set_option maxRecDepth 20000 in
theorem gL_law_X3_ticket : GoodIn wsL_law (wsV RL 18 RX3 yX3_ticket wsX3_ticket) := goodIn_app (goodIn_of _ (by decide +kernel)) ggL_law_X3_ticket
set_option maxRecDepth 20000 in
theorem ggL_law_X4_ticket : GoodIn wsL_law wsX4_ticket := goodIn_r _ [80, 41, 42, 67, 68, 5, 69, 70, 71, 72, 362, 363, 364, 365, 366, 367, 368, 369, 370, 371, 372, 373, 374, 375, 376, 377] (by decide +kernel) (by decide +kernel)
set_option maxRecDepth 20000 in
theorem gL_law_X4_ticket : GoodIn wsL_law (wsV RL 22 RX4 yX4_ticket wsX4_ticket) := goodIn_app (goodIn_of _ (by decide +kernel)) ggL_law_X4_ticket
set_option maxRecDepth 20000 in
theorem ggL_law_X3_share : GoodIn wsL_law wsX3_share := goodIn_r _ [84, 16, 58, 59, 2, 60, 355, 356, 357, 358, 359, 360, 361, 378, 379, 380, 381, 382] (by decide +kernel) (by decide +kernel)
set_option maxRecDepth 20000 in
theorem gL_law_X3_share : GoodIn wsL_law (wsV RL 23 RX3 yX3_share wsX3_share) := goodIn_app (goodIn_of _ (by decide +kernel)) ggL_law_X3_share
set_option maxRecDepth 20000 in
theorem ggL_law_X4_share : GoodIn wsL_law wsX4_share := goodIn_r _ [88, 41, 42, 67, 68, 5, 69, 70, 71, 72, 362, 363, 364, 365, 366, 367, 368, 369, 370, 371, 372, 373, 374, 375, 376, 377] (by decide +kernel) (by decide +kernel)
set_option maxRecDepth 20000 in
theorem gL_law_X4_share : GoodIn wsL_law (wsV RL 27 RX4 yX4_share wsX4_share) := goodIn_app (goodIn_of _ (by decide +kernel)) ggL_law_X4_share
set_option maxRecDepth 20000 in
theorem ggL_law_X3_put : GoodIn wsL_law wsX3_put := goodIn_r _ [92, 16, 58, 59, 2, 60, 93, 94, 95, 14, 96, 26, 97, 98, 99, 100, 101, 102, 103, 104, 105, 106, 107, 108, 22, 109, 110, 111, 112, 113, 114, 115, 116, 117, 33, 34, 35, 36, 10, 11, 118, 119, 120, 121, 27, 122, 123, 124, 125, 126, 127, 128, 129, 130, 131, 132, 133, 134, 135, 136, 137, 138, 139, 140, 355, 356, 357, 358, 359, 360, 361, 378, 379, 380, 381, 382, 383, 384, 385] (by decide +kernel) (by decide +kernel)
set_option maxRecDepth 20000 in
theorem gL_law_X3_put : GoodIn wsL_law (wsV RL 28 RX3 yX3_put wsX3_put) := goodIn_app (goodIn_of _ (by decide +kernel)) ggL_law_X3_put
set_option maxRecDepth 20000 in
theorem ggL_law_X4_put : GoodIn wsL_law wsX4_put := goodIn_r _ [144, 41, 145, 42, 67, 68, 5, 69, 70, 71, 72, 146, 147, 148, 149, 150, 151, 152, 153, 154, 155, 156, 157, 158, 159, 160, 161, 162, 163, 164, 165, 166, 48, 167, 168, 169, 170, 45, 171, 172, 173, 174, 175, 176, 177, 178, 47, 44, 362, 363, 364, 365, 366, 367, 368, 369, 370, 371, 372, 373, 374, 375, 376, 377] (by decide +kernel) (by decide +kernel)
set_option maxRecDepth 20000 in
theorem gL_law_X4_put : GoodIn wsL_law (wsV RL 31 RX4 yX4_put wsX4_put) := goodIn_app (goodIn_of _ (by decide +kernel)) ggL_law_X4_put
set_option maxRecDepth 20000 in
theorem ggL_law_X3_move : GoodIn wsL_law wsX3_move := goodIn_r _ [182, 16, 58, 59, 2, 60, 183, 184, 185, 186, 18, 17, 93, 94, 95, 14, 96, 26, 187, 188, 189, 190, 30, 32, 191, 192, 193, 194, 21, 195, 196, 197, 134, 135, 136, 137, 198, 199, 200, 201, 27, 122, 123, 124, 125, 126, 127, 128, 129, 130, 131, 132, 111, 133, 115, 202, 203, 204, 205, 20, 355, 356, 357, 358, 359, 360, 361, 378, 379, 380, 381, 382, 383, 384, 385] (by decide +kernel) (by decide +kernel)
set_option maxRecDepth 20000 in
theorem gL_law_X3_move : GoodIn wsL_law (wsV RL 32 RX3 yX3_move wsX3_move) := goodIn_app (goodIn_of _ (by decide +kernel)) ggL_law_X3_move
set_option maxRecDepth 20000 in
theorem ggL_law_X4_move : GoodIn wsL_law wsX4_move := goodIn_r _ [209, 67, 68, 5, 69, 70, 71, 72, 210, 211, 212, 213, 42, 52, 51, 146, 147, 148, 149, 41, 167, 168, 169, 170, 45, 214, 215, 216, 217, 47, 44, 218, 219, 220, 221, 222, 50, 223, 224, 225, 226, 154, 155, 156, 171, 172, 173, 174, 48, 175, 176, 177, 178, 227, 228, 229, 230, 53, 362, 363, 364, 365, 366, 367, 368, 369, 370, 371, 372, 373, 374, 375, 376, 377] (by decide +kernel) (by decide +kernel)
set_option maxRecDepth 20000 in
theorem gL_law_X4_move : GoodIn wsL_law (wsV RL 36 RX4 yX4_move wsX4_move) := goodIn_app (goodIn_of _ (by decide +kernel)) ggL_law_X4_move
set_option maxRecDepth 20000 in
theorem ggL_law_X3_open : GoodIn wsL_law wsX3_open := goodIn_r _ [234, 16, 58, 59, 2, 60, 235, 180, 181, 182, 183, 184, 185, 186, 18, 17, 93, 94, 95, 14, 96, 26, 187, 188, 189, 190, 30, 32, 191, 192, 193, 194, 21, 195, 196, 197, 134, 135, 136, 137, 198, 199, 200, 201, 27, 122, 123, 124, 125, 126, 127, 128, 129, 130, 131, 132, 111, 133, 115, 202, 203, 204, 205, 20, 355, 356, 357, 358, 359, 360, 361, 378, 379, 380, 381, 382, 383, 384, 385] (by decide +kernel) (by decide +kernel)
set_option maxRecDepth 20000 in
theorem gL_law_X3_open : GoodIn wsL_law (wsV RL 37 RX3 yX3_open wsX3_open) := goodIn_app (goodIn_of _ (by decide +kernel)) ggL_law_X3_open
set_option maxRecDepth 20000 in
theorem ggL_law_X4_open : GoodIn wsL_law wsX4_open := goodIn_r _ [239, 67, 68, 5, 69, 70, 71, 72, 210, 211, 212, 213, 42, 52, 51, 146, 147, 148, 149, 41, 167, 168, 169, 170, 45, 214, 215, 216, 217, 47, 44, 218, 219, 220, 221, 222, 50, 223, 224, 225, 226, 154, 155, 156, 171, 172, 173, 174, 48, 175, 176, 177, 178, 227, 228, 229, 230, 53, 362, 363, 364, 365, 366, 367, 368, 369, 370, 371, 372, 373, 374, 375, 376, 377] (by decide +kernel) (by decide +kernel)
set_option maxRecDepth 20000 in
theorem gL_law_X4_open : GoodIn wsL_law (wsV RL 40 RX4 yX4_open wsX4_open) := goodIn_app (goodIn_of _ (by decide +kernel)) ggL_law_X4_open
set_option maxRecDepth 20000 in
theorem ggL_law_X3_close : GoodIn wsL_law wsX3_close := goodIn_r _ [243, 16, 58, 59, 2, 60, 235, 180, 181, 182, 183, 184, 185, 186, 18, 17, 93, 94, 95, 14, 96, 26, 187, 188, 189, 190, 30, 32, 191, 192, 193, 194, 21, 195, 196, 197, 134, 135, 136, 137, 198, 199, 200, 201, 27, 122, 123, 124, 125, 126, 127, 128, 129, 130, 131, 132, 111, 133, 115, 202, 203, 204, 205, 20, 355, 356, 357, 358, 359, 360, 361, 378, 379, 380, 381, 382, 383, 384, 385] (by decide +kernel) (by decide +kernel)
set_option maxRecDepth 20000 in
theorem gL_law_X3_close : GoodIn wsL_law (wsV RL 41 RX3 yX3_close wsX3_close) := goodIn_app (goodIn_of _ (by decide +kernel)) ggL_law_X3_close
set_option maxRecDepth 20000 in
theorem ggL_law_X4_close : GoodIn wsL_law wsX4_close := goodIn_r _ [247, 67, 68, 5, 69, 70, 71, 72, 210, 211, 212, 213, 42, 52, 51, 146, 147, 148, 149, 41, 167, 168, 169, 170, 45, 214, 215, 216, 217, 47, 44, 218, 219, 220, 221, 222, 50, 223, 224, 225, 226, 154, 155, 156, 171, 172, 173, 174, 48, 175, 176, 177, 178, 227, 228, 229, 230, 53, 362, 363, 364, 365, 366, 367, 368, 369, 370, 371, 372, 373, 374, 375, 376, 377] (by decide +kernel) (by decide +kernel)
set_option maxRecDepth 20000 in
theorem gL_law_X4_close : GoodIn wsL_law (wsV RL 44 RX4 yX4_close wsX4_close) := goodIn_app (goodIn_of _ (by decide +kernel)) ggL_law_X4_close
set_option maxRecDepth 20000 in
theorem ggL_law_X3_turn : GoodIn wsL_law wsX3_turn := goodIn_r _ [251, 16, 17, 58, 59, 2, 60, 183, 184, 185, 186, 18, 93, 94, 95, 14, 96, 26, 187, 188, 189, 190, 30, 32, 202, 203, 204, 205, 20, 101, 102, 103, 104, 355, 356, 357, 358, 359, 360, 361, 378, 379, 380, 381, 382] (by decide +kernel) (by decide +kernel)
set_option maxRecDepth 20000 in
theorem gL_law_X3_turn : GoodIn wsL_law (wsV RL 45 RX3 yX3_turn wsX3_turn) := goodIn_app (goodIn_of _ (by decide +kernel)) ggL_law_X3_turn
set_option maxRecDepth 20000 in
theorem ggL_law_X4_turn : GoodIn wsL_law wsX4_turn := goodIn_r _ [255, 51, 67, 68, 5, 69, 70, 71, 72, 210, 211, 212, 213, 42, 52, 146, 147, 148, 149, 41, 167, 168, 169, 170, 45, 214, 215, 216, 217, 47, 44, 150, 151, 152, 153, 227, 228, 229, 230, 53, 175, 176, 177, 178, 362, 363, 364, 365, 366, 367, 368, 369, 370, 371, 372, 373, 374, 375, 376, 377] (by decide +kernel) (by decide +kernel)
set_option maxRecDepth 20000 in
theorem gL_law_X4_turn : GoodIn wsL_law (wsV RL 48 RX4 yX4_turn wsX4_turn) := goodIn_app (goodIn_of _ (by decide +kernel)) ggL_law_X4_turn
set_option maxRecDepth 20000 in
theorem ggL_law_X3_spread : GoodIn wsL_law wsX3_spread := goodIn_r _ [259, 16, 17, 58, 59, 2, 60, 183, 184, 185, 186, 18, 93, 94, 95, 14, 96, 26, 187, 188, 189, 190, 30, 32, 202, 203, 204, 205, 20, 355, 356, 357, 358, 359, 360, 361, 378, 379, 380, 381, 382] (by decide +kernel) (by decide +kernel)
set_option maxRecDepth 20000 in
theorem gL_law_X3_spread : GoodIn wsL_law (wsV RL 49 RX3 yX3_spread wsX3_spread) := goodIn_app (goodIn_of _ (by decide +kernel)) ggL_law_X3_spread
set_option maxRecDepth 20000 in
theorem ggL_law_X4_spread : GoodIn wsL_law wsX4_spread := goodIn_r _ [263, 51, 67, 68, 5, 69, 70, 71, 72, 210, 211, 212, 213, 42, 52, 146, 147, 148, 149, 41, 167, 168, 169, 170, 45, 214, 215, 216, 217, 47, 44, 150, 151, 152, 153, 227, 228, 229, 230, 53, 175, 176, 177, 178, 362, 363, 364, 365, 366, 367, 368, 369, 370, 371, 372, 373, 374, 375, 376, 377] (by decide +kernel) (by decide +kernel)
set_option maxRecDepth 20000 in
theorem gL_law_X4_spread : GoodIn wsL_law (wsV RL 52 RX4 yX4_spread wsX4_spread) := goodIn_app (goodIn_of _ (by decide +kernel)) ggL_law_X4_spread
set_option maxRecDepth 20000 in
theorem ggL_law_X3_undo : GoodIn wsL_law wsX3_undo := goodIn_r _ [267, 18, 17, 187, 188, 189, 14, 190, 30, 32, 355, 356, 357, 358, 359, 360, 361, 378, 379, 380, 381, 382] (by decide +kernel) (by decide +kernel)
set_option maxRecDepth 20000 in
theorem gL_law_X3_undo : GoodIn wsL_law (wsV RL 53 RX3 yX3_undo wsX3_undo) := goodIn_app (goodIn_of _ (by decide +kernel)) ggL_law_X3_undo
set_option maxRecDepth 20000 in
theorem ggL_law_X4_undo : GoodIn wsL_law wsX4_undo := goodIn_r _ [271, 52, 45, 47, 44, 51, 362, 363, 364, 365, 366, 367, 368, 369, 370, 371, 372, 373, 374, 375, 376, 377] (by decide +kernel) (by decide +kernel)
set_option maxRecDepth 20000 in
theorem gL_law_X4_undo : GoodIn wsL_law (wsV RL 57 RX4 yX4_undo wsX4_undo) := goodIn_app (goodIn_of _ (by decide +kernel)) ggL_law_X4_undo
set_option maxRecDepth 20000 in
theorem ggL_law_X3_match : GoodIn wsL_law wsX3_match := goodIn_r _ [275, 16, 276, 277, 278, 279, 58, 59, 2, 60, 195, 196, 197, 134, 135, 136, 14, 137, 26, 280, 281, 282, 283, 30, 32, 355, 356, 357, 358, 359, 360, 361, 378, 379, 380, 381, 382] (by decide +kernel) (by decide +kernel)
set_option maxRecDepth 20000 in
theorem gL_law_X3_match : GoodIn wsL_law (wsV RL 58 RX3 yX3_match wsX3_match) := goodIn_app (goodIn_of _ (by decide +kernel)) ggL_law_X3_match
set_option maxRecDepth 20000 in
theorem ggL_law_X4_match : GoodIn wsL_law wsX4_match := goodIn_r _ [287, 67, 68, 5, 69, 70, 71, 72, 223, 224, 225, 226, 41, 154, 155, 156, 167, 168, 169, 170, 45, 42, 146, 147, 148, 149, 214, 215, 216, 217, 47, 44, 362, 363, 364, 365, 366, 367, 368, 369, 370, 371, 372, 373, 374, 375, 376, 377] (by decide +kernel) (by decide +kernel)
set_option maxRecDepth 20000 in
theorem gL_law_X4_match : GoodIn wsL_law (wsV RL 61 RX4 yX4_match wsX4_match) := goodIn_app (goodIn_of _ (by decide +kernel)) ggL_law_X4_match
set_option maxRecDepth 20000 in
theorem ggL_law_X3_polish : GoodIn wsL_law wsX3_polish := goodIn_r _ [291, 16, 292, 58, 59, 2, 60, 93, 94, 95, 14, 96, 26, 134, 135, 136, 137, 118, 119, 120, 121, 27, 355, 356, 357, 358, 359, 360, 361, 378, 379, 380, 381, 382, 383, 384, 385] (by decide +kernel) (by decide +kernel)
set_option maxRecDepth 20000 in
theorem gL_law_X3_polish : GoodIn wsL_law (wsV RL 62 RX3 yX3_polish wsX3_polish) := goodIn_app (goodIn_of _ (by decide +kernel)) ggL_law_X3_polish
set_option maxRecDepth 20000 in
theorem ggL_law_X4_polish : GoodIn wsL_law wsX4_polish := goodIn_r _ [296, 41, 49, 67, 68, 5, 69, 70, 71, 72, 146, 147, 148, 149, 150, 151, 152, 153, 167, 168, 169, 170, 45, 42, 214, 215, 216, 217, 47, 44, 362, 363, 364, 365, 366, 367, 368, 369, 370, 371, 372, 373, 374, 375, 376, 377] (by decide +kernel) (by decide +kernel)
set_option maxRecDepth 20000 in
theorem gL_law_X4_polish : GoodIn wsL_law (wsV RL 65 RX4 yX4_polish wsX4_polish) := goodIn_app (goodIn_of _ (by decide +kernel)) ggL_law_X4_polish
set_option maxRecDepth 20000 in
theorem ggL_law_X3_tray : GoodIn wsL_law wsX3_tray := goodIn_r _ [300, 16, 58, 59, 2, 60, 355, 356, 357, 358, 359, 360, 361, 378, 379, 380, 381, 382] (by decide +kernel) (by decide +kernel)
set_option maxRecDepth 20000 in
theorem gL_law_X3_tray : GoodIn wsL_law (wsV RL 66 RX3 yX3_tray wsX3_tray) := goodIn_app (goodIn_of _ (by decide +kernel)) ggL_law_X3_tray
set_option maxRecDepth 20000 in
theorem ggL_law_X4_tray : GoodIn wsL_law wsX4_tray := goodIn_r _ [304, 41, 42, 67, 68, 5, 69, 70, 71, 72, 167, 168, 169, 170, 45, 146, 147, 148, 149, 362, 363, 364, 365, 366, 367, 368, 369, 370, 371, 372, 373, 374, 375, 376, 377] (by decide +kernel) (by decide +kernel)
set_option maxRecDepth 20000 in
theorem gL_law_X4_tray : GoodIn wsL_law (wsV RL 69 RX4 yX4_tray wsX4_tray) := goodIn_app (goodIn_of _ (by decide +kernel)) ggL_law_X4_tray
set_option maxRecDepth 20000 in
theorem ggL_law_X3_what : GoodIn wsL_law wsX3_what := goodIn_r _ [308, 16, 58, 59, 2, 60, 93, 94, 95, 14, 96, 26, 118, 119, 120, 121, 27, 134, 135, 136, 137, 309, 127, 128, 129, 130, 131, 132, 111, 133, 115, 355, 356, 357, 358, 359, 360, 361, 378, 379, 380, 381, 382, 383, 384, 385] (by decide +kernel) (by decide +kernel)
set_option maxRecDepth 20000 in
theorem gL_law_X3_what : GoodIn wsL_law (wsV RL 70 RX3 yX3_what wsX3_what) := goodIn_app (goodIn_of _ (by decide +kernel)) ggL_law_X3_what
set_option maxRecDepth 20000 in
theorem ggL_law_X4_what : GoodIn wsL_law wsX4_what := goodIn_r _ [313, 41, 48, 67, 68, 5, 69, 70, 71, 72, 146, 147, 148, 149, 150, 151, 152, 153, 167, 168, 169, 170, 45, 42, 154, 155, 156, 214, 215, 216, 217, 47, 44, 362, 363, 364, 365, 366, 367, 368, 369, 370, 371, 372, 373, 374, 375, 376, 377] (by decide +kernel) (by decide +kernel)
set_option maxRecDepth 20000 in
theorem gL_law_X4_what : GoodIn wsL_law (wsV RL 73 RX4 yX4_what wsX4_what) := goodIn_app (goodIn_of _ (by decide +kernel)) ggL_law_X4_what
set_option maxRecDepth 20000 in
theorem ggL_law_X3_at : GoodIn wsL_law wsX3_at := goodIn_r _ [317, 16, 58, 59, 2, 60, 118, 119, 120, 14, 121, 27, 318, 319, 320, 321, 322, 323, 324, 111, 325, 116, 355, 356, 357, 358, 359, 360, 361, 378, 379, 380, 381, 382, 383, 384, 385] (by decide +kernel) (by decide +kernel)
set_option maxRecDepth 20000 in
theorem gL_law_X3_at : GoodIn wsL_law (wsV RL 74 RX3 yX3_at wsX3_at) := goodIn_app (goodIn_of _ (by decide +kernel)) ggL_law_X3_at
set_option maxRecDepth 20000 in
theorem ggL_law_X4_at : GoodIn wsL_law wsX4_at := goodIn_r _ [329, 45, 145, 330, 311, 312, 5, 313, 41, 48, 67, 68, 69, 70, 71, 72, 146, 147, 148, 149, 150, 151, 152, 153, 167, 168, 169, 170, 42, 154, 155, 156, 214, 215, 216, 217, 47, 44, 362, 363, 364, 365, 366, 367, 368, 369, 370, 371, 372, 373, 374, 375, 376, 377] (by decide +kernel) (by decide +kernel)
set_option maxRecDepth 20000 in
theorem gL_law_X4_at : GoodIn wsL_law (wsV RL 78 RX4 yX4_at wsX4_at) := goodIn_app (goodIn_of _ (by decide +kernel)) ggL_law_X4_at
set_option maxRecDepth 20000 in
theorem ggL_law_X3_polished : GoodIn wsL_law wsX3_polished := goodIn_r _ [334, 16, 58, 59, 2, 60, 118, 119, 120, 14, 121, 27, 335, 336, 337, 338, 339, 30, 340, 341, 111, 342, 117, 355, 356, 357, 358, 359, 360, 361, 378, 379, 380, 381, 382, 383, 384, 385] (by decide +kernel) (by decide +kernel)
set_option maxRecDepth 20000 in
theorem gL_law_X3_polished : GoodIn wsL_law (wsV RL 79 RX3 yX3_polished wsX3_polished) := goodIn_app (goodIn_of _ (by decide +kernel)) ggL_law_X3_polished
set_option maxRecDepth 20000 in
theorem ggL_law_X4_polished : GoodIn wsL_law wsX4_polished := goodIn_r _ [346, 49, 145, 45, 47, 44, 330, 311, 312, 5, 313, 41, 48, 67, 68, 69, 70, 71, 72, 146, 147, 148, 149, 150, 151, 152, 153, 167, 168, 169, 170, 42, 154, 155, 156, 214, 215, 216, 217, 362, 363, 364, 365, 366, 367, 368, 369, 370, 371, 372, 373, 374, 375, 376, 377] (by decide +kernel) (by decide +kernel)
set_option maxRecDepth 20000 in
theorem gL_law_X4_polished : GoodIn wsL_law (wsV RL 82 RX4 yX4_polished wsX4_polished) := goodIn_app (goodIn_of _ (by decide +kernel)) ggL_law_X4_polished
set_option maxRecDepth 20000 in
theorem ggL_law_X3_told : GoodIn wsL_law wsX3_told := goodIn_r _ [350, 21, 20, 22, 355, 356, 357, 358, 359, 360, 361] (by decide +kernel) (by decide +kernel)
set_option maxRecDepth 20000 in
theorem gL_law_X3_told : GoodIn wsL_law (wsV RL 83 RX3 yX3_told wsX3_told) := goodIn_app (goodIn_of _ (by decide +kernel)) ggL_law_X3_told
set_option maxRecDepth 20000 in
theorem ggL_law_X4_told : GoodIn wsL_law wsX4_told := goodIn_r _ [354, 222, 166, 53, 70, 71, 5, 72, 362, 363, 364, 365, 366, 367, 368, 369, 370, 371, 372, 373, 374, 375, 376, 377] (by decide +kernel) (by decide +kernel)
set_option maxRecDepth 20000 in
theorem gL_law_X4_told : GoodIn wsL_law (wsV RL 87 RX4 yX4_told wsX4_told) := goodIn_app (goodIn_of _ (by decide +kernel)) ggL_law_X4_told
theorem dL_law_0 : decode cL_law 0 = .ok (.new 7, 3) := by decide +kernel
theorem dL_law_3 : decode cL_law 3 = .ok (.dup, 1) := by decide +kernel
theorem dL_law_4 : decode cL_law 4 = .ok (.invokespecial 9, 3) := by decide +kernel
theorem dL_law_7 : decode cL_law 7 = .ok (.astore_n 1, 1) := by decide +kernel
theorem dL_law_8 : decode cL_law 8 = .ok (.new 10, 3) := by decide +kernel
theorem dL_law_11 : decode cL_law 11 = .ok (.dup, 1) := by decide +kernel
theorem dL_law_12 : decode cL_law 12 = .ok (.invokespecial 12, 3) := by decide +kernel
theorem dL_law_15 : decode cL_law 15 = .ok (.astore_n 2, 1) := by decide +kernel
theorem dL_law_16 : decode cL_law 16 = .ok (.iconst 0, 1) := by decide +kernel
theorem dL_law_17 : decode cL_law 17 = .ok (.istore_n 3, 1) := by decide +kernel
theorem dL_law_18 : decode cL_law 18 = .ok (.iload_n 3, 1) := by decide +kernel
theorem dL_law_19 : decode cL_law 19 = .ok (.aload_n 0, 1) := by decide +kernel
theorem dL_law_20 : decode cL_law 20 = .ok (.arraylength, 1) := by decide +kernel
theorem dL_law_21 : decode cL_law 21 = .ok (.bipush 6, 2) := by decide +kernel
theorem dL_law_23 : decode cL_law 23 = .ok (.isub, 1) := by decide +kernel
theorem dL_law_24 : decode cL_law 24 = .ok (.if_icmp .gt 750, 3) := by decide +kernel
theorem dL_law_27 : decode cL_law 27 = .ok (.aload_n 0, 1) := by decide +kernel
theorem dL_law_28 : decode cL_law 28 = .ok (.iload_n 3, 1) := by decide +kernel
theorem dL_law_29 : decode cL_law 29 = .ok (.iaload, 1) := by decide +kernel
theorem dL_law_30 : decode cL_law 30 = .ok (.bipush 31, 2) := by decide +kernel
theorem dL_law_32 : decode cL_law 32 = .ok (.iand, 1) := by decide +kernel
theorem dL_law_33 : decode cL_law 33 = .ok (.tableswitch 735 0 16 #[83, 126, 169, 202, 245, 308, 351, 394, 427, 460, 473, 536, 579, 612, 645, 679, 712], 83) := by decide +kernel
theorem dL_law_116 : decode cL_law 116 = .ok (.aload_n 1, 1) := by decide +kernel
theorem dL_law_117 : decode cL_law 117 = .ok (.aload_n 0, 1) := by decide +kernel
theorem dL_law_118 : decode cL_law 118 = .ok (.iload_n 3, 1) := by decide +kernel
theorem dL_law_119 : decode cL_law 119 = .ok (.iconst 1, 1) := by decide +kernel
theorem dL_law_120 : decode cL_law 120 = .ok (.iadd, 1) := by decide +kernel
theorem dL_law_121 : decode cL_law 121 = .ok (.iaload, 1) := by decide +kernel
theorem dL_law_122 : decode cL_law 122 = .ok (.aload_n 0, 1) := by decide +kernel
theorem dL_law_123 : decode cL_law 123 = .ok (.iload_n 3, 1) := by decide +kernel
theorem dL_law_124 : decode cL_law 124 = .ok (.iconst 2, 1) := by decide +kernel
theorem dL_law_125 : decode cL_law 125 = .ok (.iadd, 1) := by decide +kernel
theorem dL_law_126 : decode cL_law 126 = .ok (.iaload, 1) := by decide +kernel
theorem dL_law_127 : decode cL_law 127 = .ok (.aload_n 0, 1) := by decide +kernel
theorem dL_law_128 : decode cL_law 128 = .ok (.iload_n 3, 1) := by decide +kernel
theorem dL_law_129 : decode cL_law 129 = .ok (.iconst 3, 1) := by decide +kernel
theorem dL_law_130 : decode cL_law 130 = .ok (.iadd, 1) := by decide +kernel
theorem dL_law_131 : decode cL_law 131 = .ok (.iaload, 1) := by decide +kernel
theorem dL_law_132 : decode cL_law 132 = .ok (.invokevirtual 13, 3) := by decide +kernel
theorem dL_law_135 : decode cL_law 135 = .ok (.aload_n 2, 1) := by decide +kernel
theorem dL_law_136 : decode cL_law 136 = .ok (.aload_n 0, 1) := by decide +kernel
theorem dL_law_137 : decode cL_law 137 = .ok (.iload_n 3, 1) := by decide +kernel
theorem dL_law_138 : decode cL_law 138 = .ok (.iconst 1, 1) := by decide +kernel
theorem dL_law_139 : decode cL_law 139 = .ok (.iadd, 1) := by decide +kernel
theorem dL_law_140 : decode cL_law 140 = .ok (.iaload, 1) := by decide +kernel
theorem dL_law_141 : decode cL_law 141 = .ok (.aload_n 0, 1) := by decide +kernel
theorem dL_law_142 : decode cL_law 142 = .ok (.iload_n 3, 1) := by decide +kernel
theorem dL_law_143 : decode cL_law 143 = .ok (.iconst 2, 1) := by decide +kernel
theorem dL_law_144 : decode cL_law 144 = .ok (.iadd, 1) := by decide +kernel
theorem dL_law_145 : decode cL_law 145 = .ok (.iaload, 1) := by decide +kernel
theorem dL_law_146 : decode cL_law 146 = .ok (.aload_n 0, 1) := by decide +kernel
theorem dL_law_147 : decode cL_law 147 = .ok (.iload_n 3, 1) := by decide +kernel
theorem dL_law_148 : decode cL_law 148 = .ok (.iconst 3, 1) := by decide +kernel
theorem dL_law_149 : decode cL_law 149 = .ok (.iadd, 1) := by decide +kernel
theorem dL_law_150 : decode cL_law 150 = .ok (.iaload, 1) := by decide +kernel
theorem dL_law_151 : decode cL_law 151 = .ok (.invokevirtual 17, 3) := by decide +kernel
theorem dL_law_154 : decode cL_law 154 = .ok (.if_icmp .eq 614, 3) := by decide +kernel
theorem dL_law_157 : decode cL_law 157 = .ok (.iconst 0, 1) := by decide +kernel
theorem dL_law_158 : decode cL_law 158 = .ok (.ireturn, 1) := by decide +kernel
theorem dL_law_159 : decode cL_law 159 = .ok (.aload_n 1, 1) := by decide +kernel
theorem dL_law_160 : decode cL_law 160 = .ok (.aload_n 0, 1) := by decide +kernel
theorem dL_law_161 : decode cL_law 161 = .ok (.iload_n 3, 1) := by decide +kernel
theorem dL_law_162 : decode cL_law 162 = .ok (.iconst 1, 1) := by decide +kernel
theorem dL_law_163 : decode cL_law 163 = .ok (.iadd, 1) := by decide +kernel
theorem dL_law_164 : decode cL_law 164 = .ok (.iaload, 1) := by decide +kernel
theorem dL_law_165 : decode cL_law 165 = .ok (.aload_n 0, 1) := by decide +kernel
theorem dL_law_166 : decode cL_law 166 = .ok (.iload_n 3, 1) := by decide +kernel
theorem dL_law_167 : decode cL_law 167 = .ok (.iconst 2, 1) := by decide +kernel
theorem dL_law_168 : decode cL_law 168 = .ok (.iadd, 1) := by decide +kernel
theorem dL_law_169 : decode cL_law 169 = .ok (.iaload, 1) := by decide +kernel
theorem dL_law_170 : decode cL_law 170 = .ok (.aload_n 0, 1) := by decide +kernel
theorem dL_law_171 : decode cL_law 171 = .ok (.iload_n 3, 1) := by decide +kernel
theorem dL_law_172 : decode cL_law 172 = .ok (.iconst 3, 1) := by decide +kernel
theorem dL_law_173 : decode cL_law 173 = .ok (.iadd, 1) := by decide +kernel
theorem dL_law_174 : decode cL_law 174 = .ok (.iaload, 1) := by decide +kernel
theorem dL_law_175 : decode cL_law 175 = .ok (.invokevirtual 18, 3) := by decide +kernel
theorem dL_law_178 : decode cL_law 178 = .ok (.aload_n 2, 1) := by decide +kernel
theorem dL_law_179 : decode cL_law 179 = .ok (.aload_n 0, 1) := by decide +kernel
theorem dL_law_180 : decode cL_law 180 = .ok (.iload_n 3, 1) := by decide +kernel
theorem dL_law_181 : decode cL_law 181 = .ok (.iconst 1, 1) := by decide +kernel
theorem dL_law_182 : decode cL_law 182 = .ok (.iadd, 1) := by decide +kernel
theorem dL_law_183 : decode cL_law 183 = .ok (.iaload, 1) := by decide +kernel
theorem dL_law_184 : decode cL_law 184 = .ok (.aload_n 0, 1) := by decide +kernel
theorem dL_law_185 : decode cL_law 185 = .ok (.iload_n 3, 1) := by decide +kernel
theorem dL_law_186 : decode cL_law 186 = .ok (.iconst 2, 1) := by decide +kernel
theorem dL_law_187 : decode cL_law 187 = .ok (.iadd, 1) := by decide +kernel
theorem dL_law_188 : decode cL_law 188 = .ok (.iaload, 1) := by decide +kernel
theorem dL_law_189 : decode cL_law 189 = .ok (.aload_n 0, 1) := by decide +kernel
theorem dL_law_190 : decode cL_law 190 = .ok (.iload_n 3, 1) := by decide +kernel
theorem dL_law_191 : decode cL_law 191 = .ok (.iconst 3, 1) := by decide +kernel
theorem dL_law_192 : decode cL_law 192 = .ok (.iadd, 1) := by decide +kernel
theorem dL_law_193 : decode cL_law 193 = .ok (.iaload, 1) := by decide +kernel
theorem dL_law_194 : decode cL_law 194 = .ok (.invokevirtual 22, 3) := by decide +kernel
theorem dL_law_197 : decode cL_law 197 = .ok (.if_icmp .eq 571, 3) := by decide +kernel
theorem dL_law_200 : decode cL_law 200 = .ok (.iconst 0, 1) := by decide +kernel
theorem dL_law_201 : decode cL_law 201 = .ok (.ireturn, 1) := by decide +kernel
theorem dL_law_202 : decode cL_law 202 = .ok (.aload_n 1, 1) := by decide +kernel
theorem dL_law_203 : decode cL_law 203 = .ok (.aload_n 0, 1) := by decide +kernel
theorem dL_law_204 : decode cL_law 204 = .ok (.iload_n 3, 1) := by decide +kernel
theorem dL_law_205 : decode cL_law 205 = .ok (.iconst 1, 1) := by decide +kernel
theorem dL_law_206 : decode cL_law 206 = .ok (.iadd, 1) := by decide +kernel
theorem dL_law_207 : decode cL_law 207 = .ok (.iaload, 1) := by decide +kernel
theorem dL_law_208 : decode cL_law 208 = .ok (.aload_n 0, 1) := by decide +kernel
theorem dL_law_209 : decode cL_law 209 = .ok (.iload_n 3, 1) := by decide +kernel
theorem dL_law_210 : decode cL_law 210 = .ok (.iconst 2, 1) := by decide +kernel
theorem dL_law_211 : decode cL_law 211 = .ok (.iadd, 1) := by decide +kernel
theorem dL_law_212 : decode cL_law 212 = .ok (.iaload, 1) := by decide +kernel
theorem dL_law_213 : decode cL_law 213 = .ok (.invokevirtual 23, 3) := by decide +kernel
theorem dL_law_216 : decode cL_law 216 = .ok (.aload_n 2, 1) := by decide +kernel
theorem dL_law_217 : decode cL_law 217 = .ok (.aload_n 0, 1) := by decide +kernel
theorem dL_law_218 : decode cL_law 218 = .ok (.iload_n 3, 1) := by decide +kernel
theorem dL_law_219 : decode cL_law 219 = .ok (.iconst 1, 1) := by decide +kernel
theorem dL_law_220 : decode cL_law 220 = .ok (.iadd, 1) := by decide +kernel
theorem dL_law_221 : decode cL_law 221 = .ok (.iaload, 1) := by decide +kernel
theorem dL_law_222 : decode cL_law 222 = .ok (.aload_n 0, 1) := by decide +kernel
theorem dL_law_223 : decode cL_law 223 = .ok (.iload_n 3, 1) := by decide +kernel
theorem dL_law_224 : decode cL_law 224 = .ok (.iconst 2, 1) := by decide +kernel
theorem dL_law_225 : decode cL_law 225 = .ok (.iadd, 1) := by decide +kernel
theorem dL_law_226 : decode cL_law 226 = .ok (.iaload, 1) := by decide +kernel
theorem dL_law_227 : decode cL_law 227 = .ok (.invokevirtual 27, 3) := by decide +kernel
theorem dL_law_230 : decode cL_law 230 = .ok (.if_icmp .eq 538, 3) := by decide +kernel
theorem dL_law_233 : decode cL_law 233 = .ok (.iconst 0, 1) := by decide +kernel
theorem dL_law_234 : decode cL_law 234 = .ok (.ireturn, 1) := by decide +kernel
theorem dL_law_235 : decode cL_law 235 = .ok (.aload_n 1, 1) := by decide +kernel
theorem dL_law_236 : decode cL_law 236 = .ok (.aload_n 0, 1) := by decide +kernel
theorem dL_law_237 : decode cL_law 237 = .ok (.iload_n 3, 1) := by decide +kernel
theorem dL_law_238 : decode cL_law 238 = .ok (.iconst 1, 1) := by decide +kernel
theorem dL_law_239 : decode cL_law 239 = .ok (.iadd, 1) := by decide +kernel
theorem dL_law_240 : decode cL_law 240 = .ok (.iaload, 1) := by decide +kernel
theorem dL_law_241 : decode cL_law 241 = .ok (.aload_n 0, 1) := by decide +kernel
theorem dL_law_242 : decode cL_law 242 = .ok (.iload_n 3, 1) := by decide +kernel
theorem dL_law_243 : decode cL_law 243 = .ok (.iconst 2, 1) := by decide +kernel
theorem dL_law_244 : decode cL_law 244 = .ok (.iadd, 1) := by decide +kernel
theorem dL_law_245 : decode cL_law 245 = .ok (.iaload, 1) := by decide +kernel
theorem dL_law_246 : decode cL_law 246 = .ok (.aload_n 0, 1) := by decide +kernel
theorem dL_law_247 : decode cL_law 247 = .ok (.iload_n 3, 1) := by decide +kernel
theorem dL_law_248 : decode cL_law 248 = .ok (.iconst 3, 1) := by decide +kernel
theorem dL_law_249 : decode cL_law 249 = .ok (.iadd, 1) := by decide +kernel
theorem dL_law_250 : decode cL_law 250 = .ok (.iaload, 1) := by decide +kernel
theorem dL_law_251 : decode cL_law 251 = .ok (.invokevirtual 28, 3) := by decide +kernel
theorem dL_law_254 : decode cL_law 254 = .ok (.aload_n 2, 1) := by decide +kernel
theorem dL_law_255 : decode cL_law 255 = .ok (.aload_n 0, 1) := by decide +kernel
theorem dL_law_256 : decode cL_law 256 = .ok (.iload_n 3, 1) := by decide +kernel
theorem dL_law_257 : decode cL_law 257 = .ok (.iconst 1, 1) := by decide +kernel
theorem dL_law_258 : decode cL_law 258 = .ok (.iadd, 1) := by decide +kernel
theorem dL_law_259 : decode cL_law 259 = .ok (.iaload, 1) := by decide +kernel
theorem dL_law_260 : decode cL_law 260 = .ok (.aload_n 0, 1) := by decide +kernel
theorem dL_law_261 : decode cL_law 261 = .ok (.iload_n 3, 1) := by decide +kernel
theorem dL_law_262 : decode cL_law 262 = .ok (.iconst 2, 1) := by decide +kernel
theorem dL_law_263 : decode cL_law 263 = .ok (.iadd, 1) := by decide +kernel
theorem dL_law_264 : decode cL_law 264 = .ok (.iaload, 1) := by decide +kernel
theorem dL_law_265 : decode cL_law 265 = .ok (.aload_n 0, 1) := by decide +kernel
theorem dL_law_266 : decode cL_law 266 = .ok (.iload_n 3, 1) := by decide +kernel
theorem dL_law_267 : decode cL_law 267 = .ok (.iconst 3, 1) := by decide +kernel
theorem dL_law_268 : decode cL_law 268 = .ok (.iadd, 1) := by decide +kernel
theorem dL_law_269 : decode cL_law 269 = .ok (.iaload, 1) := by decide +kernel
theorem dL_law_270 : decode cL_law 270 = .ok (.invokevirtual 31, 3) := by decide +kernel
theorem dL_law_273 : decode cL_law 273 = .ok (.if_icmp .eq 495, 3) := by decide +kernel
theorem dL_law_276 : decode cL_law 276 = .ok (.iconst 0, 1) := by decide +kernel
theorem dL_law_277 : decode cL_law 277 = .ok (.ireturn, 1) := by decide +kernel
theorem dL_law_278 : decode cL_law 278 = .ok (.aload_n 1, 1) := by decide +kernel
theorem dL_law_279 : decode cL_law 279 = .ok (.aload_n 0, 1) := by decide +kernel
theorem dL_law_280 : decode cL_law 280 = .ok (.iload_n 3, 1) := by decide +kernel
theorem dL_law_281 : decode cL_law 281 = .ok (.iconst 1, 1) := by decide +kernel
theorem dL_law_282 : decode cL_law 282 = .ok (.iadd, 1) := by decide +kernel
theorem dL_law_283 : decode cL_law 283 = .ok (.iaload, 1) := by decide +kernel
theorem dL_law_284 : decode cL_law 284 = .ok (.aload_n 0, 1) := by decide +kernel
theorem dL_law_285 : decode cL_law 285 = .ok (.iload_n 3, 1) := by decide +kernel
theorem dL_law_286 : decode cL_law 286 = .ok (.iconst 2, 1) := by decide +kernel
theorem dL_law_287 : decode cL_law 287 = .ok (.iadd, 1) := by decide +kernel
theorem dL_law_288 : decode cL_law 288 = .ok (.iaload, 1) := by decide +kernel
theorem dL_law_289 : decode cL_law 289 = .ok (.aload_n 0, 1) := by decide +kernel
theorem dL_law_290 : decode cL_law 290 = .ok (.iload_n 3, 1) := by decide +kernel
theorem dL_law_291 : decode cL_law 291 = .ok (.iconst 3, 1) := by decide +kernel
theorem dL_law_292 : decode cL_law 292 = .ok (.iadd, 1) := by decide +kernel
theorem dL_law_293 : decode cL_law 293 = .ok (.iaload, 1) := by decide +kernel
theorem dL_law_294 : decode cL_law 294 = .ok (.aload_n 0, 1) := by decide +kernel
theorem dL_law_295 : decode cL_law 295 = .ok (.iload_n 3, 1) := by decide +kernel
theorem dL_law_296 : decode cL_law 296 = .ok (.iconst 4, 1) := by decide +kernel
theorem dL_law_297 : decode cL_law 297 = .ok (.iadd, 1) := by decide +kernel
theorem dL_law_298 : decode cL_law 298 = .ok (.iaload, 1) := by decide +kernel
theorem dL_law_299 : decode cL_law 299 = .ok (.aload_n 0, 1) := by decide +kernel
theorem dL_law_300 : decode cL_law 300 = .ok (.iload_n 3, 1) := by decide +kernel
theorem dL_law_301 : decode cL_law 301 = .ok (.iconst 5, 1) := by decide +kernel
theorem dL_law_302 : decode cL_law 302 = .ok (.iadd, 1) := by decide +kernel
theorem dL_law_303 : decode cL_law 303 = .ok (.iaload, 1) := by decide +kernel
theorem dL_law_304 : decode cL_law 304 = .ok (.invokevirtual 32, 3) := by decide +kernel
theorem dL_law_307 : decode cL_law 307 = .ok (.aload_n 2, 1) := by decide +kernel
theorem dL_law_308 : decode cL_law 308 = .ok (.aload_n 0, 1) := by decide +kernel
theorem dL_law_309 : decode cL_law 309 = .ok (.iload_n 3, 1) := by decide +kernel
theorem dL_law_310 : decode cL_law 310 = .ok (.iconst 1, 1) := by decide +kernel
theorem dL_law_311 : decode cL_law 311 = .ok (.iadd, 1) := by decide +kernel
theorem dL_law_312 : decode cL_law 312 = .ok (.iaload, 1) := by decide +kernel
theorem dL_law_313 : decode cL_law 313 = .ok (.aload_n 0, 1) := by decide +kernel
theorem dL_law_314 : decode cL_law 314 = .ok (.iload_n 3, 1) := by decide +kernel
theorem dL_law_315 : decode cL_law 315 = .ok (.iconst 2, 1) := by decide +kernel
theorem dL_law_316 : decode cL_law 316 = .ok (.iadd, 1) := by decide +kernel
theorem dL_law_317 : decode cL_law 317 = .ok (.iaload, 1) := by decide +kernel
theorem dL_law_318 : decode cL_law 318 = .ok (.aload_n 0, 1) := by decide +kernel
theorem dL_law_319 : decode cL_law 319 = .ok (.iload_n 3, 1) := by decide +kernel
theorem dL_law_320 : decode cL_law 320 = .ok (.iconst 3, 1) := by decide +kernel
theorem dL_law_321 : decode cL_law 321 = .ok (.iadd, 1) := by decide +kernel
theorem dL_law_322 : decode cL_law 322 = .ok (.iaload, 1) := by decide +kernel
theorem dL_law_323 : decode cL_law 323 = .ok (.aload_n 0, 1) := by decide +kernel
theorem dL_law_324 : decode cL_law 324 = .ok (.iload_n 3, 1) := by decide +kernel
theorem dL_law_325 : decode cL_law 325 = .ok (.iconst 4, 1) := by decide +kernel
theorem dL_law_326 : decode cL_law 326 = .ok (.iadd, 1) := by decide +kernel
theorem dL_law_327 : decode cL_law 327 = .ok (.iaload, 1) := by decide +kernel
theorem dL_law_328 : decode cL_law 328 = .ok (.aload_n 0, 1) := by decide +kernel
theorem dL_law_329 : decode cL_law 329 = .ok (.iload_n 3, 1) := by decide +kernel
theorem dL_law_330 : decode cL_law 330 = .ok (.iconst 5, 1) := by decide +kernel
theorem dL_law_331 : decode cL_law 331 = .ok (.iadd, 1) := by decide +kernel
theorem dL_law_332 : decode cL_law 332 = .ok (.iaload, 1) := by decide +kernel
theorem dL_law_333 : decode cL_law 333 = .ok (.invokevirtual 36, 3) := by decide +kernel
theorem dL_law_336 : decode cL_law 336 = .ok (.if_icmp .eq 432, 3) := by decide +kernel
theorem dL_law_339 : decode cL_law 339 = .ok (.iconst 0, 1) := by decide +kernel
theorem dL_law_340 : decode cL_law 340 = .ok (.ireturn, 1) := by decide +kernel
theorem dL_law_341 : decode cL_law 341 = .ok (.aload_n 1, 1) := by decide +kernel
theorem dL_law_342 : decode cL_law 342 = .ok (.aload_n 0, 1) := by decide +kernel
theorem dL_law_343 : decode cL_law 343 = .ok (.iload_n 3, 1) := by decide +kernel
theorem dL_law_344 : decode cL_law 344 = .ok (.iconst 1, 1) := by decide +kernel
theorem dL_law_345 : decode cL_law 345 = .ok (.iadd, 1) := by decide +kernel
theorem dL_law_346 : decode cL_law 346 = .ok (.iaload, 1) := by decide +kernel
theorem dL_law_347 : decode cL_law 347 = .ok (.aload_n 0, 1) := by decide +kernel
theorem dL_law_348 : decode cL_law 348 = .ok (.iload_n 3, 1) := by decide +kernel
theorem dL_law_349 : decode cL_law 349 = .ok (.iconst 2, 1) := by decide +kernel
theorem dL_law_350 : decode cL_law 350 = .ok (.iadd, 1) := by decide +kernel
theorem dL_law_351 : decode cL_law 351 = .ok (.iaload, 1) := by decide +kernel
theorem dL_law_352 : decode cL_law 352 = .ok (.aload_n 0, 1) := by decide +kernel
theorem dL_law_353 : decode cL_law 353 = .ok (.iload_n 3, 1) := by decide +kernel
theorem dL_law_354 : decode cL_law 354 = .ok (.iconst 3, 1) := by decide +kernel
theorem dL_law_355 : decode cL_law 355 = .ok (.iadd, 1) := by decide +kernel
theorem dL_law_356 : decode cL_law 356 = .ok (.iaload, 1) := by decide +kernel
theorem dL_law_357 : decode cL_law 357 = .ok (.invokevirtual 37, 3) := by decide +kernel
theorem dL_law_360 : decode cL_law 360 = .ok (.aload_n 2, 1) := by decide +kernel
theorem dL_law_361 : decode cL_law 361 = .ok (.aload_n 0, 1) := by decide +kernel
theorem dL_law_362 : decode cL_law 362 = .ok (.iload_n 3, 1) := by decide +kernel
theorem dL_law_363 : decode cL_law 363 = .ok (.iconst 1, 1) := by decide +kernel
theorem dL_law_364 : decode cL_law 364 = .ok (.iadd, 1) := by decide +kernel
theorem dL_law_365 : decode cL_law 365 = .ok (.iaload, 1) := by decide +kernel
theorem dL_law_366 : decode cL_law 366 = .ok (.aload_n 0, 1) := by decide +kernel
theorem dL_law_367 : decode cL_law 367 = .ok (.iload_n 3, 1) := by decide +kernel
theorem dL_law_368 : decode cL_law 368 = .ok (.iconst 2, 1) := by decide +kernel
theorem dL_law_369 : decode cL_law 369 = .ok (.iadd, 1) := by decide +kernel
theorem dL_law_370 : decode cL_law 370 = .ok (.iaload, 1) := by decide +kernel
theorem dL_law_371 : decode cL_law 371 = .ok (.aload_n 0, 1) := by decide +kernel
theorem dL_law_372 : decode cL_law 372 = .ok (.iload_n 3, 1) := by decide +kernel
theorem dL_law_373 : decode cL_law 373 = .ok (.iconst 3, 1) := by decide +kernel
theorem dL_law_374 : decode cL_law 374 = .ok (.iadd, 1) := by decide +kernel
theorem dL_law_375 : decode cL_law 375 = .ok (.iaload, 1) := by decide +kernel
theorem dL_law_376 : decode cL_law 376 = .ok (.invokevirtual 40, 3) := by decide +kernel
theorem dL_law_379 : decode cL_law 379 = .ok (.if_icmp .eq 389, 3) := by decide +kernel
theorem dL_law_382 : decode cL_law 382 = .ok (.iconst 0, 1) := by decide +kernel
theorem dL_law_383 : decode cL_law 383 = .ok (.ireturn, 1) := by decide +kernel
theorem dL_law_384 : decode cL_law 384 = .ok (.aload_n 1, 1) := by decide +kernel
theorem dL_law_385 : decode cL_law 385 = .ok (.aload_n 0, 1) := by decide +kernel
theorem dL_law_386 : decode cL_law 386 = .ok (.iload_n 3, 1) := by decide +kernel
theorem dL_law_387 : decode cL_law 387 = .ok (.iconst 1, 1) := by decide +kernel
theorem dL_law_388 : decode cL_law 388 = .ok (.iadd, 1) := by decide +kernel
theorem dL_law_389 : decode cL_law 389 = .ok (.iaload, 1) := by decide +kernel
theorem dL_law_390 : decode cL_law 390 = .ok (.aload_n 0, 1) := by decide +kernel
theorem dL_law_391 : decode cL_law 391 = .ok (.iload_n 3, 1) := by decide +kernel
theorem dL_law_392 : decode cL_law 392 = .ok (.iconst 2, 1) := by decide +kernel
theorem dL_law_393 : decode cL_law 393 = .ok (.iadd, 1) := by decide +kernel
theorem dL_law_394 : decode cL_law 394 = .ok (.iaload, 1) := by decide +kernel
theorem dL_law_395 : decode cL_law 395 = .ok (.aload_n 0, 1) := by decide +kernel
theorem dL_law_396 : decode cL_law 396 = .ok (.iload_n 3, 1) := by decide +kernel
theorem dL_law_397 : decode cL_law 397 = .ok (.iconst 3, 1) := by decide +kernel
theorem dL_law_398 : decode cL_law 398 = .ok (.iadd, 1) := by decide +kernel
theorem dL_law_399 : decode cL_law 399 = .ok (.iaload, 1) := by decide +kernel
theorem dL_law_400 : decode cL_law 400 = .ok (.invokevirtual 41, 3) := by decide +kernel
theorem dL_law_403 : decode cL_law 403 = .ok (.aload_n 2, 1) := by decide +kernel
theorem dL_law_404 : decode cL_law 404 = .ok (.aload_n 0, 1) := by decide +kernel
theorem dL_law_405 : decode cL_law 405 = .ok (.iload_n 3, 1) := by decide +kernel
theorem dL_law_406 : decode cL_law 406 = .ok (.iconst 1, 1) := by decide +kernel
theorem dL_law_407 : decode cL_law 407 = .ok (.iadd, 1) := by decide +kernel
theorem dL_law_408 : decode cL_law 408 = .ok (.iaload, 1) := by decide +kernel
theorem dL_law_409 : decode cL_law 409 = .ok (.aload_n 0, 1) := by decide +kernel
theorem dL_law_410 : decode cL_law 410 = .ok (.iload_n 3, 1) := by decide +kernel
theorem dL_law_411 : decode cL_law 411 = .ok (.iconst 2, 1) := by decide +kernel
theorem dL_law_412 : decode cL_law 412 = .ok (.iadd, 1) := by decide +kernel
theorem dL_law_413 : decode cL_law 413 = .ok (.iaload, 1) := by decide +kernel
theorem dL_law_414 : decode cL_law 414 = .ok (.aload_n 0, 1) := by decide +kernel
theorem dL_law_415 : decode cL_law 415 = .ok (.iload_n 3, 1) := by decide +kernel
theorem dL_law_416 : decode cL_law 416 = .ok (.iconst 3, 1) := by decide +kernel
theorem dL_law_417 : decode cL_law 417 = .ok (.iadd, 1) := by decide +kernel
theorem dL_law_418 : decode cL_law 418 = .ok (.iaload, 1) := by decide +kernel
theorem dL_law_419 : decode cL_law 419 = .ok (.invokevirtual 44, 3) := by decide +kernel
theorem dL_law_422 : decode cL_law 422 = .ok (.if_icmp .eq 346, 3) := by decide +kernel
theorem dL_law_425 : decode cL_law 425 = .ok (.iconst 0, 1) := by decide +kernel
theorem dL_law_426 : decode cL_law 426 = .ok (.ireturn, 1) := by decide +kernel
theorem dL_law_427 : decode cL_law 427 = .ok (.aload_n 1, 1) := by decide +kernel
theorem dL_law_428 : decode cL_law 428 = .ok (.aload_n 0, 1) := by decide +kernel
theorem dL_law_429 : decode cL_law 429 = .ok (.iload_n 3, 1) := by decide +kernel
theorem dL_law_430 : decode cL_law 430 = .ok (.iconst 1, 1) := by decide +kernel
theorem dL_law_431 : decode cL_law 431 = .ok (.iadd, 1) := by decide +kernel
theorem dL_law_432 : decode cL_law 432 = .ok (.iaload, 1) := by decide +kernel
theorem dL_law_433 : decode cL_law 433 = .ok (.aload_n 0, 1) := by decide +kernel
theorem dL_law_434 : decode cL_law 434 = .ok (.iload_n 3, 1) := by decide +kernel
theorem dL_law_435 : decode cL_law 435 = .ok (.iconst 2, 1) := by decide +kernel
theorem dL_law_436 : decode cL_law 436 = .ok (.iadd, 1) := by decide +kernel
theorem dL_law_437 : decode cL_law 437 = .ok (.iaload, 1) := by decide +kernel
theorem dL_law_438 : decode cL_law 438 = .ok (.invokevirtual 45, 3) := by decide +kernel
theorem dL_law_441 : decode cL_law 441 = .ok (.aload_n 2, 1) := by decide +kernel
theorem dL_law_442 : decode cL_law 442 = .ok (.aload_n 0, 1) := by decide +kernel
theorem dL_law_443 : decode cL_law 443 = .ok (.iload_n 3, 1) := by decide +kernel
theorem dL_law_444 : decode cL_law 444 = .ok (.iconst 1, 1) := by decide +kernel
theorem dL_law_445 : decode cL_law 445 = .ok (.iadd, 1) := by decide +kernel
theorem dL_law_446 : decode cL_law 446 = .ok (.iaload, 1) := by decide +kernel
theorem dL_law_447 : decode cL_law 447 = .ok (.aload_n 0, 1) := by decide +kernel
theorem dL_law_448 : decode cL_law 448 = .ok (.iload_n 3, 1) := by decide +kernel
theorem dL_law_449 : decode cL_law 449 = .ok (.iconst 2, 1) := by decide +kernel
theorem dL_law_450 : decode cL_law 450 = .ok (.iadd, 1) := by decide +kernel
theorem dL_law_451 : decode cL_law 451 = .ok (.iaload, 1) := by decide +kernel
theorem dL_law_452 : decode cL_law 452 = .ok (.invokevirtual 48, 3) := by decide +kernel
theorem dL_law_455 : decode cL_law 455 = .ok (.if_icmp .eq 313, 3) := by decide +kernel
theorem dL_law_458 : decode cL_law 458 = .ok (.iconst 0, 1) := by decide +kernel
theorem dL_law_459 : decode cL_law 459 = .ok (.ireturn, 1) := by decide +kernel
theorem dL_law_460 : decode cL_law 460 = .ok (.aload_n 1, 1) := by decide +kernel
theorem dL_law_461 : decode cL_law 461 = .ok (.aload_n 0, 1) := by decide +kernel
theorem dL_law_462 : decode cL_law 462 = .ok (.iload_n 3, 1) := by decide +kernel
theorem dL_law_463 : decode cL_law 463 = .ok (.iconst 1, 1) := by decide +kernel
theorem dL_law_464 : decode cL_law 464 = .ok (.iadd, 1) := by decide +kernel
theorem dL_law_465 : decode cL_law 465 = .ok (.iaload, 1) := by decide +kernel
theorem dL_law_466 : decode cL_law 466 = .ok (.aload_n 0, 1) := by decide +kernel
theorem dL_law_467 : decode cL_law 467 = .ok (.iload_n 3, 1) := by decide +kernel
theorem dL_law_468 : decode cL_law 468 = .ok (.iconst 2, 1) := by decide +kernel
theorem dL_law_469 : decode cL_law 469 = .ok (.iadd, 1) := by decide +kernel
theorem dL_law_470 : decode cL_law 470 = .ok (.iaload, 1) := by decide +kernel
theorem dL_law_471 : decode cL_law 471 = .ok (.invokevirtual 49, 3) := by decide +kernel
theorem dL_law_474 : decode cL_law 474 = .ok (.aload_n 2, 1) := by decide +kernel
theorem dL_law_475 : decode cL_law 475 = .ok (.aload_n 0, 1) := by decide +kernel
theorem dL_law_476 : decode cL_law 476 = .ok (.iload_n 3, 1) := by decide +kernel
theorem dL_law_477 : decode cL_law 477 = .ok (.iconst 1, 1) := by decide +kernel
theorem dL_law_478 : decode cL_law 478 = .ok (.iadd, 1) := by decide +kernel
theorem dL_law_479 : decode cL_law 479 = .ok (.iaload, 1) := by decide +kernel
theorem dL_law_480 : decode cL_law 480 = .ok (.aload_n 0, 1) := by decide +kernel
theorem dL_law_481 : decode cL_law 481 = .ok (.iload_n 3, 1) := by decide +kernel
theorem dL_law_482 : decode cL_law 482 = .ok (.iconst 2, 1) := by decide +kernel
theorem dL_law_483 : decode cL_law 483 = .ok (.iadd, 1) := by decide +kernel
theorem dL_law_484 : decode cL_law 484 = .ok (.iaload, 1) := by decide +kernel
theorem dL_law_485 : decode cL_law 485 = .ok (.invokevirtual 52, 3) := by decide +kernel
theorem dL_law_488 : decode cL_law 488 = .ok (.if_icmp .eq 280, 3) := by decide +kernel
theorem dL_law_491 : decode cL_law 491 = .ok (.iconst 0, 1) := by decide +kernel
theorem dL_law_492 : decode cL_law 492 = .ok (.ireturn, 1) := by decide +kernel
theorem dL_law_493 : decode cL_law 493 = .ok (.aload_n 1, 1) := by decide +kernel
theorem dL_law_494 : decode cL_law 494 = .ok (.invokevirtual 53, 3) := by decide +kernel
theorem dL_law_497 : decode cL_law 497 = .ok (.aload_n 2, 1) := by decide +kernel
theorem dL_law_498 : decode cL_law 498 = .ok (.invokevirtual 57, 3) := by decide +kernel
theorem dL_law_501 : decode cL_law 501 = .ok (.if_icmp .eq 267, 3) := by decide +kernel
theorem dL_law_504 : decode cL_law 504 = .ok (.iconst 0, 1) := by decide +kernel
theorem dL_law_505 : decode cL_law 505 = .ok (.ireturn, 1) := by decide +kernel
theorem dL_law_506 : decode cL_law 506 = .ok (.aload_n 1, 1) := by decide +kernel
theorem dL_law_507 : decode cL_law 507 = .ok (.aload_n 0, 1) := by decide +kernel
theorem dL_law_508 : decode cL_law 508 = .ok (.iload_n 3, 1) := by decide +kernel
theorem dL_law_509 : decode cL_law 509 = .ok (.iconst 1, 1) := by decide +kernel
theorem dL_law_510 : decode cL_law 510 = .ok (.iadd, 1) := by decide +kernel
theorem dL_law_511 : decode cL_law 511 = .ok (.iaload, 1) := by decide +kernel
theorem dL_law_512 : decode cL_law 512 = .ok (.aload_n 0, 1) := by decide +kernel
theorem dL_law_513 : decode cL_law 513 = .ok (.iload_n 3, 1) := by decide +kernel
theorem dL_law_514 : decode cL_law 514 = .ok (.iconst 2, 1) := by decide +kernel
theorem dL_law_515 : decode cL_law 515 = .ok (.iadd, 1) := by decide +kernel
theorem dL_law_516 : decode cL_law 516 = .ok (.iaload, 1) := by decide +kernel
theorem dL_law_517 : decode cL_law 517 = .ok (.aload_n 0, 1) := by decide +kernel
theorem dL_law_518 : decode cL_law 518 = .ok (.iload_n 3, 1) := by decide +kernel
theorem dL_law_519 : decode cL_law 519 = .ok (.iconst 3, 1) := by decide +kernel
theorem dL_law_520 : decode cL_law 520 = .ok (.iadd, 1) := by decide +kernel
theorem dL_law_521 : decode cL_law 521 = .ok (.iaload, 1) := by decide +kernel
theorem dL_law_522 : decode cL_law 522 = .ok (.aload_n 0, 1) := by decide +kernel
theorem dL_law_523 : decode cL_law 523 = .ok (.iload_n 3, 1) := by decide +kernel
theorem dL_law_524 : decode cL_law 524 = .ok (.iconst 4, 1) := by decide +kernel
theorem dL_law_525 : decode cL_law 525 = .ok (.iadd, 1) := by decide +kernel
theorem dL_law_526 : decode cL_law 526 = .ok (.iaload, 1) := by decide +kernel
theorem dL_law_527 : decode cL_law 527 = .ok (.aload_n 0, 1) := by decide +kernel
theorem dL_law_528 : decode cL_law 528 = .ok (.iload_n 3, 1) := by decide +kernel
theorem dL_law_529 : decode cL_law 529 = .ok (.iconst 5, 1) := by decide +kernel
theorem dL_law_530 : decode cL_law 530 = .ok (.iadd, 1) := by decide +kernel
theorem dL_law_531 : decode cL_law 531 = .ok (.iaload, 1) := by decide +kernel
theorem dL_law_532 : decode cL_law 532 = .ok (.invokevirtual 58, 3) := by decide +kernel
theorem dL_law_535 : decode cL_law 535 = .ok (.aload_n 2, 1) := by decide +kernel
theorem dL_law_536 : decode cL_law 536 = .ok (.aload_n 0, 1) := by decide +kernel
theorem dL_law_537 : decode cL_law 537 = .ok (.iload_n 3, 1) := by decide +kernel
theorem dL_law_538 : decode cL_law 538 = .ok (.iconst 1, 1) := by decide +kernel
theorem dL_law_539 : decode cL_law 539 = .ok (.iadd, 1) := by decide +kernel
theorem dL_law_540 : decode cL_law 540 = .ok (.iaload, 1) := by decide +kernel
theorem dL_law_541 : decode cL_law 541 = .ok (.aload_n 0, 1) := by decide +kernel
theorem dL_law_542 : decode cL_law 542 = .ok (.iload_n 3, 1) := by decide +kernel
theorem dL_law_543 : decode cL_law 543 = .ok (.iconst 2, 1) := by decide +kernel
theorem dL_law_544 : decode cL_law 544 = .ok (.iadd, 1) := by decide +kernel
theorem dL_law_545 : decode cL_law 545 = .ok (.iaload, 1) := by decide +kernel
theorem dL_law_546 : decode cL_law 546 = .ok (.aload_n 0, 1) := by decide +kernel
theorem dL_law_547 : decode cL_law 547 = .ok (.iload_n 3, 1) := by decide +kernel
theorem dL_law_548 : decode cL_law 548 = .ok (.iconst 3, 1) := by decide +kernel
theorem dL_law_549 : decode cL_law 549 = .ok (.iadd, 1) := by decide +kernel
theorem dL_law_550 : decode cL_law 550 = .ok (.iaload, 1) := by decide +kernel
theorem dL_law_551 : decode cL_law 551 = .ok (.aload_n 0, 1) := by decide +kernel
theorem dL_law_552 : decode cL_law 552 = .ok (.iload_n 3, 1) := by decide +kernel
theorem dL_law_553 : decode cL_law 553 = .ok (.iconst 4, 1) := by decide +kernel
theorem dL_law_554 : decode cL_law 554 = .ok (.iadd, 1) := by decide +kernel
theorem dL_law_555 : decode cL_law 555 = .ok (.iaload, 1) := by decide +kernel
theorem dL_law_556 : decode cL_law 556 = .ok (.aload_n 0, 1) := by decide +kernel
theorem dL_law_557 : decode cL_law 557 = .ok (.iload_n 3, 1) := by decide +kernel
theorem dL_law_558 : decode cL_law 558 = .ok (.iconst 5, 1) := by decide +kernel
theorem dL_law_559 : decode cL_law 559 = .ok (.iadd, 1) := by decide +kernel
theorem dL_law_560 : decode cL_law 560 = .ok (.iaload, 1) := by decide +kernel
theorem dL_law_561 : decode cL_law 561 = .ok (.invokevirtual 61, 3) := by decide +kernel
theorem dL_law_564 : decode cL_law 564 = .ok (.if_icmp .eq 204, 3) := by decide +kernel
theorem dL_law_567 : decode cL_law 567 = .ok (.iconst 0, 1) := by decide +kernel
theorem dL_law_568 : decode cL_law 568 = .ok (.ireturn, 1) := by decide +kernel
theorem dL_law_569 : decode cL_law 569 = .ok (.aload_n 1, 1) := by decide +kernel
theorem dL_law_570 : decode cL_law 570 = .ok (.aload_n 0, 1) := by decide +kernel
theorem dL_law_571 : decode cL_law 571 = .ok (.iload_n 3, 1) := by decide +kernel
theorem dL_law_572 : decode cL_law 572 = .ok (.iconst 1, 1) := by decide +kernel
theorem dL_law_573 : decode cL_law 573 = .ok (.iadd, 1) := by decide +kernel
theorem dL_law_574 : decode cL_law 574 = .ok (.iaload, 1) := by decide +kernel
theorem dL_law_575 : decode cL_law 575 = .ok (.aload_n 0, 1) := by decide +kernel
theorem dL_law_576 : decode cL_law 576 = .ok (.iload_n 3, 1) := by decide +kernel
theorem dL_law_577 : decode cL_law 577 = .ok (.iconst 2, 1) := by decide +kernel
theorem dL_law_578 : decode cL_law 578 = .ok (.iadd, 1) := by decide +kernel
theorem dL_law_579 : decode cL_law 579 = .ok (.iaload, 1) := by decide +kernel
theorem dL_law_580 : decode cL_law 580 = .ok (.aload_n 0, 1) := by decide +kernel
theorem dL_law_581 : decode cL_law 581 = .ok (.iload_n 3, 1) := by decide +kernel
theorem dL_law_582 : decode cL_law 582 = .ok (.iconst 3, 1) := by decide +kernel
theorem dL_law_583 : decode cL_law 583 = .ok (.iadd, 1) := by decide +kernel
theorem dL_law_584 : decode cL_law 584 = .ok (.iaload, 1) := by decide +kernel
theorem dL_law_585 : decode cL_law 585 = .ok (.invokevirtual 62, 3) := by decide +kernel
theorem dL_law_588 : decode cL_law 588 = .ok (.aload_n 2, 1) := by decide +kernel
theorem dL_law_589 : decode cL_law 589 = .ok (.aload_n 0, 1) := by decide +kernel
theorem dL_law_590 : decode cL_law 590 = .ok (.iload_n 3, 1) := by decide +kernel
theorem dL_law_591 : decode cL_law 591 = .ok (.iconst 1, 1) := by decide +kernel
theorem dL_law_592 : decode cL_law 592 = .ok (.iadd, 1) := by decide +kernel
theorem dL_law_593 : decode cL_law 593 = .ok (.iaload, 1) := by decide +kernel
theorem dL_law_594 : decode cL_law 594 = .ok (.aload_n 0, 1) := by decide +kernel
theorem dL_law_595 : decode cL_law 595 = .ok (.iload_n 3, 1) := by decide +kernel
theorem dL_law_596 : decode cL_law 596 = .ok (.iconst 2, 1) := by decide +kernel
theorem dL_law_597 : decode cL_law 597 = .ok (.iadd, 1) := by decide +kernel
theorem dL_law_598 : decode cL_law 598 = .ok (.iaload, 1) := by decide +kernel
theorem dL_law_599 : decode cL_law 599 = .ok (.aload_n 0, 1) := by decide +kernel
theorem dL_law_600 : decode cL_law 600 = .ok (.iload_n 3, 1) := by decide +kernel
theorem dL_law_601 : decode cL_law 601 = .ok (.iconst 3, 1) := by decide +kernel
theorem dL_law_602 : decode cL_law 602 = .ok (.iadd, 1) := by decide +kernel
theorem dL_law_603 : decode cL_law 603 = .ok (.iaload, 1) := by decide +kernel
theorem dL_law_604 : decode cL_law 604 = .ok (.invokevirtual 65, 3) := by decide +kernel
theorem dL_law_607 : decode cL_law 607 = .ok (.if_icmp .eq 161, 3) := by decide +kernel
theorem dL_law_610 : decode cL_law 610 = .ok (.iconst 0, 1) := by decide +kernel
theorem dL_law_611 : decode cL_law 611 = .ok (.ireturn, 1) := by decide +kernel
theorem dL_law_612 : decode cL_law 612 = .ok (.aload_n 1, 1) := by decide +kernel
theorem dL_law_613 : decode cL_law 613 = .ok (.aload_n 0, 1) := by decide +kernel
theorem dL_law_614 : decode cL_law 614 = .ok (.iload_n 3, 1) := by decide +kernel
theorem dL_law_615 : decode cL_law 615 = .ok (.iconst 1, 1) := by decide +kernel
theorem dL_law_616 : decode cL_law 616 = .ok (.iadd, 1) := by decide +kernel
theorem dL_law_617 : decode cL_law 617 = .ok (.iaload, 1) := by decide +kernel
theorem dL_law_618 : decode cL_law 618 = .ok (.aload_n 0, 1) := by decide +kernel
theorem dL_law_619 : decode cL_law 619 = .ok (.iload_n 3, 1) := by decide +kernel
theorem dL_law_620 : decode cL_law 620 = .ok (.iconst 2, 1) := by decide +kernel
theorem dL_law_621 : decode cL_law 621 = .ok (.iadd, 1) := by decide +kernel
theorem dL_law_622 : decode cL_law 622 = .ok (.iaload, 1) := by decide +kernel
theorem dL_law_623 : decode cL_law 623 = .ok (.invokevirtual 66, 3) := by decide +kernel
theorem dL_law_626 : decode cL_law 626 = .ok (.aload_n 2, 1) := by decide +kernel
theorem dL_law_627 : decode cL_law 627 = .ok (.aload_n 0, 1) := by decide +kernel
theorem dL_law_628 : decode cL_law 628 = .ok (.iload_n 3, 1) := by decide +kernel
theorem dL_law_629 : decode cL_law 629 = .ok (.iconst 1, 1) := by decide +kernel
theorem dL_law_630 : decode cL_law 630 = .ok (.iadd, 1) := by decide +kernel
theorem dL_law_631 : decode cL_law 631 = .ok (.iaload, 1) := by decide +kernel
theorem dL_law_632 : decode cL_law 632 = .ok (.aload_n 0, 1) := by decide +kernel
theorem dL_law_633 : decode cL_law 633 = .ok (.iload_n 3, 1) := by decide +kernel
theorem dL_law_634 : decode cL_law 634 = .ok (.iconst 2, 1) := by decide +kernel
theorem dL_law_635 : decode cL_law 635 = .ok (.iadd, 1) := by decide +kernel
theorem dL_law_636 : decode cL_law 636 = .ok (.iaload, 1) := by decide +kernel
theorem dL_law_637 : decode cL_law 637 = .ok (.invokevirtual 69, 3) := by decide +kernel
theorem dL_law_640 : decode cL_law 640 = .ok (.if_icmp .eq 128, 3) := by decide +kernel
theorem dL_law_643 : decode cL_law 643 = .ok (.iconst 0, 1) := by decide +kernel
theorem dL_law_644 : decode cL_law 644 = .ok (.ireturn, 1) := by decide +kernel
theorem dL_law_645 : decode cL_law 645 = .ok (.aload_n 1, 1) := by decide +kernel
theorem dL_law_646 : decode cL_law 646 = .ok (.aload_n 0, 1) := by decide +kernel
theorem dL_law_647 : decode cL_law 647 = .ok (.iload_n 3, 1) := by decide +kernel
theorem dL_law_648 : decode cL_law 648 = .ok (.iconst 1, 1) := by decide +kernel
theorem dL_law_649 : decode cL_law 649 = .ok (.iadd, 1) := by decide +kernel
theorem dL_law_650 : decode cL_law 650 = .ok (.iaload, 1) := by decide +kernel
theorem dL_law_651 : decode cL_law 651 = .ok (.aload_n 0, 1) := by decide +kernel
theorem dL_law_652 : decode cL_law 652 = .ok (.iload_n 3, 1) := by decide +kernel
theorem dL_law_653 : decode cL_law 653 = .ok (.iconst 2, 1) := by decide +kernel
theorem dL_law_654 : decode cL_law 654 = .ok (.iadd, 1) := by decide +kernel
theorem dL_law_655 : decode cL_law 655 = .ok (.iaload, 1) := by decide +kernel
theorem dL_law_656 : decode cL_law 656 = .ok (.invokevirtual 70, 3) := by decide +kernel
theorem dL_law_659 : decode cL_law 659 = .ok (.aload_n 2, 1) := by decide +kernel
theorem dL_law_660 : decode cL_law 660 = .ok (.aload_n 0, 1) := by decide +kernel
theorem dL_law_661 : decode cL_law 661 = .ok (.iload_n 3, 1) := by decide +kernel
theorem dL_law_662 : decode cL_law 662 = .ok (.iconst 1, 1) := by decide +kernel
theorem dL_law_663 : decode cL_law 663 = .ok (.iadd, 1) := by decide +kernel
theorem dL_law_664 : decode cL_law 664 = .ok (.iaload, 1) := by decide +kernel
theorem dL_law_665 : decode cL_law 665 = .ok (.aload_n 0, 1) := by decide +kernel
theorem dL_law_666 : decode cL_law 666 = .ok (.iload_n 3, 1) := by decide +kernel
theorem dL_law_667 : decode cL_law 667 = .ok (.iconst 2, 1) := by decide +kernel
theorem dL_law_668 : decode cL_law 668 = .ok (.iadd, 1) := by decide +kernel
theorem dL_law_669 : decode cL_law 669 = .ok (.iaload, 1) := by decide +kernel
theorem dL_law_670 : decode cL_law 670 = .ok (.invokevirtual 73, 3) := by decide +kernel
theorem dL_law_673 : decode cL_law 673 = .ok (.if_icmp .eq 95, 3) := by decide +kernel
theorem dL_law_676 : decode cL_law 676 = .ok (.iconst 0, 1) := by decide +kernel
theorem dL_law_677 : decode cL_law 677 = .ok (.ireturn, 1) := by decide +kernel
theorem dL_law_678 : decode cL_law 678 = .ok (.aload_n 1, 1) := by decide +kernel
theorem dL_law_679 : decode cL_law 679 = .ok (.aload_n 0, 1) := by decide +kernel
theorem dL_law_680 : decode cL_law 680 = .ok (.iload_n 3, 1) := by decide +kernel
theorem dL_law_681 : decode cL_law 681 = .ok (.iconst 1, 1) := by decide +kernel
theorem dL_law_682 : decode cL_law 682 = .ok (.iadd, 1) := by decide +kernel
theorem dL_law_683 : decode cL_law 683 = .ok (.iaload, 1) := by decide +kernel
theorem dL_law_684 : decode cL_law 684 = .ok (.aload_n 0, 1) := by decide +kernel
theorem dL_law_685 : decode cL_law 685 = .ok (.iload_n 3, 1) := by decide +kernel
theorem dL_law_686 : decode cL_law 686 = .ok (.iconst 2, 1) := by decide +kernel
theorem dL_law_687 : decode cL_law 687 = .ok (.iadd, 1) := by decide +kernel
theorem dL_law_688 : decode cL_law 688 = .ok (.iaload, 1) := by decide +kernel
theorem dL_law_689 : decode cL_law 689 = .ok (.invokevirtual 74, 3) := by decide +kernel
theorem dL_law_692 : decode cL_law 692 = .ok (.aload_n 2, 1) := by decide +kernel
theorem dL_law_693 : decode cL_law 693 = .ok (.aload_n 0, 1) := by decide +kernel
theorem dL_law_694 : decode cL_law 694 = .ok (.iload_n 3, 1) := by decide +kernel
theorem dL_law_695 : decode cL_law 695 = .ok (.iconst 1, 1) := by decide +kernel
theorem dL_law_696 : decode cL_law 696 = .ok (.iadd, 1) := by decide +kernel
theorem dL_law_697 : decode cL_law 697 = .ok (.iaload, 1) := by decide +kernel
theorem dL_law_698 : decode cL_law 698 = .ok (.aload_n 0, 1) := by decide +kernel
theorem dL_law_699 : decode cL_law 699 = .ok (.iload_n 3, 1) := by decide +kernel
theorem dL_law_700 : decode cL_law 700 = .ok (.iconst 2, 1) := by decide +kernel
theorem dL_law_701 : decode cL_law 701 = .ok (.iadd, 1) := by decide +kernel
theorem dL_law_702 : decode cL_law 702 = .ok (.iaload, 1) := by decide +kernel
theorem dL_law_703 : decode cL_law 703 = .ok (.invokevirtual 78, 3) := by decide +kernel
theorem dL_law_706 : decode cL_law 706 = .ok (.lcmp, 1) := by decide +kernel
theorem dL_law_707 : decode cL_law 707 = .ok (.ifCond .eq 61, 3) := by decide +kernel
theorem dL_law_710 : decode cL_law 710 = .ok (.iconst 0, 1) := by decide +kernel
theorem dL_law_711 : decode cL_law 711 = .ok (.ireturn, 1) := by decide +kernel
theorem dL_law_712 : decode cL_law 712 = .ok (.aload_n 1, 1) := by decide +kernel
theorem dL_law_713 : decode cL_law 713 = .ok (.aload_n 0, 1) := by decide +kernel
theorem dL_law_714 : decode cL_law 714 = .ok (.iload_n 3, 1) := by decide +kernel
theorem dL_law_715 : decode cL_law 715 = .ok (.iconst 1, 1) := by decide +kernel
theorem dL_law_716 : decode cL_law 716 = .ok (.iadd, 1) := by decide +kernel
theorem dL_law_717 : decode cL_law 717 = .ok (.iaload, 1) := by decide +kernel
theorem dL_law_718 : decode cL_law 718 = .ok (.aload_n 0, 1) := by decide +kernel
theorem dL_law_719 : decode cL_law 719 = .ok (.iload_n 3, 1) := by decide +kernel
theorem dL_law_720 : decode cL_law 720 = .ok (.iconst 2, 1) := by decide +kernel
theorem dL_law_721 : decode cL_law 721 = .ok (.iadd, 1) := by decide +kernel
theorem dL_law_722 : decode cL_law 722 = .ok (.iaload, 1) := by decide +kernel
theorem dL_law_723 : decode cL_law 723 = .ok (.invokevirtual 79, 3) := by decide +kernel
theorem dL_law_726 : decode cL_law 726 = .ok (.aload_n 2, 1) := by decide +kernel
theorem dL_law_727 : decode cL_law 727 = .ok (.aload_n 0, 1) := by decide +kernel
theorem dL_law_728 : decode cL_law 728 = .ok (.iload_n 3, 1) := by decide +kernel
theorem dL_law_729 : decode cL_law 729 = .ok (.iconst 1, 1) := by decide +kernel
theorem dL_law_730 : decode cL_law 730 = .ok (.iadd, 1) := by decide +kernel
theorem dL_law_731 : decode cL_law 731 = .ok (.iaload, 1) := by decide +kernel
theorem dL_law_732 : decode cL_law 732 = .ok (.aload_n 0, 1) := by decide +kernel
theorem dL_law_733 : decode cL_law 733 = .ok (.iload_n 3, 1) := by decide +kernel
theorem dL_law_734 : decode cL_law 734 = .ok (.iconst 2, 1) := by decide +kernel
theorem dL_law_735 : decode cL_law 735 = .ok (.iadd, 1) := by decide +kernel
theorem dL_law_736 : decode cL_law 736 = .ok (.iaload, 1) := by decide +kernel
theorem dL_law_737 : decode cL_law 737 = .ok (.invokevirtual 82, 3) := by decide +kernel
theorem dL_law_740 : decode cL_law 740 = .ok (.if_icmp .eq 28, 3) := by decide +kernel
theorem dL_law_743 : decode cL_law 743 = .ok (.iconst 0, 1) := by decide +kernel
theorem dL_law_744 : decode cL_law 744 = .ok (.ireturn, 1) := by decide +kernel
theorem dL_law_745 : decode cL_law 745 = .ok (.aload_n 1, 1) := by decide +kernel
theorem dL_law_746 : decode cL_law 746 = .ok (.aload_n 0, 1) := by decide +kernel
theorem dL_law_747 : decode cL_law 747 = .ok (.iload_n 3, 1) := by decide +kernel
theorem dL_law_748 : decode cL_law 748 = .ok (.iconst 1, 1) := by decide +kernel
theorem dL_law_749 : decode cL_law 749 = .ok (.iadd, 1) := by decide +kernel
theorem dL_law_750 : decode cL_law 750 = .ok (.iaload, 1) := by decide +kernel
theorem dL_law_751 : decode cL_law 751 = .ok (.invokevirtual 83, 3) := by decide +kernel
theorem dL_law_754 : decode cL_law 754 = .ok (.aload_n 2, 1) := by decide +kernel
theorem dL_law_755 : decode cL_law 755 = .ok (.aload_n 0, 1) := by decide +kernel
theorem dL_law_756 : decode cL_law 756 = .ok (.iload_n 3, 1) := by decide +kernel
theorem dL_law_757 : decode cL_law 757 = .ok (.iconst 1, 1) := by decide +kernel
theorem dL_law_758 : decode cL_law 758 = .ok (.iadd, 1) := by decide +kernel
theorem dL_law_759 : decode cL_law 759 = .ok (.iaload, 1) := by decide +kernel
theorem dL_law_760 : decode cL_law 760 = .ok (.invokevirtual 87, 3) := by decide +kernel
theorem dL_law_763 : decode cL_law 763 = .ok (.if_icmp .eq 5, 3) := by decide +kernel
theorem dL_law_766 : decode cL_law 766 = .ok (.iconst 0, 1) := by decide +kernel
theorem dL_law_767 : decode cL_law 767 = .ok (.ireturn, 1) := by decide +kernel
theorem dL_law_768 : decode cL_law 768 = .ok (.iinc 3 6, 3) := by decide +kernel
theorem dL_law_771 : decode cL_law 771 = .ok (.goto (-753), 3) := by decide +kernel
theorem dL_law_774 : decode cL_law 774 = .ok (.iconst 1, 1) := by decide +kernel
theorem dL_law_775 : decode cL_law 775 = .ok (.ireturn, 1) := by decide +kernel
end
section
/-! the world as two maps: M, a method's own cells by their addresses, and F, the frame that it leaves as it is; all lie from S0 on -/
abbrev mp : Type := Nat → Option va_E
abbrev mY : Type := ClassId × ClassId × ClassId × ClassId
abbrev mtys (y : mY) : List (ClassId × FieldType) := [(y.1, .int), (y.2.1, .long), (y.2.2.1, .object RX0), (y.2.2.2, .object RX2)]
abbrev eI (y : mY) (n : Nat) (f : Nat → Int32) : va_E := .inl (y.1, n, .inl f)
abbrev eL (y : mY) (n : Nat) (f : Nat → Int64) : va_E := .inl (y.2.1, n, .inr (.inl f))
abbrev eH (y : mY) (n : Nat) (f : Nat → Option Nat) : va_E := .inl (y.2.2.1, n, .inr (.inr (.inr (.inr f))))
abbrev eT (y : mY) (n : Nat) (f : Nat → Option Nat) : va_E := .inl (y.2.2.2, n, .inr (.inr (.inr (.inr f))))
abbrev eO (ci : Nat) (fs : List Value) : va_E := .inr (ci, fs)
def mnw : List Cond := [.fieldLinkNest "BeadBench" 43 "BeadBench$Holding" "kind" "I" "BeadBench", .fieldLinkNest "BeadBench" 89 "BeadBench$Holding" "size" "I" "BeadBench", .fieldLinkNest "BeadBench" 125 "BeadBench$Holding" "ticketNumber" "I" "BeadBench", .fieldLinkNest "BeadBench" 61 "BeadBench$Holding" "numbers" "[J" "BeadBench", .fieldLinkNest "BeadBench" 73 "BeadBench$Holding" "things" "[LBeadBench$Thing;" "BeadBench", .fieldLinkNest "BeadBench" 122 "BeadBench$Piece" "number" "I" "BeadBench", .fieldLinkNest "BeadBench" 119 "BeadBench$Piece" "gloss" "I" "BeadBench", .methodLinkNest "BeadBench$Holding" 3 yX2_init "BeadBench", .methodLinkNest "BeadBench$Piece" 1 yX2_init "BeadBench", .castable "BeadBench$Piece" "BeadBench$Piece", .castable "BeadBench$Holding" "BeadBench$Thing", .castable "BeadBench$Piece" "BeadBench$Thing", .declares ⟨"BeadBench$Thing", "sortOfThing", "()I"⟩, .declares ⟨"BeadBench$Thing", "count", "()I"⟩, .declares ⟨"BeadBench$Thing", "shine", "()I"⟩]
theorem mnw_tbl : ∀ w ∈ mnw, w ∈ tables_1 := by decide +kernel
def mT (D : va_G) (y : mY) (U : State) : Prop := va_K D vwCl (mtys y) U ∧ (∀ w ∈ mnw, va_Nw w U) ∧ va_Nc RX0 RX1 U ∧ va_AO RX0 U ∧ va_AO RX2 U
theorem mT.warm {D : va_G} {y : mY} {s U : State} (hW : s.WarmedH U.vm) (h : mT D y s) : mT D y U := by
  obtain ⟨h1, h2, h3, h4, h5⟩ := h
  refine ⟨va_K.moved hW.alike h1, ?_, h3.moved hW.alike, h4.moved hW.alike, h5.moved hW.alike⟩
  unfold mnw at h2 ⊢
  simp only [List.forall_mem_cons] at h2 ⊢
  obtain ⟨a1, a2, a3, a4, a5, a6, a7, a8, a9, a10, a11, a12, a13, a14, a15, -⟩ := h2
  exact ⟨a1.warmF hW, a2.warmF hW, a3.warmF hW, a4.warmF hW, a5.warmF hW, a6.warmF hW, a7.warmF hW, a8.warmM hW, a9.warmM hW, a10.warmC hW, a11.warmC hW, a12.warmC hW, a13.warmD hW, a14.warmD hW, a15.warmD hW, fun _ h => absurd h List.not_mem_nil⟩
theorem mT.same {D : va_G} {y : mY} {s U : State} (e : s.vm = U.vm) (h : mT D y s) : mT D y U := by
  obtain ⟨h1, h2, h3, h4, h5⟩ := h
  have hA : s.vm.Alike U.vm := by rw [e]; exact Vm.Alike.refl U.vm
  refine ⟨va_K.moved hA h1, fun w hw => ?_, h3.moved hA, h4.moved hA, h5.moved hA⟩
  have : w.onTables = true := by
    revert w hw
    decide +kernel
  exact (h2 w hw).same this e
def mu (M : mp) (a : Nat) (e : va_E) : mp := fun q => if q = a then some e else M q
theorem mu_s {M : mp} {a : Nat} {e : va_E} : mu M a e a = some e := if_pos rfl
theorem mu_n {M : mp} {a q : Nat} {e : va_E} (h : q ≠ a) : mu M a e q = M q := if_neg h
theorem mu_k {M : mp} {a q : Nat} {e x : va_E} (h : q ≠ a) (hx : M q = some x) : mu M a e q = some x := (mu_n h).trans hx
theorem m_ne {M : mp} {a b : Nat} {x z : va_E} (ha : M a = some x) (hb : M b = some z) (h : x ≠ z) : a ≠ b := fun q => h (Option.some.inj (ha.symm.trans ((congrArg M q).trans hb)))
theorem m_fr {M : mp} {a q : Nat} {x : va_E} (ha : M a = some x) (hq : M q = none) : a ≠ q := fun e => by rw [e, hq] at ha; cases ha
def mw (D : va_G) (S0 : Nat) (M F : mp) (H : Heap) : Prop := ∃ ws : va_W, va_P D vwCl ws H ∧ va_D (fun q => S0 ≤ q) ws ∧ (∀ a e, M a = some e → (a, e) ∈ ws) ∧ (∀ a e, F a = some e → (a, e) ∈ ws) ∧ ∀ a e, M a = some e → F a = none
theorem mw_set {D : va_G} {S0 : Nat} {M F : mp} {H1 : Heap} {ws : va_W} {k a : Nat} {e0 e : va_E} (hP : va_P D vwCl (ws.set k (a, e)) H1) (hD : va_D (fun q => S0 ≤ q) (ws.set k (a, e))) (hk : ws[k]? = some (a, e0)) (hM : ∀ a e, M a = some e → (a, e) ∈ ws) (hF : ∀ a e, F a = some e → (a, e) ∈ ws) (hdj : ∀ a e, M a = some e → F a = none) (ha : M a = some e0) : mw D S0 (mu M a e) F H1 := by
  have keep : ∀ (b : Nat) (x : va_E), b ≠ a → (b, x) ∈ ws → (b, x) ∈ ws.set k (a, e) := by
    intro b x hb hx
    obtain ⟨j, hj⟩ := List.getElem?_of_mem hx
    have hjk : k ≠ j := fun q => hb (by rw [← q, hk] at hj; cases hj; rfl)
    exact List.mem_of_getElem? (i := j) (by rw [List.getElem?_set_ne hjk]; exact hj)
  have hlt : k < ws.length := (List.getElem?_eq_some_iff.mp hk).1
  refine ⟨_, hP, hD, fun b x h => ?_, fun b x h => ?_, fun b x h => ?_⟩
  · by_cases hb : b = a
    · subst hb
      rw [mu_s] at h
      cases h
      exact List.mem_of_getElem? (i := k) (by rw [List.getElem?_set_self hlt])
    · rw [mu_n hb] at h
      exact keep b x hb (hM b x h)
  · have hb : b ≠ a := fun q => by rw [q, hdj a e0 ha] at h; cases h
    exact keep b x hb (hF b x h)
  · by_cases hb : b = a
    · rw [hb]
      exact hdj a e0 ha
    · rw [mu_n hb] at h
      exact hdj b x h
theorem mw_push {D : va_G} {S0 : Nat} {M F : mp} {H1 : Heap} {ws : va_W} {q : Nat} {e : va_E} (hP : va_P D vwCl (ws ++ [(q, e)]) H1) (hD : va_D (fun q => S0 ≤ q) (ws ++ [(q, e)])) (hM : ∀ a e, M a = some e → (a, e) ∈ ws) (hF : ∀ a e, F a = some e → (a, e) ∈ ws) (hdj : ∀ a e, M a = some e → F a = none) : mw D S0 (mu M q e) F H1 ∧ M q = none ∧ F q = none := by
  have hno : ∀ x, (q, x) ∉ ws := by
    intro x hx
    obtain ⟨j, hj⟩ := List.getElem?_of_mem hx
    have hl : j < ws.length := (List.getElem?_eq_some_iff.mp hj).1
    have := hD.1 j ws.length (q, x) (q, e) (by rw [List.getElem?_append_left hl]; exact hj) (by rw [List.getElem?_append_right (Nat.le_refl _)]; simp) rfl
    omega
  have hMq : M q = none := by
    cases h : M q with
    | none => rfl
    | some x => exact absurd (hM q x h) (hno x)
  have hFq : F q = none := by
    cases h : F q with
    | none => rfl
    | some x => exact absurd (hF q x h) (hno x)
  refine ⟨⟨_, hP, hD, fun b x h => ?_, fun b x h => List.mem_append_left _ (hF b x h), fun b x h => ?_⟩, hMq, hFq⟩
  · by_cases hb : b = q
    · subst hb
      rw [mu_s] at h
      cases h
      exact List.mem_append_right _ (List.mem_singleton.mpr rfl)
    · rw [mu_n hb] at h
      exact List.mem_append_left _ (hM b x h)
  · by_cases hb : b = q
    · rw [hb]
      exact hFq
    · rw [mu_n hb] at h
      exact hdj b x h
theorem mw.swap {D : va_G} {S0 : Nat} {M F : mp} {H : Heap} (h : mw D S0 M F H) : mw D S0 F M H := by
  obtain ⟨ws, h1, h2, h3, h4, h5⟩ := h
  refine ⟨ws, h1, h2, h4, h3, fun a e h => ?_⟩
  cases hm : M a with
  | none => rfl
  | some x => rw [h5 a x hm] at h; cases h
def mC (p : Program) (s : State) (m : MethodId) (args : Array Value) (meth : Method) (c : Code) (cc : ByteArray) (nL : Nat) (own : String) (Ts : List Cond) (rt : Option FieldType) (D : va_G) (y : mY) (S0 : Nat) : Prop :=
  p.tables.exec = Jvm.exec ∧ c.code = cc ∧ c.maxLocals = nL ∧ s.vm.findClass own = some m.cls ∧ (∀ w ∈ Ts, w.before args s = true) ∧ meth.sig.returnType = rt ∧ meth.locks = false ∧ mT D y s ∧ S0 ≤ s.heap.size
def mS (D : va_G) (S0 : Nat) (M F : mp) (s : State) (H : Heap) (locs : List Loc) : Prop := mw D S0 M F H ∧ va_S (fun q => S0 ≤ q) s.heap H locs
def mQ (D : va_G) (S0 : Nat) (F : mp) (post : Option Value → mp → Prop) : Array Value → State → Outcome → State → Prop := fun _ st oc t => (∃ (v : Option Value) (M' : mp), oc = .returned v ∧ post v M' ∧ mw D S0 M' F t.heap) ∧ va_F (fun q => S0 ≤ q) st t
/-- a contract: from the map M (beside the frame F) the method returns v, with the map M', 'post v M'' -/
def ct (l : Launch) (yn : MethodName) (ws : List Cond) (fr lo mc ms : Nat) (D : va_G) (y : mY) (S0 : Nat) (M F : mp) (av : List Value) (post : Option Value → mp → Prop) : Prop :=
  Met l yn ws { frames := fr, cells := mc, slots := ms, locals := lo } (va_Pc av (fun U => mw D S0 M F U.heap ∧ mT D y U ∧ S0 ≤ U.heap.size)) (mQ D S0 F post) mc ms (fun q => S0 ≤ q)
theorem ct_of {l : Launch} {yn : MethodName} {ws ws' : List Cond} {fr lo mc ms : Nat} {D : va_G} {y : mY} {S0 : Nat} {M F : mp} {av : List Value} {post : Option Value → mp → Prop} (cc : ByteArray) (maxL : Nat) (ret : Option FieldType) (lv : List (Nat × Value))
    (hy : plainName yn.cls = true) (hw : ws = Cond.code yn cc maxL ret :: ws') (hlen : (lg_sl av).length ≤ maxL) (hlv : lv_args 0 av = lv)
    (body : ∀ (p : Program) (e : Env) (s : State) (m : MethodId) (below : List Frame) (meth : Method) (c : Code) (ls : Array Slot), mC p s m av.toArray meth c cc maxL yn.cls ws ret D y S0 → meth.name = yn.name → lv_has ls maxL lv → mS D S0 M F s s.heap [] →
      W p l e { frames := fr, cells := mc, slots := ms, locals := lo } s m av.toArray below meth c s.heap [] 0 0 (MQ below (mQ D S0 F post) av.toArray s mc ms (fun q => S0 ≤ q)) (F0 m 0 ls [])) :
    ct l yn ws fr lo mc ms D y S0 M F av post := by
  refine Met.ofW (cc := cc) (maxL := maxL) (ret := ret) hy hw ?_
  intro p e s m args below meth c s₁ B hml hv
  obtain ⟨rfl, hm, hT, hsz⟩ := hv
  have hl := lv_entry av (n := maxL) hlen
  rw [lg_entry_eq]
  rw [hlv] at hl
  exact body p e s m below meth c _ ⟨B.exec, B.bytes, hml, findClass_of_methodNamed B.named, atoms_spec (ws := ws) B.pre, B.returns, B.notSynchronized, hT, hsz⟩ (name_of_methodNamed B.named B.method).1 hl ⟨hm, va_S.rf⟩
section MW
variable {p : Program} {l : Launch} {e : Env} {R : Room} {s : State} {m : MethodId} {args : Array Value} {below : List Frame} {meth : Method} {c : Code} {H : Heap} {locs : List Loc} {cells slots : Nat} {Q : State → Prop}
variable {cc : ByteArray} {pc : Nat} {ls : Array Slot} {rest st0 : List Value} {D : va_G} {y : mY} {S0 : Nat} {M F : mp} {nL : Nat} {own : String} {Ts : List Cond} {rt : Option FieldType} {post : Option Value → mp → Prop} {mc ms : Nat}
theorem m_at (w : mS D S0 M F s H locs) {a : Nat} {x : va_E} (ha : M a = some x) : ∃ (ws : va_W) (k : Nat), va_P D vwCl ws H ∧ ws[k]? = some (a, x) := by
  obtain ⟨⟨ws, h1, h2, h3, -⟩, -⟩ := w
  obtain ⟨k, hk⟩ := List.getElem?_of_mem (h3 a x ha)
  exact ⟨ws, k, h1, hk⟩
theorem m_get (C : mC p s m args meth c cc nL own Ts rt D y S0) (w : mS D S0 M F s H locs) {a ci : Nat} {fs : List Value} (ha : M a = some (eO ci fs)) {Cn : String} {T : u_T} {N index : Nat} (hc : vwCl[ci]? = some (Cn, T, N)) (hin : ∀ w ∈ u_ws Cn T N, w ∈ Ts) (k : Nat) (hk : k < N) (hl : Cond.fieldLink own index (T k).1 (T k).2.1 (T k).2.2.1 ∈ Ts) {v : Value} (hv : fs[k]? = some v) (hdg : decode cc pc = .ok (.getfield index, 3))
    (kk : W p l e R s m args below meth c H locs cells slots Q (F0 m (pc + 3) ls (v :: rest))) : W p l e R s m args below meth c H locs cells slots Q (F0 m pc ls (.ref a :: rest)) := by
  obtain ⟨ws, q0, hP, he⟩ := m_at w ha
  exact va_get C.1 C.2.1 C.2.2.2.2.1 hin C.2.2.2.1 C.2.2.2.2.2.2.2.1.1 hP q0 he hc k hk (C.2.2.2.2.1 _ hl) (fun _ h => h) hv hdg kk
theorem m_getN (C : mC p s m args meth c cc nL own Ts rt D y S0) (w : mS D S0 M F s H locs) {a ci : Nat} {fs : List Value} (ha : M a = some (eO ci fs)) {Cn host : String} {T : u_T} {N index : Nat} (hc : vwCl[ci]? = some (Cn, T, N)) (hin : ∀ w ∈ u_ws Cn T N, w ∈ Ts) (k : Nat) (hk : k < N) (hl : Cond.fieldLinkNest own index (T k).1 (T k).2.1 (T k).2.2.1 host ∈ mnw) {v : Value} (hv : fs[k]? = some v) (hdg : decode cc pc = .ok (.getfield index, 3))
    (kk : W p l e R s m args below meth c H locs cells slots Q (F0 m (pc + 3) ls (v :: rest))) : W p l e R s m args below meth c H locs cells slots Q (F0 m pc ls (.ref a :: rest)) := by
  obtain ⟨ws, q0, hP, he⟩ := m_at w ha
  exact va_getN C.1 C.2.1 C.2.2.2.2.1 hin C.2.2.2.1 C.2.2.2.2.2.2.2.1.1 hP q0 he hc k hk (va_Nw.use rfl (C.2.2.2.2.2.2.2.1.2.1 _ hl)) (fun _ h => h) hv hdg kk
theorem m_put (C : mC p s m args meth c cc nL own Ts rt D y S0) (w : mS D S0 M F s H locs) {a ci : Nat} {fs : List Value} (ha : M a = some (eO ci fs)) {Cn : String} {T : u_T} {N index : Nat} (hc : vwCl[ci]? = some (Cn, T, N)) (hin : ∀ w ∈ u_ws Cn T N, w ∈ Ts) (ty0 : Nat → FieldType) (hty : ∀ k, k < N → parseFieldDescriptor (T k).2.2.1 = some (ty0 k)) (hnm : ∀ a, a < N → ∀ b, b < N → a ≠ b → (T a).2.1 ≠ (T b).2.1) (k : Nat) (hk : k < N) (hl : Cond.fieldLink own index (T k).1 (T k).2.1 (T k).2.2.1 ∈ Ts) (hfin : (T k).2.2.2 = false) {ty : FieldType} {v : Value} (hd : parseFieldDescriptor (T k).2.2.1 = some ty) (hn : narrow ty v = v) (hfit : fits ty v = true) (hlen : k < fs.length) (hdg : decode cc pc = .ok (.putfield index, 3))
    (kk : ∀ (H1 : Heap) (locs1 : List Loc), mS D S0 (mu M a (eO ci (fs.set k v))) F s H1 locs1 → W p l e R s m args below meth c H1 locs1 cells slots Q (F0 m (pc + 3) ls rest)) : W p l e R s m args below meth c H locs cells slots Q (F0 m pc ls (v :: .ref a :: rest)) := by
  obtain ⟨⟨ws, hP, hD, hM, hF, hdj⟩, hS⟩ := w
  obtain ⟨q0, he⟩ := List.getElem?_of_mem (hM a _ ha)
  exact va_put C.1 C.2.1 C.2.2.2.2.1 hin ty0 hty hnm C.2.2.2.1 C.2.2.2.2.2.2.2.1.1 hP hD hS q0 he hc k hk (C.2.2.2.2.1 _ hl) (fun _ h => h) hfin hd hn hfit hlen hdg (fun H1 locs1 hP1 hD1 hS1 => kk H1 locs1 ⟨mw_set hP1 hD1 he hM hF hdj ha, hS1⟩)
theorem m_putN (C : mC p s m args meth c cc nL own Ts rt D y S0) (w : mS D S0 M F s H locs) {a ci : Nat} {fs : List Value} (ha : M a = some (eO ci fs)) {Cn host : String} {T : u_T} {N index : Nat} (hc : vwCl[ci]? = some (Cn, T, N)) (hin : ∀ w ∈ u_ws Cn T N, w ∈ Ts) (ty0 : Nat → FieldType) (hty : ∀ k, k < N → parseFieldDescriptor (T k).2.2.1 = some (ty0 k)) (hnm : ∀ a, a < N → ∀ b, b < N → a ≠ b → (T a).2.1 ≠ (T b).2.1) (k : Nat) (hk : k < N) (hl : Cond.fieldLinkNest own index (T k).1 (T k).2.1 (T k).2.2.1 host ∈ mnw) (hfin : (T k).2.2.2 = false) {ty : FieldType} {v : Value} (hd : parseFieldDescriptor (T k).2.2.1 = some ty) (hn : narrow ty v = v) (hfit : fits ty v = true) (hlen : k < fs.length) (hdg : decode cc pc = .ok (.putfield index, 3))
    (kk : ∀ (H1 : Heap) (locs1 : List Loc), mS D S0 (mu M a (eO ci (fs.set k v))) F s H1 locs1 → W p l e R s m args below meth c H1 locs1 cells slots Q (F0 m (pc + 3) ls rest)) : W p l e R s m args below meth c H locs cells slots Q (F0 m pc ls (v :: .ref a :: rest)) := by
  obtain ⟨⟨ws, hP, hD, hM, hF, hdj⟩, hS⟩ := w
  obtain ⟨q0, he⟩ := List.getElem?_of_mem (hM a _ ha)
  exact va_putN C.1 C.2.1 C.2.2.2.2.1 hin ty0 hty hnm C.2.2.2.1 C.2.2.2.2.2.2.2.1.1 hP hD hS q0 he hc k hk (va_Nw.use rfl (C.2.2.2.2.2.2.2.1.2.1 _ hl)) (fun _ h => h) hfin hd hn hfit hlen hdg (fun H1 locs1 hP1 hD1 hS1 => kk H1 locs1 ⟨mw_set hP1 hD1 he hM hF hdj ha, hS1⟩)
theorem m_putF (C : mC p s m args meth c cc nL own Ts rt D y S0) (w : mS D S0 M F s H locs) {a ci : Nat} {fs : List Value} (ha : M a = some (eO ci fs)) {Cn : String} {T : u_T} {N index : Nat} (hc : vwCl[ci]? = some (Cn, T, N)) (hin : ∀ w ∈ u_ws Cn T N, w ∈ Ts) (ty0 : Nat → FieldType) (hty : ∀ k, k < N → parseFieldDescriptor (T k).2.2.1 = some (ty0 k)) (hnm : ∀ a, a < N → ∀ b, b < N → a ≠ b → (T a).2.1 ≠ (T b).2.1) (k : Nat) (hk : k < N) (hl : Cond.fieldLink own index (T k).1 (T k).2.1 (T k).2.2.1 ∈ Ts) (hfin : (T k).2.2.2 = true) (hin2 : meth.name = "<init>") (hdecl : (T k).1 = own) {ty : FieldType} {v : Value} (hd : parseFieldDescriptor (T k).2.2.1 = some ty) (hn : narrow ty v = v) (hfit : fits ty v = true) (hlen : k < fs.length) (hdg : decode cc pc = .ok (.putfield index, 3))
    (kk : ∀ (H1 : Heap) (locs1 : List Loc), mS D S0 (mu M a (eO ci (fs.set k v))) F s H1 locs1 → W p l e R s m args below meth c H1 locs1 cells slots Q (F0 m (pc + 3) ls rest)) : W p l e R s m args below meth c H locs cells slots Q (F0 m pc ls (v :: .ref a :: rest)) := by
  obtain ⟨⟨ws, hP, hD, hM, hF, hdj⟩, hS⟩ := w
  obtain ⟨q0, he⟩ := List.getElem?_of_mem (hM a _ ha)
  exact va_putF C.1 C.2.1 C.2.2.2.2.1 hin ty0 hty hnm C.2.2.2.1 C.2.2.2.2.2.2.2.1.1 hP hD hS q0 he hc k hk (C.2.2.2.2.1 _ hl) (fun _ h => h) hfin hin2 hdecl hd hn hfit hlen hdg (fun H1 locs1 hP1 hD1 hS1 => kk H1 locs1 ⟨mw_set hP1 hD1 he hM hF hdj ha, hS1⟩)
theorem m_iald (C : mC p s m args meth c cc nL own Ts rt D y S0) (w : mS D S0 M F s H locs) {a n : Nat} {f : Nat → Int32} (ha : M a = some (eI y n f)) {i : Int32} (k : Nat) (hi : i = nI k) (hk : k < n) (hn : n < 2 ^ 31) (hdg : decode cc pc = .ok (.iaload, 1))
    (kk : W p l e R s m args below meth c H locs cells slots Q (F0 m (pc + 1) ls (.int (f k) :: rest))) : W p l e R s m args below meth c H locs cells slots Q (F0 m pc ls (.int i :: .ref a :: rest)) := by
  obtain ⟨ws, q0, hP, he⟩ := m_at w ha
  subst hi
  refine va_iald C.1 C.2.1 C.2.2.2.2.2.2.2.1.1 hP q0 0 he rfl (vp_in_nI hk hn) hdg ?_
  rw [nI_clamp (Nat.lt_trans hk hn)]
  exact kk
theorem m_lald (C : mC p s m args meth c cc nL own Ts rt D y S0) (w : mS D S0 M F s H locs) {a n : Nat} {f : Nat → Int64} (ha : M a = some (eL y n f)) {i : Int32} (k : Nat) (hi : i = nI k) (hk : k < n) (hn : n < 2 ^ 31) (hdg : decode cc pc = .ok (.laload, 1))
    (kk : W p l e R s m args below meth c H locs cells slots Q (F0 m (pc + 1) ls (.long (f k) :: rest))) : W p l e R s m args below meth c H locs cells slots Q (F0 m pc ls (.int i :: .ref a :: rest)) := by
  obtain ⟨ws, q0, hP, he⟩ := m_at w ha
  subst hi
  refine va_lald C.1 C.2.1 C.2.2.2.2.2.2.2.1.1 hP q0 1 he rfl (vp_in_nI hk hn) hdg ?_
  rw [nI_clamp (Nat.lt_trans hk hn)]
  exact kk
theorem m_hald (C : mC p s m args meth c cc nL own Ts rt D y S0) (w : mS D S0 M F s H locs) {a n : Nat} {f : Nat → Option Nat} (ha : M a = some (eH y n f)) {i : Int32} (k : Nat) (hi : i = nI k) (hk : k < n) (hn : n < 2 ^ 31) (hdg : decode cc pc = .ok (.aaload, 1))
    (kk : W p l e R s m args below meth c H locs cells slots Q (F0 m (pc + 1) ls (va_rf (f k) :: rest))) : W p l e R s m args below meth c H locs cells slots Q (F0 m pc ls (.int i :: .ref a :: rest)) := by
  obtain ⟨ws, q0, hP, he⟩ := m_at w ha
  subst hi
  refine va_aldq C.1 C.2.1 C.2.2.2.2.2.2.2.1.1 hP q0 2 he rfl (vp_in_nI hk hn) hdg ?_
  rw [nI_clamp (Nat.lt_trans hk hn)]
  exact kk
theorem m_tald (C : mC p s m args meth c cc nL own Ts rt D y S0) (w : mS D S0 M F s H locs) {a n : Nat} {f : Nat → Option Nat} (ha : M a = some (eT y n f)) {i : Int32} (k : Nat) (hi : i = nI k) (hk : k < n) (hn : n < 2 ^ 31) (hdg : decode cc pc = .ok (.aaload, 1))
    (kk : W p l e R s m args below meth c H locs cells slots Q (F0 m (pc + 1) ls (va_rf (f k) :: rest))) : W p l e R s m args below meth c H locs cells slots Q (F0 m pc ls (.int i :: .ref a :: rest)) := by
  obtain ⟨ws, q0, hP, he⟩ := m_at w ha
  subst hi
  refine va_aldq C.1 C.2.1 C.2.2.2.2.2.2.2.1.1 hP q0 3 he rfl (vp_in_nI hk hn) hdg ?_
  rw [nI_clamp (Nat.lt_trans hk hn)]
  exact kk
theorem m_iast (C : mC p s m args meth c cc nL own Ts rt D y S0) (w : mS D S0 M F s H locs) {a n : Nat} {f : Nat → Int32} (ha : M a = some (eI y n f)) {i x : Int32} (k : Nat) (hi : i = nI k) (hk : k < n) (hn : n < 2 ^ 31) (hdg : decode cc pc = .ok (.iastore, 1))
    (kk : ∀ (H1 : Heap) (locs1 : List Loc), mS D S0 (mu M a (eI y n (va_up f k x))) F s H1 locs1 → W p l e R s m args below meth c H1 locs1 cells slots Q (F0 m (pc + 1) ls rest)) : W p l e R s m args below meth c H locs cells slots Q (F0 m pc ls (.int x :: .int i :: .ref a :: rest)) := by
  obtain ⟨⟨ws, hP, hD, hM, hF, hdj⟩, hS⟩ := w
  obtain ⟨q0, he⟩ := List.getElem?_of_mem (hM a _ ha)
  subst hi
  refine va_iast C.1 C.2.1 C.2.2.2.2.2.2.2.1.1 hP hD hS q0 0 he rfl (vp_in_nI hk hn) hdg (fun H1 locs1 hP1 hD1 hS1 => ?_)
  rw [nI_clamp (Nat.lt_trans hk hn)] at hP1 hD1
  exact kk H1 locs1 ⟨mw_set hP1 hD1 he hM hF hdj ha, hS1⟩
theorem m_last (C : mC p s m args meth c cc nL own Ts rt D y S0) (w : mS D S0 M F s H locs) {a n : Nat} {f : Nat → Int64} (ha : M a = some (eL y n f)) {i : Int32} {x : Int64} (k : Nat) (hi : i = nI k) (hk : k < n) (hn : n < 2 ^ 31) (hdg : decode cc pc = .ok (.lastore, 1))
    (kk : ∀ (H1 : Heap) (locs1 : List Loc), mS D S0 (mu M a (eL y n (va_up f k x))) F s H1 locs1 → W p l e R s m args below meth c H1 locs1 cells slots Q (F0 m (pc + 1) ls rest)) : W p l e R s m args below meth c H locs cells slots Q (F0 m pc ls (.long x :: .int i :: .ref a :: rest)) := by
  obtain ⟨⟨ws, hP, hD, hM, hF, hdj⟩, hS⟩ := w
  obtain ⟨q0, he⟩ := List.getElem?_of_mem (hM a _ ha)
  subst hi
  refine va_last C.1 C.2.1 C.2.2.2.2.2.2.2.1.1 hP hD hS q0 1 he rfl (vp_in_nI hk hn) hdg (fun H1 locs1 hP1 hD1 hS1 => ?_)
  rw [nI_clamp (Nat.lt_trans hk hn)] at hP1 hD1
  exact kk H1 locs1 ⟨mw_set hP1 hD1 he hM hF hdj ha, hS1⟩
theorem m_hast (C : mC p s m args meth c cc nL own Ts rt D y S0) (w : mS D S0 M F s H locs) {a n v : Nat} {f : Nat → Option Nat} {vs : List Value} (ha : M a = some (eH y n f)) (hv : M v = some (eO 0 vs)) {i : Int32} (k : Nat) (hi : i = nI k) (hk : k < n) (hn : n < 2 ^ 31) (hdg : decode cc pc = .ok (.aastore, 1))
    (kk : ∀ (H1 : Heap) (locs1 : List Loc), mS D S0 (mu M a (eH y n (va_up f k (some v)))) F s H1 locs1 → W p l e R s m args below meth c H1 locs1 cells slots Q (F0 m (pc + 1) ls rest)) : W p l e R s m args below meth c H locs cells slots Q (F0 m pc ls (.ref v :: .int i :: .ref a :: rest)) := by
  obtain ⟨⟨ws, hP, hD, hM, hF, hdj⟩, hS⟩ := w
  obtain ⟨q0, he⟩ := List.getElem?_of_mem (hM a _ ha)
  obtain ⟨q1, hv1⟩ := List.getElem?_of_mem (hM v _ hv)
  subst hi
  refine va_astq (r := (RX0, TX0, 5)) C.1 C.2.1 C.2.2.2.2.2.2.2.1.1 hP hD hS q0 2 q1 0 he rfl hv1 rfl (vp_in_nI hk hn) hdg (fun H1 locs1 hP1 hD1 hS1 => ?_)
  rw [nI_clamp (Nat.lt_trans hk hn)] at hP1 hD1
  exact kk H1 locs1 ⟨mw_set hP1 hD1 he hM hF hdj ha, hS1⟩
/-- a Thing or null goes into an array of Things -/
theorem m_tast (C : mC p s m args meth c cc nL own Ts rt D y S0) (w : mS D S0 M F s H locs) {a n : Nat} {v : Option Nat} {f : Nat → Option Nat} (ha : M a = some (eT y n f)) (hv : ∀ z, v = some z → (∃ vs, M z = some (eO 0 vs)) ∨ ∃ vs, M z = some (eO 1 vs)) {i : Int32} (k : Nat) (hi : i = nI k) (hk : k < n) (hn : n < 2 ^ 31) (hdg : decode cc pc = .ok (.aastore, 1))
    (kk : ∀ (H1 : Heap) (locs1 : List Loc), mS D S0 (mu M a (eT y n (va_up f k v))) F s H1 locs1 → W p l e R s m args below meth c H1 locs1 cells slots Q (F0 m (pc + 1) ls rest)) : W p l e R s m args below meth c H locs cells slots Q (F0 m pc ls (va_rf v :: .int i :: .ref a :: rest)) := by
  obtain ⟨⟨ws, hP, hD, hM, hF, hdj⟩, hS⟩ := w
  obtain ⟨q0, he⟩ := List.getElem?_of_mem (hM a _ ha)
  have hm := C.2.2.2.2.2.2.2.1.2.1
  subst hi
  cases v with
  | none =>
    refine va_astqN C.1 C.2.1 C.2.2.2.2.2.2.2.1.1 hP hD hS q0 3 he rfl (vp_in_nI hk hn) hdg (fun H1 locs1 hP1 hD1 hS1 => ?_)
    rw [nI_clamp (Nat.lt_trans hk hn)] at hP1 hD1
    exact kk H1 locs1 ⟨mw_set hP1 hD1 he hM hF hdj ha, hS1⟩
  | some z =>
    rcases hv z rfl with ⟨vs, hz⟩ | ⟨vs, hz⟩
    · obtain ⟨q1, hv1⟩ := List.getElem?_of_mem (hM z _ hz)
      refine va_astqO (r := (RX0, TX0, 5)) C.1 C.2.1 C.2.2.2.2.2.2.2.1.1 hP hD hS q0 3 q1 0 he rfl (hm (.castable "BeadBench$Holding" "BeadBench$Thing") (by decide +kernel)) hv1 rfl (vp_in_nI hk hn) hdg (fun H1 locs1 hP1 hD1 hS1 => ?_)
      rw [nI_clamp (Nat.lt_trans hk hn)] at hP1 hD1
      exact kk H1 locs1 ⟨mw_set hP1 hD1 he hM hF hdj ha, hS1⟩
    · obtain ⟨q1, hv1⟩ := List.getElem?_of_mem (hM z _ hz)
      refine va_astqO (r := (RX1, TX1, 3)) C.1 C.2.1 C.2.2.2.2.2.2.2.1.1 hP hD hS q0 3 q1 1 he rfl (hm (.castable "BeadBench$Piece" "BeadBench$Thing") (by decide +kernel)) hv1 rfl (vp_in_nI hk hn) hdg (fun H1 locs1 hP1 hD1 hS1 => ?_)
      rw [nI_clamp (Nat.lt_trans hk hn)] at hP1 hD1
      exact kk H1 locs1 ⟨mw_set hP1 hD1 he hM hF hdj ha, hS1⟩
theorem m_alenI (C : mC p s m args meth c cc nL own Ts rt D y S0) (w : mS D S0 M F s H locs) {a n : Nat} {f : Nat → Int32} (ha : M a = some (eI y n f)) (hdg : decode cc pc = .ok (.arraylength, 1))
    (kk : W p l e R s m args below meth c H locs cells slots Q (F0 m (pc + 1) ls (.int (nI n) :: rest))) : W p l e R s m args below meth c H locs cells slots Q (F0 m pc ls (.ref a :: rest)) := by
  obtain ⟨ws, q0, hP, he⟩ := m_at w ha
  exact va_alen C.1 C.2.1 C.2.2.2.2.2.2.2.1.1 hP q0 0 he rfl rfl hdg kk
theorem m_new (C : mC p s m args meth c cc nL own Ts rt D y S0) (w : mS D S0 M F s H locs) (ci : Nat) {Cn : String} {T : u_T} {N index : Nat} (fs : List Value) (hc : vwCl[ci]? = some (Cn, T, N)) (hin : ∀ w ∈ u_ws Cn T N, w ∈ Ts) (ty : Nat → FieldType) (hty : ∀ k, k < N → parseFieldDescriptor (T k).2.2.1 = some (ty k)) (hcl : Cond.classLink own index Cn ∈ Ts) (hinst : Cond.instantiable Cn N ∈ Ts) (hini : Cond.initialized Cn ∈ Ts) (hfs : ∀ j, j < N → defaultValue (ty j) = vp_V fs j) (hcells : cells + 1 ≤ R.cells) (hslots : slots + N ≤ R.slots) (hdg : decode cc pc = .ok (.new index, 3))
    (kk : ∀ (q : Nat) (H1 : Heap), M q = none → F q = none → mS D S0 (mu M q (eO ci fs)) F s H1 locs → W p l e R s m args below meth c H1 locs (cells + 1) (slots + N) Q (F0 m (pc + 3) ls (.ref q :: rest))) : W p l e R s m args below meth c H locs cells slots Q (F0 m pc ls rest) := by
  obtain ⟨⟨ws, hP, hD, hM, hF, hdj⟩, hS⟩ := w
  refine va_new C.1 C.2.1 C.2.2.2.2.1 hin ty hty C.2.2.2.1 (C.2.2.2.2.1 _ hcl) (C.2.2.2.2.1 _ hinst) (C.2.2.2.2.1 _ hini) C.2.2.2.2.2.2.2.1.1 hP hD hS (fun q h => Nat.le_trans C.2.2.2.2.2.2.2.2 h) hc hfs hcells hslots hdg (fun q H1 hP1 hD1 hS1 => ?_)
  obtain ⟨h1, h2, h3⟩ := mw_push hP1 hD1 hM hF hdj
  exact kk q H1 h2 h3 ⟨h1, hS1⟩
theorem m_newI (C : mC p s m args meth c cc nL own Ts rt D y S0) (w : mS D S0 M F s H locs) (harr : Cond.arrayClass .int ∈ Ts) {n : Int32} (N : Nat) (hn : n = nI N) (hN : N < 2 ^ 27) (hcells : cells + 1 ≤ R.cells) (hslots : slots + N ≤ R.slots) (hdg : decode cc pc = .ok (.newarray .int, 2))
    (kk : ∀ (q : Nat) (H1 : Heap), M q = none → F q = none → mS D S0 (mu M q (eI y N (fun _ => 0))) F s H1 locs → W p l e R s m args below meth c H1 locs (cells + 1) (slots + N) Q (F0 m (pc + 2) ls (.ref q :: rest))) : W p l e R s m args below meth c H locs cells slots Q (F0 m pc ls (.int n :: rest)) := by
  obtain ⟨⟨ws, hP, hD, hM, hF, hdj⟩, hS⟩ := w
  subst hn
  have hK := C.2.2.2.2.2.2.2.1.1
  refine va_newa (atype := .int) (ty := .int) (N' := N) (a0 := (N, .inl (fun _ => 0))) C.1 C.2.1 (C.2.2.2.2.1 _ harr) rfl hK hP hD hS (fun q h => Nat.le_trans C.2.2.2.2.2.2.2.2 h) (fun cA => rfl) (nI_pos (by omega)) (nI_clamp (by omega)) (by show N * 4 ≤ _; omega) hcells hslots hdg (fun q cA H1 hK1 hP1 hD1 hS1 => ?_)
  have e1 : cA = y.1 := Option.some.inj ((hK1.2 4 (cA, .int) rfl).2.symm.trans (hK.2 0 (y.1, .int) rfl).2)
  subst e1
  obtain ⟨h1, h2, h3⟩ := mw_push hP1 hD1 hM hF hdj
  exact kk q H1 h2 h3 ⟨h1, hS1⟩
theorem m_newL (C : mC p s m args meth c cc nL own Ts rt D y S0) (w : mS D S0 M F s H locs) (harr : Cond.arrayClass .long ∈ Ts) {n : Int32} (N : Nat) (hn : n = nI N) (hN : N < 2 ^ 26) (hcells : cells + 1 ≤ R.cells) (hslots : slots + N ≤ R.slots) (hdg : decode cc pc = .ok (.newarray .long, 2))
    (kk : ∀ (q : Nat) (H1 : Heap), M q = none → F q = none → mS D S0 (mu M q (eL y N (fun _ => 0))) F s H1 locs → W p l e R s m args below meth c H1 locs (cells + 1) (slots + N) Q (F0 m (pc + 2) ls (.ref q :: rest))) : W p l e R s m args below meth c H locs cells slots Q (F0 m pc ls (.int n :: rest)) := by
  obtain ⟨⟨ws, hP, hD, hM, hF, hdj⟩, hS⟩ := w
  subst hn
  have hK := C.2.2.2.2.2.2.2.1.1
  refine va_newa (atype := .long) (ty := .long) (N' := N) (a0 := (N, .inr (.inl (fun _ => 0)))) C.1 C.2.1 (C.2.2.2.2.1 _ harr) rfl hK hP hD hS (fun q h => Nat.le_trans C.2.2.2.2.2.2.2.2 h) (fun cA => rfl) (nI_pos (by omega)) (nI_clamp (by omega)) (by show N * 8 ≤ _; omega) hcells hslots hdg (fun q cA H1 hK1 hP1 hD1 hS1 => ?_)
  have e1 : cA = y.2.1 := Option.some.inj ((hK1.2 4 (cA, .long) rfl).2.symm.trans (hK.2 1 (y.2.1, .long) rfl).2)
  subst e1
  obtain ⟨h1, h2, h3⟩ := mw_push hP1 hD1 hM hF hdj
  exact kk q H1 h2 h3 ⟨h1, hS1⟩
theorem m_newH (C : mC p s m args meth c cc nL own Ts rt D y S0) (w : mS D S0 M F s H locs) {index : Nat} (hcl : Cond.classLink own index RX0 ∈ Ts) {n : Int32} (N : Nat) (hn : n = nI N) (hN : N < 2 ^ 27) (hcells : cells + 1 ≤ R.cells) (hslots : slots + N ≤ R.slots) (hdg : decode cc pc = .ok (.anewarray index, 3))
    (kk : ∀ (q : Nat) (H1 : Heap), M q = none → F q = none → mS D S0 (mu M q (eH y N (fun _ => none))) F s H1 locs → W p l e R s m args below meth c H1 locs (cells + 1) (slots + N) Q (F0 m (pc + 3) ls (.ref q :: rest))) : W p l e R s m args below meth c H locs cells slots Q (F0 m pc ls (.int n :: rest)) := by
  obtain ⟨⟨ws, hP, hD, hM, hF, hdj⟩, hS⟩ := w
  subst hn
  have hK := C.2.2.2.2.2.2.2.1.1
  refine va_newq (N' := N) C.1 C.2.1 C.2.2.2.1 (C.2.2.2.2.1 _ hcl) C.2.2.2.2.2.2.2.1.2.2.2.1 hK hP hD hS (fun q h => Nat.le_trans C.2.2.2.2.2.2.2.2 h) (nI_pos (by omega)) (nI_clamp (by omega)) (by omega) hcells hslots hdg (fun q cA H1 hK1 hP1 hD1 hS1 => ?_)
  obtain ⟨_, _, _, _, _, k4⟩ := (hK1.2 4 (cA, .object RX0) rfl).2
  obtain ⟨_, _, _, _, _, k5⟩ := (hK.2 2 (y.2.2.1, .object RX0) rfl).2
  have e1 : cA = y.2.2.1 := Option.some.inj (k4.symm.trans k5)
  subst e1
  obtain ⟨h1, h2, h3⟩ := mw_push hP1 hD1 hM hF hdj
  exact kk q H1 h2 h3 ⟨h1, hS1⟩
theorem m_newT (C : mC p s m args meth c cc nL own Ts rt D y S0) (w : mS D S0 M F s H locs) {index : Nat} (hcl : Cond.classLink own index RX2 ∈ Ts) {n : Int32} (N : Nat) (hn : n = nI N) (hN : N < 2 ^ 27) (hcells : cells + 1 ≤ R.cells) (hslots : slots + N ≤ R.slots) (hdg : decode cc pc = .ok (.anewarray index, 3))
    (kk : ∀ (q : Nat) (H1 : Heap), M q = none → F q = none → mS D S0 (mu M q (eT y N (fun _ => none))) F s H1 locs → W p l e R s m args below meth c H1 locs (cells + 1) (slots + N) Q (F0 m (pc + 3) ls (.ref q :: rest))) : W p l e R s m args below meth c H locs cells slots Q (F0 m pc ls (.int n :: rest)) := by
  obtain ⟨⟨ws, hP, hD, hM, hF, hdj⟩, hS⟩ := w
  subst hn
  have hK := C.2.2.2.2.2.2.2.1.1
  refine va_newq (N' := N) C.1 C.2.1 C.2.2.2.1 (C.2.2.2.2.1 _ hcl) C.2.2.2.2.2.2.2.1.2.2.2.2 hK hP hD hS (fun q h => Nat.le_trans C.2.2.2.2.2.2.2.2 h) (nI_pos (by omega)) (nI_clamp (by omega)) (by omega) hcells hslots hdg (fun q cA H1 hK1 hP1 hD1 hS1 => ?_)
  obtain ⟨_, _, _, _, _, k4⟩ := (hK1.2 4 (cA, .object RX2) rfl).2
  obtain ⟨_, _, _, _, _, k5⟩ := (hK.2 3 (y.2.2.2, .object RX2) rfl).2
  have e1 : cA = y.2.2.2 := Option.some.inj (k4.symm.trans k5)
  subst e1
  obtain ⟨h1, h2, h3⟩ := mw_push hP1 hD1 hM hF hdj
  exact kk q H1 h2 h3 ⟨h1, hS1⟩
/-! ends -/
theorem m_mq (w : mS D S0 M F s H locs) {v : Option Value} (hp : post v M) (t : State) (ht : t.heap = H) : mQ D S0 F post args s (.returned v) t := ⟨⟨v, M, rfl, hp, by rw [ht]; exact w.1⟩, w.2.F ht⟩
theorem m_iret (C : mC p s m args meth c cc nL own Ts (some .int) D y S0) (w : mS D S0 M F s H locs) {v : Int32} (hdg : decode cc pc = .ok (.ireturn, 1)) (hc : cells ≤ mc) (hs : slots ≤ ms) (hp : post (some (.int v)) M) : W p l e R s m args below meth c H locs cells slots (MQ below (mQ D S0 F post) args s mc ms (fun q => S0 ≤ q)) (F0 m pc ls [.int v]) :=
  W.widen hc hs (W.iret C.1 C.2.1 C.2.2.2.2.2.1 (fun t ht _ => m_mq w hp t ht) w.2.2.2 hdg C.2.2.2.2.2.2.1)
theorem m_zret (C : mC p s m args meth c cc nL own Ts (some .boolean) D y S0) (w : mS D S0 M F s H locs) {v : Int32} (hdg : decode cc pc = .ok (.ireturn, 1)) (hc : cells ≤ mc) (hs : slots ≤ ms) (hz : v = 0 ∨ v = 1) (hp : post (some (.int v)) M) : W p l e R s m args below meth c H locs cells slots (MQ below (mQ D S0 F post) args s mc ms (fun q => S0 ≤ q)) (F0 m pc ls [.int v]) :=
  W.widen hc hs (W.zret C.1 C.2.1 C.2.2.2.2.2.1 (by rcases hz with rfl | rfl <;> rfl) (fun t ht _ => m_mq w hp t ht) w.2.2.2 hdg C.2.2.2.2.2.2.1)
theorem m_lret (C : mC p s m args meth c cc nL own Ts (some .long) D y S0) (w : mS D S0 M F s H locs) {v : Int64} (hdg : decode cc pc = .ok (.lreturn, 1)) (hc : cells ≤ mc) (hs : slots ≤ ms) (hp : post (some (.long v)) M) : W p l e R s m args below meth c H locs cells slots (MQ below (mQ D S0 F post) args s mc ms (fun q => S0 ≤ q)) (F0 m pc ls [.long v]) :=
  W.widen hc hs (W.lret C.1 C.2.1 C.2.2.2.2.2.1 (fun t ht _ => m_mq w hp t ht) w.2.2.2 hdg C.2.2.2.2.2.2.1)
theorem m_vret (C : mC p s m args meth c cc nL own Ts none D y S0) (w : mS D S0 M F s H locs) (hdg : decode cc pc = .ok (.return_, 1)) (hc : cells ≤ mc) (hs : slots ≤ ms) (hp : post none M) : W p l e R s m args below meth c H locs cells slots (MQ below (mQ D S0 F post) args s mc ms (fun q => S0 ≤ q)) (F0 m pc ls []) :=
  W.widen hc hs (W.vret C.1 C.2.1 C.2.2.2.2.2.1 (fun t ht _ => m_mq w hp t ht) w.2.2.2 hdg C.2.2.2.2.2.2.1)
theorem m_aret {cn : String} (C : mC p s m args meth c cc nL own Ts (some (.object cn)) D y S0) (w : mS D S0 M F s H locs) {v : Option Nat} (hdg : decode cc pc = .ok (.areturn, 1)) (hc : cells ≤ mc) (hs : slots ≤ ms) (hp : post (some (va_rf v)) M) : W p l e R s m args below meth c H locs cells slots (MQ below (mQ D S0 F post) args s mc ms (fun q => S0 ≤ q)) (F0 m pc ls [va_rf v]) :=
  W.widen hc hs (W.aret C.1 C.2.1 C.2.2.2.2.2.1 (Or.inl ⟨_, rfl⟩) (by cases v with
    | none => exact Or.inl rfl
    | some a => exact Or.inr ⟨a, rfl⟩) (fun t ht _ => m_mq w hp t ht) w.2.2.2 hdg C.2.2.2.2.2.2.1)
/-! calls -/
theorem m_call {av : Array Value} (hr : va_Run p l e R s m args below meth c H locs cells slots mc ms (F0 m pc ls st0) rest (mQ D S0 F post av) (fun q => S0 ≤ q)) (w : mS D S0 M F s H locs)
    (kk : ∀ (v : Option Value) (M' : mp) (H1 : Heap) (locs1 : List Loc), post v M' → mS D S0 M' F s H1 locs1 → W p l e R s m args below meth c H1 locs1 (cells + mc) (slots + ms) Q (F0 m (pc + 3) ls (v.toList ++ rest))) : W p l e R s m args below meth c H locs cells slots Q (F0 m pc ls st0) := by
  intro T hT X
  obtain ⟨v, st₀, t, T', L, h0, X', hL, e1, e2, ⟨⟨v', M', hv, hp, hb⟩, hz, hk⟩, st⟩ := hr T hT X
  cases hv
  rw [h0] at hz hk
  obtain ⟨t2, a1, b1⟩ := kk v M' T'.heap (locs ++ L) hp ⟨by rw [e1]; exact hb, ⟨Nat.le_trans w.2.1 (by rw [e1]; exact hz), fun q h1 h2 => by rw [e1, hk q (Nat.lt_of_lt_of_le h1 w.2.1) h2]; exact w.2.2.1 q h1 h2, fun q hq => by
      rcases List.mem_append.mp hq with h | h
      · exact w.2.2.2 q h
      · exact hL q h⟩⟩ T' rfl X'
  exact ⟨t2, st t2 a1, b1⟩
theorem m_blind {av : List Value} : FrameBlind (va_Pc av (fun U => mw D S0 M F U.heap ∧ mT D y U ∧ S0 ≤ U.heap.size)) := fun _ U _ _ h => ⟨h.1, h.2.1, mT.same (s := U) rfl h.2.2.1, h.2.2.2⟩
theorem m_pre {av : List Value} (C : mC p s m args meth c cc nL own Ts rt D y S0) (w : mS D S0 M F s H locs) : ∀ U : State, U.heap = H → s.WarmedH U.vm → va_Pc av (fun U => mw D S0 M F U.heap ∧ mT D y U ∧ S0 ≤ U.heap.size) av.toArray U :=
  fun U hU hW => ⟨rfl, by rw [hU]; exact w.1, C.2.2.2.2.2.2.2.1.warm hW, by rw [hU]; exact Nat.le_trans C.2.2.2.2.2.2.2.2 w.2.1⟩
theorem m_recv (C : mC p s m args meth c cc nL own Ts rt D y S0) (w : mS D S0 M F s H locs) {b ci N : Nat} {fs : List Value} {Cn : String} {T : u_T} (hb : M b = some (eO ci fs)) (hc : vwCl[ci]? = some (Cn, T, N)) : ∃ cell : Cell, H[b]? = some cell ∧ cell.vm.isStatics = false ∧ s.vm.findClass Cn = some cell.cls := by
  obtain ⟨ws, q0, hP, he⟩ := m_at w hb
  exact va_recv (q := (Cn, T, N)) C.2.2.2.2.2.2.2.1.1 hP hc he
theorem m_callV (C : mC p s m args meth c cc nL own Ts rt D y S0) (w : mS D S0 M F s H locs) (hls : ls.size = nL) {yn : MethodName} {ws ws' : List Cond} {fr lo b index maxL : Nat} {bytes : ByteArray} {ret : Option FieldType} {As : List Value} {Cn : String} {ci N : Nat} {fs : List Value} {T : u_T} (hct : ct l yn ws fr lo mc ms D y S0 M F (.ref b :: As) post) (hG : GoodIn Ts (wsV own index Cn yn ws)) (hw : ws = Cond.code yn bytes maxL ret :: ws') (hrec : M b = some (eO ci fs)) (hci : vwCl[ci]? = some (Cn, T, N))
    (hd : yn.cls = Cn ∧ yn.cls ≠ "java/lang/invoke/MethodHandle" ∧ yn.cls ≠ "java/lang/invoke/VarHandle" ∧ (parseMethodDescriptor yn.desc).map (fun d => d.parameters.length) = some As.length) (hR : fr + 1 ≤ R.frames ∧ 8 + (maxL + 11) + lo ≤ R.locals) (hst : st0 = As.reverse ++ .ref b :: rest) (hrm : (rest.map fun v => v.category).sum ≤ 8) (hdg : decode cc pc = .ok (.invokevirtual index, 3)) (hf : cells + mc ≤ R.cells ∧ slots + ms ≤ R.slots)
    (kk : ∀ (v : Option Value) (M' : mp) (H1 : Heap) (locs1 : List Loc), post v M' → mS D S0 M' F s H1 locs1 → W p l e R s m args below meth c H1 locs1 (cells + mc) (slots + ms) Q (F0 m (pc + 3) ls (v.toList ++ rest))) : W p l e R s m args below meth c H locs cells slots Q (F0 m pc ls st0) :=
  m_call (va_runV (As := As) (rest := rest) (nL := nL) ⟨C.1, C.2.1, C.2.2.1, C.2.2.2.1, C.2.2.2.2.1⟩ hct (cwV As.length C.2.2.2.2.1 hG hw rfl rfl hd hR) ⟨m_blind, m_recv C w hrec hci, m_pre C w⟩ rfl rfl hls hst (lv_room hrm) hdg hf) w kk
theorem m_callU (C : mC p s m args meth c cc nL own Ts rt D y S0) (w : mS D S0 M F s H locs) (hls : ls.size = nL) {x yn : MethodName} {ws : List Cond} {fr lo b index maxL : Nat} {bytes : ByteArray} {ret : Option FieldType} {As : List Value} {Cn owner : String} {ci N : Nat} {fs : List Value} {T : u_T} (hct : ct l yn ws fr lo mc ms D y S0 M F (.ref b :: As) post) (hCU : va_CU R s args own Cn owner index x yn bytes maxL ret ws { frames := fr, cells := mc, slots := ms, locals := lo } mc ms As.length) (hrec : M b = some (eO ci fs)) (hci : vwCl[ci]? = some (Cn, T, N))
    (hst : st0 = As.reverse ++ .ref b :: rest) (hrm : (rest.map fun v => v.category).sum ≤ 8) (hdg : decode cc pc = .ok (.invokevirtual index, 3)) (hf : cells + mc ≤ R.cells ∧ slots + ms ≤ R.slots)
    (kk : ∀ (v : Option Value) (M' : mp) (H1 : Heap) (locs1 : List Loc), post v M' → mS D S0 M' F s H1 locs1 → W p l e R s m args below meth c H1 locs1 (cells + mc) (slots + ms) Q (F0 m (pc + 3) ls (v.toList ++ rest))) : W p l e R s m args below meth c H locs cells slots Q (F0 m pc ls st0) :=
  m_call (va_runU (As := As) (rest := rest) (nL := nL) ⟨C.1, C.2.1, C.2.2.1, C.2.2.2.1, C.2.2.2.2.1⟩ hct hCU ⟨m_blind, m_recv C w hrec hci, m_pre C w⟩ rfl rfl hls hst (lv_room hrm) hdg hf) w kk
theorem m_callS (C : mC p s m args meth c cc nL own Ts rt D y S0) (w : mS D S0 M F s H locs) (hls : ls.size = nL) {yn : MethodName} {ws ws' : List Cond} {fr lo index maxL : Nat} {bytes : ByteArray} {ret : Option FieldType} {As : List Value} (hct : ct l yn ws fr lo mc ms D y S0 M F As post) (hG : GoodIn Ts ws) (hw : ws = Cond.code yn bytes maxL ret :: ws') (hini : Cond.initialized yn.cls ∈ Ts) (hlk : Cond.methodLink own index yn ∈ Ts) (hstt : Cond.static yn ∈ Ts)
    (hd : yn.cls ≠ "java/lang/invoke/MethodHandle" ∧ yn.cls ≠ "java/lang/invoke/VarHandle" ∧ (parseMethodDescriptor yn.desc).map (fun d => d.parameters.length) = some As.length) (hR : fr + 1 ≤ R.frames ∧ 8 + (maxL + 11) + lo ≤ R.locals) (hst : st0 = As.reverse ++ rest) (hrm : (rest.map fun v => v.category).sum ≤ 8) (hdg : decode cc pc = .ok (.invokestatic index, 3)) (hf : cells + mc ≤ R.cells ∧ slots + ms ≤ R.slots)
    (kk : ∀ (v : Option Value) (M' : mp) (H1 : Heap) (locs1 : List Loc), post v M' → mS D S0 M' F s H1 locs1 → W p l e R s m args below meth c H1 locs1 (cells + mc) (slots + ms) Q (F0 m (pc + 3) ls (v.toList ++ rest))) : W p l e R s m args below meth c H locs cells slots Q (F0 m pc ls st0) :=
  m_call (va_runS (As := As) (rest := rest) (nL := nL) ⟨C.1, C.2.1, C.2.2.1, C.2.2.2.1, C.2.2.2.2.1⟩ hct ⟨callB_of As.length C.2.2.2.2.1 hG hw rfl rfl (C.2.2.2.2.1 _ hini) (C.2.2.2.2.1 _ hlk) hd hR, C.2.2.2.2.1 _ hstt⟩ ⟨m_blind, m_pre C w⟩ rfl rfl hls hst (lv_room hrm) hdg hf) w kk
theorem m_callI (C : mC p s m args meth c cc nL own Ts rt D y S0) (w : mS D S0 M F s H locs) (hls : ls.size = nL) {yn : MethodName} {ws ws' : List Cond} {fr lo b index maxL : Nat} {bytes : ByteArray} {As : List Value} (hct : ct l yn ws fr lo mc ms D y S0 M F (.ref b :: As) post) (hG : GoodIn Ts ws) (hw : ws = Cond.code yn bytes maxL none :: ws') (hini : Cond.initialized yn.cls ∈ Ts) (hlk : Cond.methodLink own index yn ∈ Ts) (hins : Cond.instanceMethod yn ∈ Ts) (hy1 : yn.name = "<init>")
    (hd : yn.cls ≠ "java/lang/invoke/MethodHandle" ∧ yn.cls ≠ "java/lang/invoke/VarHandle" ∧ (parseMethodDescriptor yn.desc).map (fun d => d.parameters.length) = some As.length) (hR : fr + 1 ≤ R.frames ∧ 8 + (maxL + 11) + lo ≤ R.locals) (hst : st0 = As.reverse ++ .ref b :: rest) (hrm : (rest.map fun v => v.category).sum ≤ 8) (hdg : decode cc pc = .ok (.invokespecial index, 3)) (hf : cells + mc ≤ R.cells ∧ slots + ms ≤ R.slots)
    (kk : ∀ (v : Option Value) (M' : mp) (H1 : Heap) (locs1 : List Loc), post v M' → mS D S0 M' F s H1 locs1 → W p l e R s m args below meth c H1 locs1 (cells + mc) (slots + ms) Q (F0 m (pc + 3) ls (v.toList ++ rest))) : W p l e R s m args below meth c H locs cells slots Q (F0 m pc ls st0) :=
  m_call (va_runI (As := As) (rest := rest) (nL := nL) ⟨C.1, C.2.1, C.2.2.1, C.2.2.2.1, C.2.2.2.2.1⟩ hct (cwI As.length C.2.2.2.2.1 hG hw rfl rfl (C.2.2.2.2.1 _ hini) (C.2.2.2.2.1 _ hlk) (C.2.2.2.2.1 _ hins) hy1 hd hR) ⟨m_blind, m_pre C w⟩ rfl rfl hls hst (lv_room hrm) hdg hf) w kk
theorem m_callIN (C : mC p s m args meth c cc nL own Ts rt D y S0) (w : mS D S0 M F s H locs) (hls : ls.size = nL) {yn : MethodName} {ws ws' : List Cond} {fr lo b index maxL : Nat} {bytes : ByteArray} {host : String} {As : List Value} (hct : ct l yn ws fr lo mc ms D y S0 M F (.ref b :: As) post) (hG : GoodIn Ts ws) (hw : ws = Cond.code yn bytes maxL none :: ws') (hini : Cond.initialized yn.cls ∈ Ts) (hlk : Cond.methodLinkNest own index yn host ∈ mnw) (hins : Cond.instanceMethod yn ∈ Ts) (hy1 : yn.name = "<init>")
    (hd : yn.cls ≠ "java/lang/invoke/MethodHandle" ∧ yn.cls ≠ "java/lang/invoke/VarHandle" ∧ (parseMethodDescriptor yn.desc).map (fun d => d.parameters.length) = some As.length) (hR : fr + 1 ≤ R.frames ∧ 8 + (maxL + 11) + lo ≤ R.locals) (hst : st0 = As.reverse ++ .ref b :: rest) (hrm : (rest.map fun v => v.category).sum ≤ 8) (hdg : decode cc pc = .ok (.invokespecial index, 3)) (hf : cells + mc ≤ R.cells ∧ slots + ms ≤ R.slots)
    (kk : ∀ (v : Option Value) (M' : mp) (H1 : Heap) (locs1 : List Loc), post v M' → mS D S0 M' F s H1 locs1 → W p l e R s m args below meth c H1 locs1 (cells + mc) (slots + ms) Q (F0 m (pc + 3) ls (v.toList ++ rest))) : W p l e R s m args below meth c H locs cells slots Q (F0 m pc ls st0) :=
  m_call (va_runIN (As := As) (rest := rest) (nL := nL) ⟨C.1, C.2.1, C.2.2.1, C.2.2.2.1, C.2.2.2.2.1⟩ hct ⟨va_cnB As.length C.2.2.2.2.1 hG hw rfl rfl (C.2.2.2.2.2.2.2.1.2.1 _ hlk) (C.2.2.2.2.1 _ hini) hd hR, hy1, C.2.2.2.2.1 _ hins⟩ ⟨m_blind, m_pre C w⟩ rfl rfl hls hst (lv_room hrm) hdg hf) w kk
end MW
end
section
/-! small words: truth as an int, rows that name a top of the stack, what a place of the map is not -/
def bI (b : Bool) : Int32 := if b then 1 else 0
theorem bI_t {b : Bool} (h : ¬ bI b = 0) : b = true := by
  cases b
  · exact absurd rfl h
  · rfl
theorem bI_f {b : Bool} (h : bI b = 0) : b = false := by
  cases b
  · rfl
  · exact absurd h (by decide)
theorem bI_or (b : Bool) : bI b = 0 ∨ bI b = 1 := by
  cases b
  · exact Or.inl rfl
  · exact Or.inr rfl
theorem ne_LT {y : mY} {n k : Nat} {f : Nat → Int64} {g : Nat → Option Nat} : eL y n f ≠ eT y k g := by simp
theorem ne_LH {y : mY} {n k : Nat} {f : Nat → Int64} {g : Nat → Option Nat} : eL y n f ≠ eH y k g := by simp
theorem ne_LI {y : mY} {n k : Nat} {f : Nat → Int64} {g : Nat → Int32} : eL y n f ≠ eI y k g := by simp
theorem ne_IT {y : mY} {n k : Nat} {f : Nat → Int32} {g : Nat → Option Nat} : eI y n f ≠ eT y k g := by simp
theorem ne_IH {y : mY} {n k : Nat} {f : Nat → Int32} {g : Nat → Option Nat} : eI y n f ≠ eH y k g := by simp
theorem ne_IL {y : mY} {n k : Nat} {f : Nat → Int32} {g : Nat → Int64} : eI y n f ≠ eL y k g := by simp
theorem ne_TL {y : mY} {n k : Nat} {f : Nat → Int64} {g : Nat → Option Nat} : eT y k g ≠ eL y n f := by simp
theorem ne_HL {y : mY} {n k : Nat} {f : Nat → Int64} {g : Nat → Option Nat} : eH y k g ≠ eL y n f := by simp
theorem ne_TI {y : mY} {n k : Nat} {f : Nat → Int32} {g : Nat → Option Nat} : eT y k g ≠ eI y n f := by simp
theorem ne_HI {y : mY} {n k : Nat} {f : Nat → Int32} {g : Nat → Option Nat} : eH y k g ≠ eI y n f := by simp
theorem ne_OA {ci : Nat} {fs : List Value} {x : ClassId × vp_A} : eO ci fs ≠ (.inl x : va_E) := by simp
theorem ne_AO {ci : Nat} {fs : List Value} {x : ClassId × vp_A} : (.inl x : va_E) ≠ eO ci fs := by simp
section MQ7
variable {p : Program} {l : Launch} {e : Env} {R : Room} {s : State} {m : MethodId} {args : Array Value} {below : List Frame} {meth : Method} {c : Code} {H : Heap} {locs : List Loc} {cells slots : Nat} {Q : State → Prop}
variable {cc : ByteArray} {pc : Nat} {ls : Array Slot} {rest : List Value}
theorem m_topi {x y : Int32} (h : x = y) (k : W p l e R s m args below meth c H locs cells slots Q (F0 m pc ls (.int y :: rest))) : W p l e R s m args below meth c H locs cells slots Q (F0 m pc ls (.int x :: rest)) := by
  rw [h]
  exact k
theorem m_topl {x y : Int64} (h : x = y) (k : W p l e R s m args below meth c H locs cells slots Q (F0 m pc ls (.long y :: rest))) : W p l e R s m args below meth c H locs cells slots Q (F0 m pc ls (.long x :: rest)) := by
  rw [h]
  exact k
theorem m_topq {x y : Option Nat} (h : x = y) (k : W p l e R s m args below meth c H locs cells slots Q (F0 m pc ls (va_rf y :: rest))) : W p l e R s m args below meth c H locs cells slots Q (F0 m pc ls (va_rf x :: rest)) := by
  rw [h]
  exact k
theorem mq_aload_n (hexec : p.tables.exec = Jvm.exec) (hb : c.code = cc) {k : Fin 4} {i : Nat} {x : Option Nat} (hdg : decode cc pc = .ok (.aload_n k, 1)) (hi : (k : Nat) = i) (hl : ls[i]? = some (.val (va_rf x)))
    (kk : W p l e R s m args below meth c H locs cells slots Q (F0 m (pc + 1) ls (va_rf x :: rest))) : W p l e R s m args below meth c H locs cells slots Q (F0 m pc ls rest) := by
  cases x with
  | none => exact lv_aload_nN hexec hb hdg hi hl kk
  | some a => exact lv_aload_n hexec hb hdg hi hl kk
theorem mq_aload (hexec : p.tables.exec = Jvm.exec) (hb : c.code = cc) {i : Nat} {x : Option Nat} (hdg : decode cc pc = .ok (.aload i, 2)) (hl : ls[i]? = some (.val (va_rf x)))
    (kk : W p l e R s m args below meth c H locs cells slots Q (F0 m (pc + 2) ls (va_rf x :: rest))) : W p l e R s m args below meth c H locs cells slots Q (F0 m pc ls rest) := by
  cases x with
  | none => exact lv_aloadN hexec hb hdg hl kk
  | some a => exact lv_aload hexec hb hdg hl kk
theorem mq_astore_n (hexec : p.tables.exec = Jvm.exec) (hb : c.code = cc) {k : Fin 4} {i nL : Nat} {x : Option Nat} {lv lv' : List (Nat × Value)} (hdg : decode cc pc = .ok (.astore_n k, 1)) (hi : (k : Nat) = i) (h : lv_has ls nL lv) (hn : i < nL) (hl : (i, va_rf x) :: lv.filter (fun q => !(q.1 == i) && !(q.1 + 1 == i && q.2.category == 2)) = lv')
    (kk : ∀ ls : Array Slot, lv_has ls nL lv' → W p l e R s m args below meth c H locs cells slots Q (F0 m (pc + 1) ls rest)) : W p l e R s m args below meth c H locs cells slots Q (F0 m pc ls (va_rf x :: rest)) := by
  cases x with
  | none => exact lv_astore_nN hexec hb hdg hi h hn hl kk
  | some a => exact lv_astore_n hexec hb hdg hi h hn hl kk
theorem mq_astore (hexec : p.tables.exec = Jvm.exec) (hb : c.code = cc) {i nL : Nat} {x : Option Nat} {lv lv' : List (Nat × Value)} (hdg : decode cc pc = .ok (.astore i, 2)) (h : lv_has ls nL lv) (hn : i < nL) (hl : (i, va_rf x) :: lv.filter (fun q => !(q.1 == i) && !(q.1 + 1 == i && q.2.category == 2)) = lv')
    (kk : ∀ ls : Array Slot, lv_has ls nL lv' → W p l e R s m args below meth c H locs cells slots Q (F0 m (pc + 2) ls rest)) : W p l e R s m args below meth c H locs cells slots Q (F0 m pc ls (va_rf x :: rest)) := by
  cases x with
  | none => exact lv_astoreN hexec hb hdg h hn hl kk
  | some a => exact lv_astore hexec hb hdg h hn hl kk
end MQ7
/-! the words of the class -/
abbrev hF (k n : Nat) (t : Int32) (na ta : Nat) : List Value := [.int (nI k), .int (nI n), .int t, .ref na, .ref ta]
def fR (k : Nat) : Int32 := if k = 0 then -1 else if k = 1 then -2 else 0
def isN (k : Nat) : Bool := decide (2 ≤ k) && decide (k ≤ 9)
def inP (i : Int32) (n : Nat) : Bool := !decide (i < 0) && !decide (nI n ≤ i)
def hpl (a b : Int32) (n : Nat) : Bool := !decide (a < 0) && (!decide (b < 0) && !decide (lN n < a.toInt64 + b.toInt64))
def acc (k : Nat) (so : Option Nat) : Bool := match so with
  | none => true
  | some s => if k = 10 then !decide (s = 6) else if k = 11 then decide (s = 3) else if k = 12 then decide (s = 4) || decide (s = 5) else if k = 13 then decide (s = 6) else false
/-- what lies at a place: nothing, a Holding (sort 6), or a Piece of a sort -/
def thS (M : mp) (o so : Option Nat) : Prop := (o = none ∧ so = none) ∨ ∃ z s, o = some z ∧ so = some s ∧ ((s = 6 ∧ ∃ fs, M z = some (eO 0 fs)) ∨ ∃ a b, s < 6 ∧ M z = some (eO 1 [.int (nI s), a, b]))
theorem inP_t {i : Int32} {n : Nat} (hn : n < 2 ^ 31) (h : inP i n = true) : ∃ j, j < n ∧ i = nI j := by
  unfold inP at h
  simp only [Bool.and_eq_true, Bool.not_eq_true', decide_eq_false_iff_not] at h
  rcases pk_ix i hn with q | q | q
  · exact absurd q h.1
  · exact absurd q h.2
  · exact q
theorem inP_nI {j n : Nat} (hj : j < n) (hn : n < 2 ^ 31) : inP (nI j) n = true := by
  unfold inP
  simp [nI_pos (Nat.lt_trans hj hn), nI_ge hj hn]
end
section
set_option maxRecDepth 100000 in
set_option maxHeartbeats 4000000 in
/-- Thing(): nothing -/
theorem c_Thing_init (l : Launch) (D : va_G) (y : mY) (S0 : Nat) (M F : mp) (h : Nat) : ct l yX2_init wsX2_init 1 12 0 0 D y S0 M F [.ref h] (fun v M' => v = none ∧ M' = M) := by
  refine ct_of cX2_init 1 none [(0, .ref h)] (by decide +kernel) rfl (Nat.le_of_ble_eq_true rfl) rfl ?_
  intro p e s m below meth c ls C hnm hl w
  have hx := C.1
  have hb := C.2.1
  refine lv_aload_n hx hb dX2_init_0 rfl (lv_at hl 0 rfl) ?_
  refine W.objInit hx hb C.2.2.2.1 (C.2.2.2.2.1 (.methodLink RX2 1 objectInit) (by decide +kernel)) (C.2.2.2.2.1 (.instanceMethod objectInit) (by decide +kernel)) (C.2.2.2.2.1 _ (by unfold wsX2_init; exact List.mem_of_getElem? (i := 3) rfl)) rfl (by rw [C.2.2.1]; exact hl.1) rfl dX2_init_1 (Nat.le_of_ble_eq_true rfl) (Nat.le_of_ble_eq_true rfl) ?_
  refine W.eq (g2 := F0 m 4 ls []) rfl ?_
  exact m_vret C w dX2_init_4 (by omega) (by omega) (⟨rfl, rfl⟩)
set_option maxRecDepth 100000 in
set_option maxHeartbeats 4000000 in
/-- a row's sort: 6 -/
theorem c_Hold_sort (l : Launch) (D : va_G) (y : mY) (S0 : Nat) (M F : mp) (h : Nat) : ct l yX0_sortOfThing wsX0_sortOfThing 0 0 0 0 D y S0 M F [.ref h] (fun v M' => v = some (.int 6) ∧ M' = M) := by
  refine ct_of cX0_sortOfThing 1 (some .int) [(0, .ref h)] (by decide +kernel) rfl (Nat.le_of_ble_eq_true rfl) rfl ?_
  intro p e s m below meth c ls C hnm hl w
  have hx := C.1
  have hb := C.2.1
  refine lv_bipush (v := 6) hx hb dX0_sortOfThing_0 (by decide) ?_
  exact m_iret C w dX0_sortOfThing_2 (by omega) (by omega) (⟨rfl, rfl⟩)
set_option maxRecDepth 100000 in
set_option maxHeartbeats 4000000 in
theorem c_Hold_count (l : Launch) (D : va_G) (y : mY) (S0 : Nat) (M F : mp) (h k n : Nat) (t : Int32) (na ta : Nat) (hh : M h = some (eO 0 (hF k n t na ta))) (hk : k < 14) (hn : n ≤ 64) : ct l yX0_count wsX0_count 0 0 0 0 D y S0 M F [.ref h] (fun v M' => v = some (.int (nI n)) ∧ M' = M) := by
  refine ct_of cX0_count 1 (some .int) [(0, .ref h)] (by decide +kernel) rfl (Nat.le_of_ble_eq_true rfl) rfl ?_
  intro p e s m below meth c ls C hnm hl w
  have hx := C.1
  have hb := C.2.1
  have hi_X0 : ∀ w ∈ u_ws RX0 TX0 5, w ∈ wsX0_count := by decide +kernel
  refine lv_aload_n hx hb dX0_count_0 rfl (lv_at hl 0 rfl) ?_
  refine m_get C w hh (index := 15) (T := TX0) (N := 5) rfl hi_X0 1 (by decide) (by decide +kernel) rfl dX0_count_1 ?_
  exact m_iret C w dX0_count_4 (by omega) (by omega) (⟨rfl, rfl⟩)
set_option maxRecDepth 100000 in
set_option maxHeartbeats 4000000 in
theorem c_Hold_refusal (l : Launch) (D : va_G) (y : mY) (S0 : Nat) (M F : mp) (h k n : Nat) (t : Int32) (na ta : Nat) (hh : M h = some (eO 0 (hF k n t na ta))) (hk : k < 14) (hn : n ≤ 64) : ct l yX0_refusal wsX0_refusal 0 0 0 0 D y S0 M F [.ref h] (fun v M' => v = some (.int (fR k)) ∧ M' = M) := by
  refine ct_of cX0_refusal 1 (some .int) [(0, .ref h)] (by decide +kernel) rfl (Nat.le_of_ble_eq_true rfl) rfl ?_
  intro p e s m below meth c ls C hnm hl w
  have hx := C.1
  have hb := C.2.1
  have hi_X0 : ∀ w ∈ u_ws RX0 TX0 5, w ∈ wsX0_refusal := by decide +kernel
  refine lv_aload_n hx hb dX0_refusal_0 rfl (lv_at hl 0 rfl) ?_
  refine m_get C w hh (index := 9) (T := TX0) (N := 5) rfl hi_X0 0 (by decide) (by decide +kernel) rfl dX0_refusal_1 ?_
  refine lv_if_ne (tgt := 9) hx hb dX0_refusal_4 (by decide) (fun c_4 => ?_) (fun c_4 => ?_)
  · skip
    have n_4 : ¬ k = 0 := fun h => absurd ((nI_eq (by omega) (by omega)).mpr h) c_4
    refine lv_aload_n hx hb dX0_refusal_9 rfl (lv_at hl 0 rfl) ?_
    refine m_get C w hh (index := 9) (T := TX0) (N := 5) rfl hi_X0 0 (by decide) (by decide +kernel) rfl dX0_refusal_10 ?_
    refine lv_iconst (v := 1) hx hb dX0_refusal_13 (by decide) ?_
    refine lv_icmp_ne (tgt := 22) hx hb dX0_refusal_14 (by decide) (fun c_14 => ?_) (fun c_14 => ?_)
    · skip
      have n_14 : ¬ k = 1 := fun h => absurd ((nI_eq (by omega) (by omega)).mpr h) c_14
      refine lv_iconst (v := 0) hx hb dX0_refusal_22 (by decide) ?_
      exact m_iret C w dX0_refusal_23 (by omega) (by omega) (⟨by unfold fR; simp_all, rfl⟩)
    · skip
      have n_14 : k = 1 := (nI_eq (by omega) (by omega)).mp (by first | exact c_14 | exact Classical.not_not.mp c_14)
      refine lv_bipush (v := (-2)) hx hb dX0_refusal_17 (by decide) ?_
      refine lv_goto (tgt := 23) hx hb dX0_refusal_19 (by decide) ?_
      exact m_iret C w dX0_refusal_23 (by omega) (by omega) (⟨by unfold fR; simp_all, rfl⟩)
  · skip
    have n_4 : k = 0 := (nI_eq (by omega) (by omega)).mp (by first | exact c_4 | exact Classical.not_not.mp c_4)
    refine lv_iconst (v := (-1)) hx hb dX0_refusal_7 (by decide) ?_
    exact m_iret C w dX0_refusal_8 (by omega) (by omega) (⟨by unfold fR; simp_all, rfl⟩)
set_option maxRecDepth 100000 in
set_option maxHeartbeats 4000000 in
theorem c_Hold_isN (l : Launch) (D : va_G) (y : mY) (S0 : Nat) (M F : mp) (h k n : Nat) (t : Int32) (na ta : Nat) (hh : M h = some (eO 0 (hF k n t na ta))) (hk : k < 14) (hn : n ≤ 64) : ct l yX0_isOfNumbers wsX0_isOfNumbers 0 0 0 0 D y S0 M F [.ref h] (fun v M' => v = some (.int (bI (isN k))) ∧ M' = M) := by
  refine ct_of cX0_isOfNumbers 1 (some .boolean) [(0, .ref h)] (by decide +kernel) rfl (Nat.le_of_ble_eq_true rfl) rfl ?_
  intro p e s m below meth c ls C hnm hl w
  have hx := C.1
  have hb := C.2.1
  have hi_X0 : ∀ w ∈ u_ws RX0 TX0 5, w ∈ wsX0_isOfNumbers := by decide +kernel
  refine lv_aload_n hx hb dX0_isOfNumbers_0 rfl (lv_at hl 0 rfl) ?_
  refine m_get C w hh (index := 9) (T := TX0) (N := 5) rfl hi_X0 0 (by decide) (by decide +kernel) rfl dX0_isOfNumbers_1 ?_
  refine lv_iconst (v := 2) hx hb dX0_isOfNumbers_4 (by decide) ?_
  refine lv_icmp_lt (tgt := 21) hx hb dX0_isOfNumbers_5 (by decide) (fun c_5 => ?_) (fun c_5 => ?_)
  · skip
    have n_5 : k < 2 := (nI_ltI (by omega) (by omega)).mp c_5
    refine lv_iconst (v := 0) hx hb dX0_isOfNumbers_21 (by decide) ?_
    exact m_zret C w dX0_isOfNumbers_22 (by omega) (by omega) (by first | exact Or.inl rfl | exact Or.inr rfl) (⟨by unfold isN; simp_all [bI]; try omega, rfl⟩)
  · skip
    have n_5 : ¬ k < 2 := fun h => absurd ((nI_ltI (by omega) (by omega)).mpr h) c_5
    refine lv_aload_n hx hb dX0_isOfNumbers_8 rfl (lv_at hl 0 rfl) ?_
    refine m_get C w hh (index := 9) (T := TX0) (N := 5) rfl hi_X0 0 (by decide) (by decide +kernel) rfl dX0_isOfNumbers_9 ?_
    refine lv_bipush (v := 9) hx hb dX0_isOfNumbers_12 (by decide) ?_
    refine lv_icmp_gt (tgt := 21) hx hb dX0_isOfNumbers_14 (by decide) (fun c_14 => ?_) (fun c_14 => ?_)
    · skip
      have n_14 : 9 < k := (nI_ltI (by omega) (by omega)).mp c_14
      refine lv_iconst (v := 0) hx hb dX0_isOfNumbers_21 (by decide) ?_
      exact m_zret C w dX0_isOfNumbers_22 (by omega) (by omega) (by first | exact Or.inl rfl | exact Or.inr rfl) (⟨by unfold isN; simp_all [bI]; try omega, rfl⟩)
    · skip
      have n_14 : ¬ 9 < k := fun h => absurd ((nI_ltI (by omega) (by omega)).mpr h) c_14
      refine lv_iconst (v := 1) hx hb dX0_isOfNumbers_17 (by decide) ?_
      refine lv_goto (tgt := 22) hx hb dX0_isOfNumbers_18 (by decide) ?_
      exact m_zret C w dX0_isOfNumbers_22 (by omega) (by omega) (by first | exact Or.inl rfl | exact Or.inr rfl) (⟨by unfold isN; simp_all [bI]; try omega, rfl⟩)
set_option maxRecDepth 100000 in
set_option maxHeartbeats 4000000 in
theorem c_Hold_hasPlace (l : Launch) (D : va_G) (y : mY) (S0 : Nat) (M F : mp) (h k n : Nat) (t : Int32) (na ta : Nat) (hh : M h = some (eO 0 (hF k n t na ta))) (hk : k < 14) (hn : n ≤ 64) (i : Int32) : ct l yX0_hasPlace wsX0_hasPlace 0 0 0 0 D y S0 M F [.ref h, .int i] (fun v M' => v = some (.int (bI (inP i n))) ∧ M' = M) := by
  refine ct_of cX0_hasPlace 2 (some .boolean) [(0, .ref h), (1, .int i)] (by decide +kernel) rfl (Nat.le_of_ble_eq_true rfl) rfl ?_
  intro p e s m below meth c ls C hnm hl w
  have hx := C.1
  have hb := C.2.1
  have hi_X0 : ∀ w ∈ u_ws RX0 TX0 5, w ∈ wsX0_hasPlace := by decide +kernel
  refine lv_iload_n hx hb dX0_hasPlace_0 rfl (lv_at hl 1 rfl) ?_
  refine lv_if_lt (tgt := 16) hx hb dX0_hasPlace_1 (by decide) (fun c_1 => ?_) (fun c_1 => ?_)
  · skip
    refine lv_iconst (v := 0) hx hb dX0_hasPlace_16 (by decide) ?_
    exact m_zret C w dX0_hasPlace_17 (by omega) (by omega) (by first | exact Or.inl rfl | exact Or.inr rfl) (⟨by unfold inP; simp_all [bI], rfl⟩)
  · skip
    refine lv_iload_n hx hb dX0_hasPlace_4 rfl (lv_at hl 1 rfl) ?_
    refine lv_aload_n hx hb dX0_hasPlace_5 rfl (lv_at hl 0 rfl) ?_
    refine m_get C w hh (index := 15) (T := TX0) (N := 5) rfl hi_X0 1 (by decide) (by decide +kernel) rfl dX0_hasPlace_6 ?_
    refine lv_icmp_ge (tgt := 16) hx hb dX0_hasPlace_9 (by decide) (fun c_9 => ?_) (fun c_9 => ?_)
    · skip
      refine lv_iconst (v := 0) hx hb dX0_hasPlace_16 (by decide) ?_
      exact m_zret C w dX0_hasPlace_17 (by omega) (by omega) (by first | exact Or.inl rfl | exact Or.inr rfl) (⟨by unfold inP; simp_all [bI], rfl⟩)
    · skip
      refine lv_iconst (v := 1) hx hb dX0_hasPlace_12 (by decide) ?_
      refine lv_goto (tgt := 17) hx hb dX0_hasPlace_13 (by decide) ?_
      exact m_zret C w dX0_hasPlace_17 (by omega) (by omega) (by first | exact Or.inl rfl | exact Or.inr rfl) (⟨by unfold inP; simp_all [bI], rfl⟩)
set_option maxRecDepth 100000 in
set_option maxHeartbeats 4000000 in
theorem c_Hold_hasPlaces (l : Launch) (D : va_G) (y : mY) (S0 : Nat) (M F : mp) (h k n : Nat) (t : Int32) (na ta : Nat) (hh : M h = some (eO 0 (hF k n t na ta))) (hk : k < 14) (hn : n ≤ 64) (i j : Int32) : ct l yX0_hasPlaces wsX0_hasPlaces 0 0 0 0 D y S0 M F [.ref h, .int i, .int j] (fun v M' => v = some (.int (bI (hpl i j n))) ∧ M' = M) := by
  refine ct_of cX0_hasPlaces 3 (some .boolean) [(0, .ref h), (1, .int i), (2, .int j)] (by decide +kernel) rfl (Nat.le_of_ble_eq_true rfl) rfl ?_
  intro p e s m below meth c ls C hnm hl w
  have hx := C.1
  have hb := C.2.1
  have hi_X0 : ∀ w ∈ u_ws RX0 TX0 5, w ∈ wsX0_hasPlaces := by decide +kernel
  refine lv_iload_n hx hb dX0_hasPlaces_0 rfl (lv_at hl 1 rfl) ?_
  refine lv_if_lt (tgt := 26) hx hb dX0_hasPlaces_1 (by decide) (fun c_1 => ?_) (fun c_1 => ?_)
  · skip
    refine lv_iconst (v := 0) hx hb dX0_hasPlaces_26 (by decide) ?_
    exact m_zret C w dX0_hasPlaces_27 (by omega) (by omega) (by first | exact Or.inl rfl | exact Or.inr rfl) (⟨by unfold hpl; simp_all [bI], rfl⟩)
  · skip
    refine lv_iload_n hx hb dX0_hasPlaces_4 rfl (lv_at hl 2 rfl) ?_
    refine lv_if_lt (tgt := 26) hx hb dX0_hasPlaces_5 (by decide) (fun c_5 => ?_) (fun c_5 => ?_)
    · skip
      refine lv_iconst (v := 0) hx hb dX0_hasPlaces_26 (by decide) ?_
      exact m_zret C w dX0_hasPlaces_27 (by omega) (by omega) (by first | exact Or.inl rfl | exact Or.inr rfl) (⟨by unfold hpl; simp_all [bI], rfl⟩)
    · skip
      refine lv_iload_n hx hb dX0_hasPlaces_8 rfl (lv_at hl 1 rfl) ?_
      refine lv_i2l hx hb dX0_hasPlaces_9 rfl ?_
      refine lv_iload_n hx hb dX0_hasPlaces_10 rfl (lv_at hl 2 rfl) ?_
      refine lv_i2l hx hb dX0_hasPlaces_11 rfl ?_
      refine lv_ladd hx hb dX0_hasPlaces_12 ?_
      refine lv_aload_n hx hb dX0_hasPlaces_13 rfl (lv_at hl 0 rfl) ?_
      refine m_get C w hh (index := 15) (T := TX0) (N := 5) rfl hi_X0 1 (by decide) (by decide +kernel) rfl dX0_hasPlaces_14 ?_
      refine lv_i2l (v := lN n) hx hb dX0_hasPlaces_17 (nI_l (by omega)) ?_
      refine W.lcmp hx hb dX0_hasPlaces_18 ?_
      refine lv_if_gt (tgt := 26) hx hb dX0_hasPlaces_19 (by decide) (fun c_19 => ?_) (fun c_19 => ?_)
      · skip
        have n_19 := (lg_cmp_gt _ _).mp c_19
        refine lv_iconst (v := 0) hx hb dX0_hasPlaces_26 (by decide) ?_
        exact m_zret C w dX0_hasPlaces_27 (by omega) (by omega) (by first | exact Or.inl rfl | exact Or.inr rfl) (⟨by unfold hpl; simp_all [bI], rfl⟩)
      · skip
        have n_19 := (not_congr (lg_cmp_gt _ _)).mp c_19
        refine lv_iconst (v := 1) hx hb dX0_hasPlaces_22 (by decide) ?_
        refine lv_goto (tgt := 27) hx hb dX0_hasPlaces_23 (by decide) ?_
        exact m_zret C w dX0_hasPlaces_27 (by omega) (by omega) (by first | exact Or.inl rfl | exact Or.inr rfl) (⟨by unfold hpl; simp_all [bI], rfl⟩)
set_option maxRecDepth 100000 in
set_option maxHeartbeats 4000000 in
theorem c_Piece_sort (l : Launch) (D : va_G) (y : mY) (S0 : Nat) (M F : mp) (h : Nat) (sv nv gv : Int32) (hh : M h = some (eO 1 [.int sv, .int nv, .int gv])) : ct l yX1_sortOfThing wsX1_sortOfThing 0 0 0 0 D y S0 M F [.ref h] (fun v M' => v = some (.int sv) ∧ M' = M) := by
  refine ct_of cX1_sortOfThing 1 (some .int) [(0, .ref h)] (by decide +kernel) rfl (Nat.le_of_ble_eq_true rfl) rfl ?_
  intro p e s m below meth c ls C hnm hl w
  have hx := C.1
  have hb := C.2.1
  have hi_X1 : ∀ w ∈ u_ws RX1 TX1 3, w ∈ wsX1_sortOfThing := by decide +kernel
  refine lv_aload_n hx hb dX1_sortOfThing_0 rfl (lv_at hl 0 rfl) ?_
  refine m_get C w hh (index := 7) (T := TX1) (N := 3) rfl hi_X1 0 (by decide) (by decide +kernel) rfl dX1_sortOfThing_1 ?_
  exact m_iret C w dX1_sortOfThing_4 (by omega) (by omega) (⟨rfl, rfl⟩)
set_option maxRecDepth 100000 in
set_option maxHeartbeats 4000000 in
theorem c_Piece_count (l : Launch) (D : va_G) (y : mY) (S0 : Nat) (M F : mp) (h : Nat) (sv nv gv : Int32) (hh : M h = some (eO 1 [.int sv, .int nv, .int gv])) : ct l yX1_count wsX1_count 0 0 0 0 D y S0 M F [.ref h] (fun v M' => v = some (.int nv) ∧ M' = M) := by
  refine ct_of cX1_count 1 (some .int) [(0, .ref h)] (by decide +kernel) rfl (Nat.le_of_ble_eq_true rfl) rfl ?_
  intro p e s m below meth c ls C hnm hl w
  have hx := C.1
  have hb := C.2.1
  have hi_X1 : ∀ w ∈ u_ws RX1 TX1 3, w ∈ wsX1_count := by decide +kernel
  refine lv_aload_n hx hb dX1_count_0 rfl (lv_at hl 0 rfl) ?_
  refine m_get C w hh (index := 13) (T := TX1) (N := 3) rfl hi_X1 1 (by decide) (by decide +kernel) rfl dX1_count_1 ?_
  exact m_iret C w dX1_count_4 (by omega) (by omega) (⟨rfl, rfl⟩)
set_option maxRecDepth 100000 in
set_option maxHeartbeats 4000000 in
theorem c_Piece_shine (l : Launch) (D : va_G) (y : mY) (S0 : Nat) (M F : mp) (h : Nat) (sv nv gv : Int32) (hh : M h = some (eO 1 [.int sv, .int nv, .int gv])) : ct l yX1_shine wsX1_shine 0 0 0 0 D y S0 M F [.ref h] (fun v M' => v = some (.int gv) ∧ M' = M) := by
  refine ct_of cX1_shine 1 (some .int) [(0, .ref h)] (by decide +kernel) rfl (Nat.le_of_ble_eq_true rfl) rfl ?_
  intro p e s m below meth c ls C hnm hl w
  have hx := C.1
  have hb := C.2.1
  have hi_X1 : ∀ w ∈ u_ws RX1 TX1 3, w ∈ wsX1_shine := by decide +kernel
  refine lv_aload_n hx hb dX1_shine_0 rfl (lv_at hl 0 rfl) ?_
  refine m_get C w hh (index := 16) (T := TX1) (N := 3) rfl hi_X1 2 (by decide) (by decide +kernel) rfl dX1_shine_1 ?_
  exact m_iret C w dX1_shine_4 (by omega) (by omega) (⟨rfl, rfl⟩)
set_option maxRecDepth 100000 in
set_option maxHeartbeats 4000000 in
theorem c_Piece_init (l : Launch) (D : va_G) (y : mY) (S0 : Nat) (M F : mp) (h : Nat) (sv nv gv : Int32) (hh : M h = some (eO 1 [.int sv, .int nv, .int gv])) (a b : Int32) : ct l yX1_init wsX1_init 2 40 0 0 D y S0 M F [.ref h, .int a, .int b] (fun v M' => v = none ∧ M' = mu M h (eO 1 [.int a, .int b, .int 0])) := by
  refine ct_of cX1_init 3 none [(0, .ref h), (1, .int a), (2, .int b)] (by decide +kernel) rfl (Nat.le_of_ble_eq_true rfl) rfl ?_
  intro p e s m below meth c ls C hnm hl w
  have hx := C.1
  have hb := C.2.1
  have hi_X1 : ∀ w ∈ u_ws RX1 TX1 3, w ∈ wsX1_init := by decide +kernel
  refine lv_aload_n hx hb dX1_init_0 rfl (lv_at hl 0 rfl) ?_
  refine m_callIN (host := "BeadBench") C w hl.1 (As := []) (rest := []) (c_Thing_init l D y S0 M F h) gX1_init_X2_init_n1 rfl (by decide +kernel) (by decide +kernel) (by decide +kernel) rfl (by decide +kernel) ⟨Nat.le_of_ble_eq_true rfl, Nat.le_of_ble_eq_true rfl⟩ rfl (by decide) dX1_init_1 ⟨by omega, by omega⟩ (fun v M1 H locs hq w => ?_)
  obtain ⟨rfl, hM1⟩ := hq
  rw [hM1] at w
  clear hM1 M1
  refine W.eq (g2 := F0 m 4 ls []) rfl ?_
  refine lv_aload_n hx hb dX1_init_4 rfl (lv_at hl 0 rfl) ?_
  refine lv_iload_n hx hb dX1_init_5 rfl (lv_at hl 1 rfl) ?_
  refine m_putF C w hh (v := .int a) (index := 7) (T := TX1) (N := 3) rfl hi_X1 tyX1 tyX1_ok nmX1 0 (by decide) (by decide +kernel) rfl hnm rfl (tyX1_ok 0 (by decide)) rfl rfl (Nat.le_of_ble_eq_true rfl) dX1_init_6 (fun H locs w => ?_)
  obtain ⟨M1, e_M1⟩ : ∃ z, z = mu M h (eO 1 [.int a, .int nv, .int gv]) := ⟨_, rfl⟩
  have w : mS D S0 M1 F s H locs := by rw [e_M1]; exact w
  have f1_h : M1 h = some (eO 1 [.int a, .int nv, .int gv]) := by rw [e_M1]; exact mu_s
  refine lv_aload_n hx hb dX1_init_9 rfl (lv_at hl 0 rfl) ?_
  refine lv_iload_n hx hb dX1_init_10 rfl (lv_at hl 2 rfl) ?_
  refine m_putF C w f1_h (v := .int b) (index := 13) (T := TX1) (N := 3) rfl hi_X1 tyX1 tyX1_ok nmX1 1 (by decide) (by decide +kernel) rfl hnm rfl (tyX1_ok 1 (by decide)) rfl rfl (Nat.le_of_ble_eq_true rfl) dX1_init_11 (fun H locs w => ?_)
  obtain ⟨M2, e_M2⟩ : ∃ z, z = mu M1 h (eO 1 [.int a, .int b, .int gv]) := ⟨_, rfl⟩
  have w : mS D S0 M2 F s H locs := by rw [e_M2]; exact w
  have f2_h : M2 h = some (eO 1 [.int a, .int b, .int gv]) := by rw [e_M2]; exact mu_s
  refine lv_aload_n hx hb dX1_init_14 rfl (lv_at hl 0 rfl) ?_
  refine lv_iconst (v := 0) hx hb dX1_init_15 (by decide) ?_
  refine m_put C w f2_h (v := .int 0) (index := 16) (T := TX1) (N := 3) rfl hi_X1 tyX1 tyX1_ok nmX1 2 (by decide) (by decide +kernel) rfl (tyX1_ok 2 (by decide)) rfl rfl (Nat.le_of_ble_eq_true rfl) dX1_init_16 (fun H locs w => ?_)
  obtain ⟨M3, e_M3⟩ : ∃ z, z = mu M2 h (eO 1 [.int a, .int b, .int 0]) := ⟨_, rfl⟩
  have w : mS D S0 M3 F s H locs := by rw [e_M3]; exact w
  have f3_h : M3 h = some (eO 1 [.int a, .int b, .int 0]) := by rw [e_M3]; exact mu_s
  exact m_vret C w dX1_init_19 (by omega) (by omega) (⟨rfl, by rw [e_M3, e_M2, e_M1]; funext q; unfold mu; by_cases hq : q = h <;> simp [hq]⟩)
set_option maxRecDepth 100000 in
set_option maxHeartbeats 4000000 in
/-- copyPlace: place i gets what is at place j of the other one -/
theorem c_Hold_copy (l : Launch) (D : va_G) (y : mY) (S0 : Nat) (M F : mp) (h : Nat) (k n : Nat) (t : Int32) (na ta : Nat) (hh : M h = some (eO 0 (hF k n t na ta))) (h2 k2 n2 : Nat) (t2 : Int32) (na2 ta2 : Nat) (hh2 : M h2 = some (eO 0 (hF k2 n2 t2 na2 ta2))) (f f2 : Nat → Int64) (g g2 : Nat → Option Nat) (hna : M na = some (eL y n f)) (hta : M ta = some (eT y n g)) (hna2 : M na2 = some (eL y n2 f2)) (hta2 : M ta2 = some (eT y n2 g2)) (i j : Nat) (hi : i < n) (hj : j < n2) (hn : n ≤ 64) (hn2 : n2 ≤ 64) (hth : ∀ z, g2 j = some z → (∃ vs, M z = some (eO 0 vs)) ∨ ∃ vs, M z = some (eO 1 vs)) : ct l yX0_copyPlace wsX0_copyPlace 0 0 0 0 D y S0 M F [.ref h, .int (nI i), .ref h2, .int (nI j)] (fun v M' => v = none ∧ M' = mu (mu M na (eL y n (va_up f i (f2 j)))) ta (eT y n (va_up g i (g2 j)))) := by
  refine ct_of cX0_copyPlace 4 none [(0, .ref h), (1, .int (nI i)), (2, .ref h2), (3, .int (nI j))] (by decide +kernel) rfl (Nat.le_of_ble_eq_true rfl) rfl ?_
  intro p e s m below meth c ls C hnm hl w
  have hx := C.1
  have hb := C.2.1
  have hi_X0 : ∀ w ∈ u_ws RX0 TX0 5, w ∈ wsX0_copyPlace := by decide +kernel
  refine lv_aload_n hx hb dX0_copyPlace_0 rfl (lv_at hl 0 rfl) ?_
  refine m_get C w hh (index := 21) (T := TX0) (N := 5) rfl hi_X0 3 (by decide) (by decide +kernel) rfl dX0_copyPlace_1 ?_
  refine lv_iload_n hx hb dX0_copyPlace_4 rfl (lv_at hl 1 rfl) ?_
  refine lv_aload_n hx hb dX0_copyPlace_5 rfl (lv_at hl 2 rfl) ?_
  refine m_get C w hh2 (index := 21) (T := TX0) (N := 5) rfl hi_X0 3 (by decide) (by decide +kernel) rfl dX0_copyPlace_6 ?_
  refine lv_iload_n hx hb dX0_copyPlace_9 rfl (lv_at hl 3 rfl) ?_
  refine m_lald C w hna2 j rfl (by omega) (by omega) dX0_copyPlace_10 ?_
  refine m_last C w hna i rfl (by omega) (by omega) dX0_copyPlace_11 (fun H locs w => ?_)
  obtain ⟨M1, e_M1⟩ : ∃ z, z = mu M na (eL y n (va_up f i (f2 j))) := ⟨_, rfl⟩
  have w : mS D S0 M1 F s H locs := by rw [e_M1]; exact w
  have g_h : M1 h = some (eO 0 (hF k n t na ta)) := by rw [e_M1]; exact mu_k (m_ne hh hna ne_OA) hh
  have g_h2 : M1 h2 = some (eO 0 (hF k2 n2 t2 na2 ta2)) := by rw [e_M1]; exact mu_k (m_ne hh2 hna ne_OA) hh2
  have g_ta : M1 ta = some (eT y n g) := by rw [e_M1]; exact mu_k (m_ne hta hna ne_TL) hta
  have g_ta2 : M1 ta2 = some (eT y n2 g2) := by rw [e_M1]; exact mu_k (m_ne hta2 hna ne_TL) hta2
  refine lv_aload_n hx hb dX0_copyPlace_12 rfl (lv_at hl 0 rfl) ?_
  refine m_get C w g_h (index := 25) (T := TX0) (N := 5) rfl hi_X0 4 (by decide) (by decide +kernel) rfl dX0_copyPlace_13 ?_
  refine lv_iload_n hx hb dX0_copyPlace_16 rfl (lv_at hl 1 rfl) ?_
  refine lv_aload_n hx hb dX0_copyPlace_17 rfl (lv_at hl 2 rfl) ?_
  refine m_get C w g_h2 (index := 25) (T := TX0) (N := 5) rfl hi_X0 4 (by decide) (by decide +kernel) rfl dX0_copyPlace_18 ?_
  refine lv_iload_n hx hb dX0_copyPlace_21 rfl (lv_at hl 3 rfl) ?_
  refine m_tald C w g_ta2 j rfl (by omega) (by omega) dX0_copyPlace_22 ?_
  refine m_tast C w g_ta (v := g2 j) (fun z hz => ?_) i rfl (by omega) (by omega) dX0_copyPlace_23 (fun H locs w => ?_)
  · rw [e_M1]
    rcases hth z hz with ⟨vs, q⟩ | ⟨vs, q⟩
    · exact Or.inl ⟨vs, mu_k (m_ne q hna ne_OA) q⟩
    · exact Or.inr ⟨vs, mu_k (m_ne q hna ne_OA) q⟩
  exact m_vret C w dX0_copyPlace_24 (by omega) (by omega) (⟨rfl, by rw [e_M1]⟩)
set_option maxRecDepth 100000 in
set_option maxHeartbeats 4000000 in
theorem c_Hold_alike (l : Launch) (D : va_G) (y : mY) (S0 : Nat) (M F : mp) (h : Nat) (k n : Nat) (t : Int32) (na ta : Nat) (hh : M h = some (eO 0 (hF k n t na ta))) (h2 k2 n2 : Nat) (t2 : Int32) (na2 ta2 : Nat) (hh2 : M h2 = some (eO 0 (hF k2 n2 t2 na2 ta2))) (f f2 : Nat → Int64) (g g2 : Nat → Option Nat) (hna : M na = some (eL y n f)) (hta : M ta = some (eT y n g)) (hna2 : M na2 = some (eL y n2 f2)) (hta2 : M ta2 = some (eT y n2 g2)) (i j : Nat) (hi : i < n) (hj : j < n2) (hn : n ≤ 64) (hn2 : n2 ≤ 64) : ct l yX0_isAlike wsX0_isAlike 0 0 0 0 D y S0 M F [.ref h, .int (nI i), .ref h2, .int (nI j)] (fun v M' => v = some (.int (bI (decide (f i = f2 j) && decide (g i = g2 j)))) ∧ M' = M) := by
  refine ct_of cX0_isAlike 4 (some .boolean) [(0, .ref h), (1, .int (nI i)), (2, .ref h2), (3, .int (nI j))] (by decide +kernel) rfl (Nat.le_of_ble_eq_true rfl) rfl ?_
  intro p e s m below meth c ls C hnm hl w
  have hx := C.1
  have hb := C.2.1
  have hi_X0 : ∀ w ∈ u_ws RX0 TX0 5, w ∈ wsX0_isAlike := by decide +kernel
  refine lv_aload_n hx hb dX0_isAlike_0 rfl (lv_at hl 0 rfl) ?_
  refine m_get C w hh (index := 21) (T := TX0) (N := 5) rfl hi_X0 3 (by decide) (by decide +kernel) rfl dX0_isAlike_1 ?_
  refine lv_iload_n hx hb dX0_isAlike_4 rfl (lv_at hl 1 rfl) ?_
  refine m_lald C w hna i rfl (by omega) (by omega) dX0_isAlike_5 ?_
  refine lv_aload_n hx hb dX0_isAlike_6 rfl (lv_at hl 2 rfl) ?_
  refine m_get C w hh2 (index := 21) (T := TX0) (N := 5) rfl hi_X0 3 (by decide) (by decide +kernel) rfl dX0_isAlike_7 ?_
  refine lv_iload_n hx hb dX0_isAlike_10 rfl (lv_at hl 3 rfl) ?_
  refine m_lald C w hna2 j rfl (by omega) (by omega) dX0_isAlike_11 ?_
  refine W.lcmp hx hb dX0_isAlike_12 ?_
  refine lv_if_ne (tgt := 35) hx hb dX0_isAlike_13 (by decide) (fun c_13 => ?_) (fun c_13 => ?_)
  · skip
    have n_13 := (not_congr (lg_cmp_eq _ _)).mp c_13
    refine lv_iconst (v := 0) hx hb dX0_isAlike_35 (by decide) ?_
    exact m_zret C w dX0_isAlike_36 (by omega) (by omega) (by first | exact Or.inl rfl | exact Or.inr rfl) (⟨by simp_all [bI], rfl⟩)
  · skip
    have n_13 := (lg_cmp_eq _ _).mp c_13
    refine lv_aload_n hx hb dX0_isAlike_16 rfl (lv_at hl 0 rfl) ?_
    refine m_get C w hh (index := 25) (T := TX0) (N := 5) rfl hi_X0 4 (by decide) (by decide +kernel) rfl dX0_isAlike_17 ?_
    refine lv_iload_n hx hb dX0_isAlike_20 rfl (lv_at hl 1 rfl) ?_
    refine m_tald C w hta i rfl (by omega) (by omega) dX0_isAlike_21 ?_
    refine lv_aload_n hx hb dX0_isAlike_22 rfl (lv_at hl 2 rfl) ?_
    refine m_get C w hh2 (index := 25) (T := TX0) (N := 5) rfl hi_X0 4 (by decide) (by decide +kernel) rfl dX0_isAlike_23 ?_
    refine lv_iload_n hx hb dX0_isAlike_26 rfl (lv_at hl 3 rfl) ?_
    refine m_tald C w hta2 j rfl (by omega) (by omega) dX0_isAlike_27 ?_
    refine lv_acmp_ne (rx := g i) (ry := g2 j) (tgt := 35) hx hb dX0_isAlike_28 (by decide) (fun c_28 => ?_) (fun c_28 => ?_)
    · skip
      refine lv_iconst (v := 0) hx hb dX0_isAlike_35 (by decide) ?_
      exact m_zret C w dX0_isAlike_36 (by omega) (by omega) (by first | exact Or.inl rfl | exact Or.inr rfl) (⟨by simp_all [bI], rfl⟩)
    · skip
      refine lv_iconst (v := 1) hx hb dX0_isAlike_31 (by decide) ?_
      refine lv_goto (tgt := 36) hx hb dX0_isAlike_32 (by decide) ?_
      exact m_zret C w dX0_isAlike_36 (by omega) (by omega) (by first | exact Or.inl rfl | exact Or.inr rfl) (⟨by simp_all [bI], rfl⟩)
end
section
set_option maxRecDepth 100000 in
set_option maxHeartbeats 4000000 in
/-- Holding(kind, size, ticket): two new arrays -/
theorem c_Hold_init (l : Launch) (D : va_G) (y : mY) (S0 : Nat) (M F : mp) (h n : Nat) (a k1 n1 t1 : Int32) (v3 v4 : Value) (b : Int32) (hh : M h = some (eO 0 [.int k1, .int n1, .int t1, v3, v4])) (hn : n ≤ 64) : ct l yX0_init wsX0_init 2 40 2 (2 * n) D y S0 M F [.ref h, .int a, .int (nI n), .int b] (fun v M' => v = none ∧ ∃ qL qT, M qL = none ∧ M qT = none ∧ F qL = none ∧ F qT = none ∧ qL ≠ qT ∧ M' = mu (mu (mu M h (eO 0 [.int a, .int (nI n), .int b, .ref qL, .ref qT])) qL (eL y n (fun _ => 0))) qT (eT y n (fun _ => none))) := by
  refine ct_of cX0_init 4 none [(0, .ref h), (1, .int a), (2, .int (nI n)), (3, .int b)] (by decide +kernel) rfl (Nat.le_of_ble_eq_true rfl) rfl ?_
  intro p e s m below meth c ls C hnm hl w
  have hx := C.1
  have hb := C.2.1
  have hi_X0 : ∀ w ∈ u_ws RX0 TX0 5, w ∈ wsX0_init := by decide +kernel
  refine lv_aload_n hx hb dX0_init_0 rfl (lv_at hl 0 rfl) ?_
  refine m_callIN (host := "BeadBench") C w hl.1 (As := []) (rest := []) (c_Thing_init l D y S0 M F h) gX0_init_X2_init_n3 rfl (by decide +kernel) (by decide +kernel) (by decide +kernel) rfl (by decide +kernel) ⟨Nat.le_of_ble_eq_true rfl, Nat.le_of_ble_eq_true rfl⟩ rfl (by decide) dX0_init_1 ⟨by omega, by omega⟩ (fun v M1 H locs hq w => ?_)
  obtain ⟨rfl, hM1⟩ := hq
  rw [hM1] at w
  clear hM1 M1
  refine W.eq (g2 := F0 m 4 ls []) rfl ?_
  refine lv_aload_n hx hb dX0_init_4 rfl (lv_at hl 0 rfl) ?_
  refine lv_iload_n hx hb dX0_init_5 rfl (lv_at hl 1 rfl) ?_
  refine m_putF C w hh (v := .int a) (index := 9) (T := TX0) (N := 5) rfl hi_X0 tyX0 tyX0_ok nmX0 0 (by decide) (by decide +kernel) rfl hnm rfl (tyX0_ok 0 (by decide)) rfl rfl (Nat.le_of_ble_eq_true rfl) dX0_init_6 (fun H locs w => ?_)
  obtain ⟨M1, e_M1⟩ : ∃ z, z = mu M h (eO 0 [.int a, .int n1, .int t1, v3, v4]) := ⟨_, rfl⟩
  have w : mS D S0 M1 F s H locs := by rw [e_M1]; exact w
  have f1_h : M1 h = some (eO 0 [.int a, .int n1, .int t1, v3, v4]) := by rw [e_M1]; exact mu_s
  refine lv_aload_n hx hb dX0_init_9 rfl (lv_at hl 0 rfl) ?_
  refine lv_iload_n hx hb dX0_init_10 rfl (lv_at hl 2 rfl) ?_
  refine m_putF C w f1_h (v := .int (nI n)) (index := 15) (T := TX0) (N := 5) rfl hi_X0 tyX0 tyX0_ok nmX0 1 (by decide) (by decide +kernel) rfl hnm rfl (tyX0_ok 1 (by decide)) rfl rfl (Nat.le_of_ble_eq_true rfl) dX0_init_11 (fun H locs w => ?_)
  obtain ⟨M2, e_M2⟩ : ∃ z, z = mu M1 h (eO 0 [.int a, .int (nI n), .int t1, v3, v4]) := ⟨_, rfl⟩
  have w : mS D S0 M2 F s H locs := by rw [e_M2]; exact w
  have f2_h : M2 h = some (eO 0 [.int a, .int (nI n), .int t1, v3, v4]) := by rw [e_M2]; exact mu_s
  refine lv_aload_n hx hb dX0_init_14 rfl (lv_at hl 0 rfl) ?_
  refine lv_iload_n hx hb dX0_init_15 rfl (lv_at hl 3 rfl) ?_
  refine m_putF C w f2_h (v := .int b) (index := 18) (T := TX0) (N := 5) rfl hi_X0 tyX0 tyX0_ok nmX0 2 (by decide) (by decide +kernel) rfl hnm rfl (tyX0_ok 2 (by decide)) rfl rfl (Nat.le_of_ble_eq_true rfl) dX0_init_16 (fun H locs w => ?_)
  obtain ⟨M3, e_M3⟩ : ∃ z, z = mu M2 h (eO 0 [.int a, .int (nI n), .int b, v3, v4]) := ⟨_, rfl⟩
  have w : mS D S0 M3 F s H locs := by rw [e_M3]; exact w
  have f3_h : M3 h = some (eO 0 [.int a, .int (nI n), .int b, v3, v4]) := by rw [e_M3]; exact mu_s
  refine lv_aload_n hx hb dX0_init_19 rfl (lv_at hl 0 rfl) ?_
  refine lv_iload_n hx hb dX0_init_20 rfl (lv_at hl 2 rfl) ?_
  refine m_newL C w (by decide +kernel) n rfl (by omega) (by show _ + 1 ≤ 2; omega) (by show _ + n ≤ 2 * n; omega) dX0_init_21 (fun qL H hMqL hFqL w => ?_)
  obtain ⟨M4, e_M4⟩ : ∃ z, z = mu M3 qL (eL y n (fun _ => 0)) := ⟨_, rfl⟩
  have w : mS D S0 M4 F s H locs := by rw [e_M4]; exact w
  have f4_h : M4 h = some (eO 0 [.int a, .int (nI n), .int b, v3, v4]) := by rw [e_M4]; exact mu_k (m_fr f3_h hMqL) f3_h
  refine m_putF C w f4_h (v := .ref qL) (index := 21) (T := TX0) (N := 5) rfl hi_X0 tyX0 tyX0_ok nmX0 3 (by decide) (by decide +kernel) rfl hnm rfl (tyX0_ok 3 (by decide)) rfl rfl (Nat.le_of_ble_eq_true rfl) dX0_init_23 (fun H locs w => ?_)
  obtain ⟨M5, e_M5⟩ : ∃ z, z = mu M4 h (eO 0 [.int a, .int (nI n), .int b, .ref qL, v4]) := ⟨_, rfl⟩
  have w : mS D S0 M5 F s H locs := by rw [e_M5]; exact w
  have f5_h : M5 h = some (eO 0 [.int a, .int (nI n), .int b, .ref qL, v4]) := by rw [e_M5]; exact mu_s
  refine lv_aload_n hx hb dX0_init_26 rfl (lv_at hl 0 rfl) ?_
  refine lv_iload_n hx hb dX0_init_27 rfl (lv_at hl 2 rfl) ?_
  refine m_newT C w (by decide +kernel) n rfl (by omega) (by show _ + 1 ≤ 2; omega) (by show _ + n ≤ 2 * n; omega) dX0_init_28 (fun qT H hMqT hFqT w => ?_)
  obtain ⟨M6, e_M6⟩ : ∃ z, z = mu M5 qT (eT y n (fun _ => none)) := ⟨_, rfl⟩
  have w : mS D S0 M6 F s H locs := by rw [e_M6]; exact w
  have f6_h : M6 h = some (eO 0 [.int a, .int (nI n), .int b, .ref qL, v4]) := by rw [e_M6]; exact mu_k (m_fr f5_h hMqT) f5_h
  refine m_putF C w f6_h (v := .ref qT) (index := 25) (T := TX0) (N := 5) rfl hi_X0 tyX0 tyX0_ok nmX0 4 (by decide) (by decide +kernel) rfl hnm rfl (tyX0_ok 4 (by decide)) rfl rfl (Nat.le_of_ble_eq_true rfl) dX0_init_31 (fun H locs w => ?_)
  obtain ⟨M7, e_M7⟩ : ∃ z, z = mu M6 h (eO 0 [.int a, .int (nI n), .int b, .ref qL, .ref qT]) := ⟨_, rfl⟩
  have w : mS D S0 M7 F s H locs := by rw [e_M7]; exact w
  have f7_h : M7 h = some (eO 0 [.int a, .int (nI n), .int b, .ref qL, .ref qT]) := by rw [e_M7]; exact mu_s
  have nL : qL ≠ h := fun q => by rw [q, e_M3, mu_s] at hMqL; cases hMqL
  have mL : M qL = none := by rw [e_M3, mu_n nL, e_M2, mu_n nL, e_M1, mu_n nL] at hMqL; exact hMqL
  have nT : qT ≠ h := fun q => by rw [q] at hMqT; rw [hMqT] at f5_h; cases f5_h
  have nTL : qT ≠ qL := fun q => by rw [q, e_M5, mu_n nL, e_M4, mu_s] at hMqT; cases hMqT
  have mT1 : M qT = none := by rw [e_M5, mu_n nT, e_M4, mu_n nTL, e_M3, mu_n nT, e_M2, mu_n nT, e_M1, mu_n nT] at hMqT; exact hMqT
  exact m_vret C w dX0_init_34 (by omega) (by omega) (⟨rfl, qL, qT, mL, mT1, hFqL, hFqT, Ne.symm nTL, by rw [e_M7, e_M6, e_M5, e_M4, e_M3, e_M2, e_M1]; funext q; unfold mu; by_cases h1 : q = h <;> by_cases h2 : q = qL <;> by_cases h3 : q = qT <;> simp_all⟩)
set_option maxRecDepth 100000 in
set_option maxHeartbeats 4000000 in
theorem c_Piece_sort2 (l : Launch) (D : va_G) (y : mY) (S0 : Nat) (M F : mp) (h sn : Nat) (a b : Value) (hh : M h = some (eO 1 [.int (nI sn), a, b])) : ct l yX1_sortOfThing wsX1_sortOfThing 0 0 0 0 D y S0 M F [.ref h] (fun v M' => v = some (.int (nI sn)) ∧ M' = M) := by
  refine ct_of cX1_sortOfThing 1 (some .int) [(0, .ref h)] (by decide +kernel) rfl (Nat.le_of_ble_eq_true rfl) rfl ?_
  intro p e s m below meth c ls C hnm hl w
  have hx := C.1
  have hb := C.2.1
  have hi_X1 : ∀ w ∈ u_ws RX1 TX1 3, w ∈ wsX1_sortOfThing := by decide +kernel
  refine lv_aload_n hx hb dX1_sortOfThing_0 rfl (lv_at hl 0 rfl) ?_
  refine m_get C w hh (index := 7) (T := TX1) (N := 3) rfl hi_X1 0 (by decide) (by decide +kernel) rfl dX1_sortOfThing_1 ?_
  exact m_iret C w dX1_sortOfThing_4 (by omega) (by omega) (⟨rfl, rfl⟩)
set_option maxRecDepth 100000 in
set_option maxHeartbeats 4000000 in
theorem c_Hold_accepts_n (l : Launch) (D : va_G) (y : mY) (S0 : Nat) (M F : mp) (h k n : Nat) (t : Int32) (na ta : Nat) (hh : M h = some (eO 0 (hF k n t na ta))) (hk : k < 14) (hn : n ≤ 64) : ct l yX0_accepts wsX0_accepts 1 20 0 0 D y S0 M F [.ref h, .null] (fun v M' => v = some (.int (bI (acc k none))) ∧ M' = M) := by
  refine ct_of cX0_accepts 3 (some .boolean) [(0, .ref h), (1, .null)] (by decide +kernel) rfl (Nat.le_of_ble_eq_true rfl) rfl ?_
  intro p e s m below meth c ls C hnm hl w
  have hx := C.1
  have hb := C.2.1
  have hi_X0 : ∀ w ∈ u_ws RX0 TX0 5, w ∈ wsX0_accepts := by decide +kernel
  refine lv_aload_nN hx hb dX0_accepts_0 rfl (lv_at hl 1 rfl) ?_
  refine lv_ifnonnullN hx hb dX0_accepts_1 ?_
  refine lv_iconst (v := 1) hx hb dX0_accepts_4 (by decide) ?_
  exact m_zret C w dX0_accepts_5 (by omega) (by omega) (by first | exact Or.inl rfl | exact Or.inr rfl) (⟨rfl, rfl⟩)
set_option maxRecDepth 100000 in
set_option maxHeartbeats 4000000 in
theorem c_Hold_accepts_s (l : Launch) (D : va_G) (y : mY) (S0 : Nat) (M F : mp) (h k n : Nat) (t : Int32) (na ta : Nat) (hh : M h = some (eO 0 (hF k n t na ta))) (hk : k < 14) (hn : n ≤ 64) (z sn : Nat) (hz : (sn = 6 ∧ ∃ fs, M z = some (eO 0 fs)) ∨ ∃ a b, sn < 6 ∧ M z = some (eO 1 [.int (nI sn), a, b])) : ct l yX0_accepts wsX0_accepts 1 20 0 0 D y S0 M F [.ref h, .ref z] (fun v M' => v = some (.int (bI (acc k (some sn)))) ∧ M' = M) := by
  refine ct_of cX0_accepts 3 (some .boolean) [(0, .ref h), (1, .ref z)] (by decide +kernel) rfl (Nat.le_of_ble_eq_true rfl) rfl ?_
  intro p e s m below meth c ls C hnm hl w
  have hx := C.1
  have hb := C.2.1
  have hi_X0 : ∀ w ∈ u_ws RX0 TX0 5, w ∈ wsX0_accepts := by decide +kernel
  refine lv_aload_n hx hb dX0_accepts_0 rfl (lv_at hl 1 rfl) ?_
  refine lv_ifnonnull (tgt := 6) hx hb dX0_accepts_1 (by decide) ?_
  refine lv_aload_n hx hb dX0_accepts_6 rfl (lv_at hl 1 rfl) ?_
  have key : ∀ (H : Heap) (locs : List Loc), mS D S0 M F s H locs → W p l e { frames := 1, cells := 0, slots := 0, locals := 20 } s m [Value.ref h, Value.ref z].toArray below meth c H locs (0 + 0) (0 + 0) (MQ below (mQ D S0 F (fun v M' => v = some (.int (bI (acc k (some sn)))) ∧ M' = M)) [Value.ref h, Value.ref z].toArray s 0 0 (fun q => S0 ≤ q)) (F0 m 10 ls [.int (nI sn)]) := by
    have hs6 : sn ≤ 6 := by rcases hz with ⟨h, -⟩ | ⟨_, _, h, -⟩ <;> omega
    clear w
    intro H locs w
    refine lv_istore_n (lv' := [(2, .int (nI sn)), (0, .ref h), (1, .ref z)]) hx hb dX0_accepts_10 rfl hl (by decide) rfl (fun ls hl => ?_)
    refine lv_aload_n hx hb dX0_accepts_11 rfl (lv_at hl 1 rfl) ?_
    refine m_get C w hh (index := 9) (T := TX0) (N := 5) rfl hi_X0 0 (by decide) (by decide +kernel) rfl dX0_accepts_12 ?_
    have hkI : (nI k).toInt = (k : Int) := nI_toInt (by omega)
    by_cases k10 : k < 10 ∨ 13 < k
    · refine lv_tableOut (tgt := 95) hx hb dX0_accepts_15 (by rw [hkI]; omega) (by decide) ?_
      refine lv_iconst (v := 0) hx hb dX0_accepts_95 (by decide) ?_
      exact m_zret C w dX0_accepts_96 (by omega) (by omega) (by first | exact Or.inl rfl | exact Or.inr rfl) (⟨by show _ = some (Value.int (bI (if k = 10 then _ else _))); rw [if_neg (by omega), if_neg (by omega), if_neg (by omega), if_neg (by omega)]; rfl, rfl⟩)
    rcases (show k = 10 ∨ k = 11 ∨ k = 12 ∨ k = 13 by omega) with rfl | rfl | rfl | rfl
    · refine lv_tableIn (tgt := 44) (off := 29) hx hb dX0_accepts_15 (by rw [hkI]; decide) (by rw [hkI]; decide) (by rw [hkI]; rfl) (by decide) ?_
      refine lv_iload_n hx hb dX0_accepts_44 rfl (lv_at hl 0 rfl) ?_
      refine lv_bipush (v := 6) hx hb dX0_accepts_45 (by decide) ?_
      refine lv_icmp_eq (tgt := 54) hx hb dX0_accepts_47 (by decide) (fun c_47 => ?_) (fun c_47 => ?_)
      · skip
        have n_47 : sn = 6 := (nI_eq (by omega) (by omega)).mp (by first | exact c_47 | exact Classical.not_not.mp c_47)
        refine lv_iconst (v := 0) hx hb dX0_accepts_54 (by decide) ?_
        exact m_zret C w dX0_accepts_55 (by omega) (by omega) (by first | exact Or.inl rfl | exact Or.inr rfl) (⟨by unfold acc; simp_all [bI]; try omega, rfl⟩)
      · skip
        have n_47 : ¬ sn = 6 := fun h => absurd ((nI_eq (by omega) (by omega)).mpr h) c_47
        refine lv_iconst (v := 1) hx hb dX0_accepts_50 (by decide) ?_
        refine lv_goto (tgt := 55) hx hb dX0_accepts_51 (by decide) ?_
        exact m_zret C w dX0_accepts_55 (by omega) (by omega) (by first | exact Or.inl rfl | exact Or.inr rfl) (⟨by unfold acc; simp_all [bI]; try omega, rfl⟩)
    · refine lv_tableIn (tgt := 56) (off := 41) hx hb dX0_accepts_15 (by rw [hkI]; decide) (by rw [hkI]; decide) (by rw [hkI]; rfl) (by decide) ?_
      refine lv_iload_n hx hb dX0_accepts_56 rfl (lv_at hl 0 rfl) ?_
      refine lv_iconst (v := 3) hx hb dX0_accepts_57 (by decide) ?_
      refine lv_icmp_ne (tgt := 65) hx hb dX0_accepts_58 (by decide) (fun c_58 => ?_) (fun c_58 => ?_)
      · skip
        have n_58 : ¬ sn = 3 := fun h => absurd ((nI_eq (by omega) (by omega)).mpr h) c_58
        refine lv_iconst (v := 0) hx hb dX0_accepts_65 (by decide) ?_
        exact m_zret C w dX0_accepts_66 (by omega) (by omega) (by first | exact Or.inl rfl | exact Or.inr rfl) (⟨by unfold acc; simp_all [bI]; try omega, rfl⟩)
      · skip
        have n_58 : sn = 3 := (nI_eq (by omega) (by omega)).mp (by first | exact c_58 | exact Classical.not_not.mp c_58)
        refine lv_iconst (v := 1) hx hb dX0_accepts_61 (by decide) ?_
        refine lv_goto (tgt := 66) hx hb dX0_accepts_62 (by decide) ?_
        exact m_zret C w dX0_accepts_66 (by omega) (by omega) (by first | exact Or.inl rfl | exact Or.inr rfl) (⟨by unfold acc; simp_all [bI]; try omega, rfl⟩)
    · refine lv_tableIn (tgt := 67) (off := 52) hx hb dX0_accepts_15 (by rw [hkI]; decide) (by rw [hkI]; decide) (by rw [hkI]; rfl) (by decide) ?_
      refine lv_iload_n hx hb dX0_accepts_67 rfl (lv_at hl 0 rfl) ?_
      refine lv_iconst (v := 4) hx hb dX0_accepts_68 (by decide) ?_
      refine lv_icmp_eq (tgt := 77) hx hb dX0_accepts_69 (by decide) (fun c_69 => ?_) (fun c_69 => ?_)
      · skip
        have n_69 : sn = 4 := (nI_eq (by omega) (by omega)).mp (by first | exact c_69 | exact Classical.not_not.mp c_69)
        refine lv_iconst (v := 1) hx hb dX0_accepts_77 (by decide) ?_
        refine lv_goto (tgt := 82) hx hb dX0_accepts_78 (by decide) ?_
        exact m_zret C w dX0_accepts_82 (by omega) (by omega) (by first | exact Or.inl rfl | exact Or.inr rfl) (⟨by unfold acc; simp_all [bI]; try omega, rfl⟩)
      · skip
        have n_69 : ¬ sn = 4 := fun h => absurd ((nI_eq (by omega) (by omega)).mpr h) c_69
        refine lv_iload_n hx hb dX0_accepts_72 rfl (lv_at hl 0 rfl) ?_
        refine lv_iconst (v := 5) hx hb dX0_accepts_73 (by decide) ?_
        refine lv_icmp_ne (tgt := 81) hx hb dX0_accepts_74 (by decide) (fun c_74 => ?_) (fun c_74 => ?_)
        · skip
          have n_74 : ¬ sn = 5 := fun h => absurd ((nI_eq (by omega) (by omega)).mpr h) c_74
          refine lv_iconst (v := 0) hx hb dX0_accepts_81 (by decide) ?_
          exact m_zret C w dX0_accepts_82 (by omega) (by omega) (by first | exact Or.inl rfl | exact Or.inr rfl) (⟨by unfold acc; simp_all [bI]; try omega, rfl⟩)
        · skip
          have n_74 : sn = 5 := (nI_eq (by omega) (by omega)).mp (by first | exact c_74 | exact Classical.not_not.mp c_74)
          refine lv_iconst (v := 1) hx hb dX0_accepts_77 (by decide) ?_
          refine lv_goto (tgt := 82) hx hb dX0_accepts_78 (by decide) ?_
          exact m_zret C w dX0_accepts_82 (by omega) (by omega) (by first | exact Or.inl rfl | exact Or.inr rfl) (⟨by unfold acc; simp_all [bI]; try omega, rfl⟩)
    · refine lv_tableIn (tgt := 83) (off := 68) hx hb dX0_accepts_15 (by rw [hkI]; decide) (by rw [hkI]; decide) (by rw [hkI]; rfl) (by decide) ?_
      refine lv_iload_n hx hb dX0_accepts_83 rfl (lv_at hl 0 rfl) ?_
      refine lv_bipush (v := 6) hx hb dX0_accepts_84 (by decide) ?_
      refine lv_icmp_ne (tgt := 93) hx hb dX0_accepts_86 (by decide) (fun c_86 => ?_) (fun c_86 => ?_)
      · skip
        have n_86 : ¬ sn = 6 := fun h => absurd ((nI_eq (by omega) (by omega)).mpr h) c_86
        refine lv_iconst (v := 0) hx hb dX0_accepts_93 (by decide) ?_
        exact m_zret C w dX0_accepts_94 (by omega) (by omega) (by first | exact Or.inl rfl | exact Or.inr rfl) (⟨by unfold acc; simp_all [bI]; try omega, rfl⟩)
      · skip
        have n_86 : sn = 6 := (nI_eq (by omega) (by omega)).mp (by first | exact c_86 | exact Classical.not_not.mp c_86)
        refine lv_iconst (v := 1) hx hb dX0_accepts_89 (by decide) ?_
        refine lv_goto (tgt := 94) hx hb dX0_accepts_90 (by decide) ?_
        exact m_zret C w dX0_accepts_94 (by omega) (by omega) (by first | exact Or.inl rfl | exact Or.inr rfl) (⟨by unfold acc; simp_all [bI]; try omega, rfl⟩)
  rcases hz with ⟨rfl, fs, hz⟩ | ⟨a, b, hs, hz⟩
  · refine m_callU C w hl.1 (As := []) (rest := []) (c_Hold_sort l D y S0 M F z) (va_cwA (owner := "BeadBench$Thing") (x := ⟨"BeadBench$Thing", "sortOfThing", "()I"⟩) 0 C.2.2.2.2.1 gX0_accepts_X0_sortOfThing_u29X0 rfl rfl rfl (C.2.2.2.2.2.2.2.1.2.1 _ (by decide +kernel)) (by decide +kernel) ⟨Nat.le_of_ble_eq_true rfl, Nat.le_of_ble_eq_true rfl⟩) hz (T := TX0) (N := 5) rfl rfl (by decide) dX0_accepts_7 ⟨by omega, by omega⟩ (fun v M1 H locs hq w => ?_)
    obtain ⟨rfl, hM1⟩ := hq
    rw [hM1] at w
    exact key H locs w
  · refine m_callU C w hl.1 (As := []) (rest := []) (c_Piece_sort2 l D y S0 M F z sn a b hz) (va_cwA (owner := "BeadBench$Thing") (x := ⟨"BeadBench$Thing", "sortOfThing", "()I"⟩) 0 C.2.2.2.2.1 gX0_accepts_X1_sortOfThing_u29X1 rfl rfl rfl (C.2.2.2.2.2.2.2.1.2.1 _ (by decide +kernel)) (by decide +kernel) ⟨Nat.le_of_ble_eq_true rfl, Nat.le_of_ble_eq_true rfl⟩) hz (T := TX1) (N := 3) rfl rfl (by decide) dX0_accepts_7 ⟨by omega, by omega⟩ (fun v M1 H locs hq w => ?_)
    obtain ⟨rfl, hM1⟩ := hq
    rw [hM1] at w
    exact key H locs w
theorem c_Hold_accepts (l : Launch) (D : va_G) (y : mY) (S0 : Nat) (M F : mp) (h k n : Nat) (t : Int32) (na ta : Nat) (hh : M h = some (eO 0 (hF k n t na ta))) (hk : k < 14) (hn : n ≤ 64) (o so : Option Nat) (hso : thS M o so) : ct l yX0_accepts wsX0_accepts 1 20 0 0 D y S0 M F [.ref h, va_rf o] (fun v M' => v = some (.int (bI (acc k so))) ∧ M' = M) := by
  rcases hso with ⟨rfl, rfl⟩ | ⟨z, sn, rfl, rfl, hz⟩
  · exact c_Hold_accepts_n l D y S0 M F h k n t na ta hh hk hn
  · exact c_Hold_accepts_s l D y S0 M F h k n t na ta hh hk hn z sn hz
end
section
/-! what a bench IS, and what each call answers and does to it, in words of its own: both the class and the reference are held against it -/
/-- kinds and holdings of the trays; the rows made, their kinds, sizes, contents (a number; 0 nothing, n a piece's number, -1 - r the row r); the pieces made, their sorts, their polish; the row that undo brings back, and what it was; FILLED; the counts -/
abbrev St : Type := (Nat → Nat) × (Nat → Int32) × Nat × (Nat → Nat) × (Nat → Nat) × (Nat → Nat → Int64) × Nat × (Nat → Nat) × (Nat → Int32) × Option Nat × (Nat → Int64) × Nat × (Nat → Int32)
abbrev sH (S : St) : Nat → Nat := S.1
abbrev sO (S : St) : Nat → Int32 := S.2.1
abbrev sN (S : St) : Nat := S.2.2.1
abbrev sK (S : St) : Nat → Nat := S.2.2.2.1
abbrev sZ (S : St) : Nat → Nat := S.2.2.2.2.1
abbrev sC (S : St) : Nat → Nat → Int64 := S.2.2.2.2.2.1
abbrev sP (S : St) : Nat := S.2.2.2.2.2.2.1
abbrev sS (S : St) : Nat → Nat := S.2.2.2.2.2.2.2.1
abbrev sL (S : St) : Nat → Int32 := S.2.2.2.2.2.2.2.2.1
abbrev sB (S : St) : Option Nat := S.2.2.2.2.2.2.2.2.2.1
abbrev sF (S : St) : Nat → Int64 := S.2.2.2.2.2.2.2.2.2.2.1
abbrev sI (S : St) : Nat := S.2.2.2.2.2.2.2.2.2.2.2.1
abbrev sT (S : St) : Nat → Int32 := S.2.2.2.2.2.2.2.2.2.2.2.2
abbrev mkS (a : Nat → Nat) (b : Nat → Int32) (n : Nat) (k z : Nat → Nat) (c : Nat → Nat → Int64) (p : Nat) (so : Nat → Nat) (po : Nat → Int32) (br : Option Nat) (bf : Nat → Int64) (fl : Nat) (t : Nat → Int32) : St := (a, b, n, k, z, c, p, so, po, br, bf, fl, t)
def wTr (S : St) (a : Nat → Nat) (b : Nat → Int32) : St := mkS a b (sN S) (sK S) (sZ S) (sC S) (sP S) (sS S) (sL S) (sB S) (sF S) (sI S) (sT S)
def wRC (S : St) (c : Nat → Nat → Int64) : St := mkS (sH S) (sO S) (sN S) (sK S) (sZ S) c (sP S) (sS S) (sL S) (sB S) (sF S) (sI S) (sT S)
def wPc (S : St) (p : Nat) (so : Nat → Nat) : St := mkS (sH S) (sO S) (sN S) (sK S) (sZ S) (sC S) p so (sL S) (sB S) (sF S) (sI S) (sT S)
def wPo (S : St) (po : Nat → Int32) : St := mkS (sH S) (sO S) (sN S) (sK S) (sZ S) (sC S) (sP S) (sS S) po (sB S) (sF S) (sI S) (sT S)
def wBf (S : St) (br : Option Nat) (bf : Nat → Int64) : St := mkS (sH S) (sO S) (sN S) (sK S) (sZ S) (sC S) (sP S) (sS S) (sL S) br bf (sI S) (sT S)
def wFl (S : St) (fl : Nat) : St := mkS (sH S) (sO S) (sN S) (sK S) (sZ S) (sC S) (sP S) (sS S) (sL S) (sB S) (sF S) fl (sT S)
def wCt (S : St) (t : Nat → Int32) : St := mkS (sH S) (sO S) (sN S) (sK S) (sZ S) (sC S) (sP S) (sS S) (sL S) (sB S) (sF S) (sI S) t
def s00 : St := mkS (fun _ => 0) (fun _ => 0) 0 (fun _ => 0) (fun _ => 0) (fun _ _ => 0) 0 (fun _ => 0) (fun _ => 0) none (fun _ => 0) 0 (fun _ => 0)
def cN (x : Int32) : Nat := x.toNatClampNeg
def pN (x : Int64) : Nat := x.toInt.toNat
def rN (x : Int64) : Nat := (-1 - x.toInt).toNat
def rowT (S : St) (t : Nat) : Nat := cN (sO S t)
def zT (S : St) (t : Nat) : Nat := if 2 ≤ sH S t then sZ S (rowT S t) else 0
/-- how many of the first n are so, ahead of the first that isn't -/
def ld (P : Nat → Bool) : Nat → Nat
  | 0 => 0
  | n + 1 => if ld P n = n ∧ P n = true then n + 1 else ld P n
theorem ld_le (P : Nat → Bool) (n : Nat) : ld P n ≤ n := by
  induction n with
  | zero => exact Nat.le_refl 0
  | succ n ih =>
    unfold ld
    split <;> omega
theorem ld_eq {P : Nat → Bool} {K : Nat} : ∀ {n : Nat}, K ≤ n → (∀ k, k < K → P k = true) → (K = n ∨ P K = false) → ld P n = K := by
  intro n
  induction n with
  | zero => intro h _ _; unfold ld; omega
  | succ n ih =>
    intro h h1 h2
    unfold ld
    by_cases hk : K = n + 1
    · have e : ld P n = n := by
        have : ∀ m, m ≤ n → ld P m = m := by
          intro m
          induction m with
          | zero => intro _; rfl
          | succ m im =>
            intro hm
            unfold ld
            rw [if_pos ⟨im (by omega), h1 m (by omega)⟩]
        exact this n (Nat.le_refl n)
      rw [if_pos ⟨e, h1 n (by omega)⟩]
      exact hk.symm
    · have h3 : P K = false := h2.resolve_left hk
      have e : ld P n = K := ih (by omega) h1 (Or.inr h3)
      rw [e]
      by_cases hn : K = n
      · rw [if_neg (fun q => by rw [← hn, h3] at q; cases q.2)]
      · rw [if_neg (fun q => hn q.1)]
theorem ld_all {P : Nat → Bool} : ∀ {n k : Nat}, k < ld P n → P k = true := by
  intro n
  induction n with
  | zero => intro k h; exact absurd h (Nat.not_lt_zero k)
  | succ n ih =>
    intro k h
    unfold ld at h
    split at h
    · rename_i q
      by_cases hk : k = n
      · rw [hk]; exact q.2
      · exact ih (by rw [q.1]; omega)
    · exact ih h
/-- does a thing go into a row of kind k -/
def gs (S : St) (k : Nat) (x : Int64) : Bool := isN k || (decide (x = 0) || (if k = 13 ∨ x < 0 then decide (k = 13) && decide (x < 0) else decide (k = 10) || (decide (k = 11) && decide (sS S (pN x) = 2) || decide (k = 12) && decide (3 ≤ sS S (pN x)))))
def nw (k : Nat) (v : Int32) : Int64 := if k = 2 then (if v = 0 then 0 else 1) else if k = 3 then v.toInt8.toInt32.toInt64 else if k = 4 then ((v.toUInt32 % 65536).toInt32).toInt64 else if k = 5 then v.toInt16.toInt32.toInt64 else if k = 8 then FP.f2l (FP.i2f v) else v.toInt64
def kin (k : Int32) : Bool := !decide (k < 2) && !decide (13 < k)
def sp_lay (S : St) (t k n : Int32) : Int32 × St := if (inP t 12 && (kin k && inP n 65)) = true then
    (n, mkS (va_up (sH S) (cN t) (cN k)) (va_up (sO S) (cN t) (nI (sN S))) (sN S + 1) (va_up (sK S) (sN S) (cN k)) (va_up (sZ S) (sN S) (cN n)) (va_up (sC S) (sN S) (fun _ => 0)) (sP S) (sS S) (sL S) (sB S) (sF S) (sI S) (sT S))
  else (-6, S)
def sp_ticket (S : St) (t w num : Int32) : Bool × St := if (inP t 12 && inP w 2) = true then (true, wTr S (va_up (sH S) (cN t) (cN w)) (va_up (sO S) (cN t) (if w = 1 then num else 0))) else (false, S)
def sp_share (S : St) (a t : Int32) : Int32 × St := if (inP a 12 && inP t 12) = true then (nI (sH S (cN a)), wTr S (va_up (sH S) (cN t) (sH S (cN a))) (va_up (sO S) (cN t) (sO S (cN a)))) else (-6, S)
def md5 (v : Int32) : Nat := (v.toInt % 5).toNat
def mkP (S : St) (v : Int32) : Int64 × St := if md5 v = 0 then (0, S) else (lN (sP S + 1), wPc S (sP S + 1) (va_up (sS S) (sP S + 1) (md5 v)))
def thg (S : St) (k : Nat) (v : Int32) : Int64 × St := if isN k = true then (nw k v, S) else if k = 13 then (if (inP v 12 && decide (sH S (cN v) = 6)) = true then -1 - (sO S (cN v)).toInt64 else 0, S) else mkP S v
def pRC (S : St) (r i : Nat) (x : Int64) : St := wRC S (va_up (sC S) r (va_up (sC S r) i x))
def put1 (S : St) (t : Nat) (i : Int32) (x : Int64) : Int32 × St := if inP i (zT S t) = false then (-4, S) else if gs S (sH S t) x = false then (-3, S) else (1, pRC S (rowT S t) (cN i) x)
def sp_put (S : St) (t i v : Int32) : Int32 × St := if inP t 12 = false then (-6, S) else if sH S (cN t) < 2 then (fR (sH S (cN t)), S) else put1 (thg S (sH S (cN t)) v).2 (cN t) i (thg S (sH S (cN t)) v).1
def kep (S : St) (t : Nat) : St := if 2 ≤ sH S t then wBf S (some (rowT S t)) (sC S (rowT S t)) else wBf S none (sF S)
def unl (S : St) (a b : Nat) : Int32 := if sH S a = 0 ∨ sH S b = 0 then -1 else if sH S a = 1 ∨ sH S b = 1 then -2 else if (isN (sH S a) || isN (sH S b)) = true ∧ sH S a ≠ sH S b then -3 else 0
def mvK (S : St) (a p b n : Nat) : Nat := ld (fun k => gs S (sH S b) (sC S (rowT S a) (p + k))) n
def mvR (S : St) (a p b q K : Nat) : St := wRC S (va_up (sC S) (rowT S b) (fun j => if q ≤ j ∧ j < q + K then sC S (rowT S a) (p + (j - q)) else sC S (rowT S b) j))
def movd (S : St) (a : Nat) (p : Int32) (b : Nat) (q n : Int32) : Int32 × St := if ¬ unl S a b = 0 then (unl S a b, wFl S 0) else if (hpl p n (zT S a) && hpl q n (zT S b)) = false then (-4, wFl S 0) else
  (if mvK S a (cN p) b (cN n) < cN n then -5 else n, wFl (mvR S a (cN p) b (cN q) (mvK S a (cN p) b (cN n))) (mvK S a (cN p) b (cN n)))
def tix (x : Int32) : Nat := if x < 0 then cN (-x) else 0
def tell (S : St) (x : Int32) : St := wCt S (va_up (sT S) (tix x) (sT S (tix x) + 1))
def sp_move (S : St) (a p b q n : Int32) : Int32 × St := if (inP a 12 && inP b 12) = false then (-6, S) else ((movd (kep S (cN b)) (cN a) p (cN b) q n).1, tell (movd (kep S (cN b)) (cN a) p (cN b) q n).2 (movd (kep S (cN b)) (cN a) p (cN b) q n).1)
def sp_open (S : St) (t i n : Int32) : Int32 × St := if inP t 12 = false then (-6, S) else sp_move S t i t (i + n) (nI (zT S (cN t)) - i - n)
def sp_close (S : St) (t i n : Int32) : Int32 × St := if inP t 12 = false then (-6, S) else sp_move S t (i + n) t i (nI (zT S (cN t)) - i - n)
def tiK (k : Int32) (m i : Nat) : Nat := ((k.toInt + (i : Int)) % (m : Int)).toNat
def turn1 (S : St) (t : Nat) (k : Int32) : Int32 × St := if sH S t < 2 then (fR (sH S t), tell (kep S t) (fR (sH S t))) else
  (nI (zT S t), tell (wRC (kep S t) (va_up (sC S) (rowT S t) (fun i => sC S (rowT S t) (tiK k (zT S t) i)))) (nI (zT S t)))
def sp_turn (S : St) (t k : Int32) : Int32 × St := if inP t 12 = false then (-6, S) else turn1 S (cN t) k
def spr1 (S : St) (t : Nat) (n : Int32) : Int32 × St := if sH S t < 2 then (fR (sH S t), tell (kep S t) (fR (sH S t))) else if (!decide (n < 1) && !decide (nI (zT S t) < n)) = false then (-4, tell (kep S t) (-4)) else
  (nI (zT S t), tell (wRC (kep S t) (va_up (sC S) (rowT S t) (fun i => sC S (rowT S t) (if i < cN n then i else i % cN n)))) (nI (zT S t)))
def sp_spread (S : St) (t n : Int32) : Int32 × St := if inP t 12 = false then (-6, S) else spr1 S (cN t) n
def sp_undo (S : St) : Int32 × St := match sB S with
  | none => (-1, S)
  | some r => (nI (sZ S r), wBf (wRC S (va_up (sC S) r (sF S))) none (sF S))
def mat1 (S : St) (a : Nat) (p : Int32) (b : Nat) (q n : Int32) : Int32 := if ¬ unl S a b = 0 then unl S a b else if (!decide (n < 0) && (inP p (zT S a + 1) && inP q (zT S b + 1))) = false then -4 else
  nI (ld (fun j => decide (sC S (rowT S a) (cN p + j) = sC S (rowT S b) (cN q + j))) (min (cN n) (min (zT S a - cN p) (zT S b - cN q))))
def sp_match (S : St) (a p b q n : Int32) : Int32 := if (inP a 12 && inP b 12) = false then -6 else mat1 S (cN a) p (cN b) q n
def atx (S : St) (t : Nat) (i : Int32) : Int64 := sC S (rowT S t) (cN i)
def pol1 (S : St) (t : Nat) (i more : Int32) : Int32 × St := if sH S t < 2 then (fR (sH S t), S) else if (isN (sH S t) || decide (sH S t = 13)) = true then (-3, S) else if inP i (zT S t) = false then (-4, S) else if atx S t i = 0 then (-1, S) else
  (nI (pN (atx S t i)), wPo S (va_up (sL S) (pN (atx S t i)) (sL S (pN (atx S t i)) + more)))
def sp_polish (S : St) (t i more : Int32) : Int32 × St := if inP t 12 = false then (-6, S) else pol1 S (cN t) i more
def sp_tray (S : St) (t w : Int32) : Int32 := if (inP t 12 && inP w 2) = false then -6 else if w = 0 then nI (sH S (cN t)) else if sH S (cN t) = 1 then sO S (cN t) else nI (zT S (cN t))
def wha1 (S : St) (t : Nat) (i : Int32) : Int32 := if sH S t < 2 then fR (sH S t) else if inP i (zT S t) = false then -4 else if isN (sH S t) = true then 1 else if atx S t i = 0 then 0 else if atx S t i < 0 then 6 else nI (sS S (pN (atx S t i)) + 1)
def sp_what (S : St) (t i : Int32) : Int32 := if inP t 12 = false then -6 else wha1 S (cN t) i
def at1 (S : St) (t : Nat) (i : Int32) : Int64 := if inP i (zT S t) = false then 0 else if isN (sH S t) = true then atx S t i else if atx S t i = 0 then 0 else if atx S t i < 0 then lN (sZ S (rN (atx S t i))) else atx S t i
def sp_at (S : St) (t i : Int32) : Int64 := if inP t 12 = false then 0 else at1 S (cN t) i
def sumW (f : Nat → Int64) : Nat → Int32
  | 0 => 0
  | n + 1 => sumW f n + (f n).toInt32
def pod1 (S : St) (t : Nat) (i : Int32) : Int32 := if inP i (zT S t) = false then 0 else if isN (sH S t) = true then 0 else if atx S t i = 0 then 0 else if atx S t i < 0 then sumW (sC S (rN (atx S t i))) (sZ S (rN (atx S t i))) else sL S (pN (atx S t i))
def sp_polished (S : St) (t i : Int32) : Int32 := if inP t 12 = false then 0 else pod1 S (cN t) i
def sp_told (S : St) (w : Int32) : Int32 := if w = 0 then nI (sI S) else if (!decide (w < 1) && !decide (6 < w)) = true then sT S (cN w - 1) else if w = 7 then nI (sP S) else -6
/-- what may lie at a place of a row of kind k -/
def val (S : St) (k : Nat) (x : Int64) : Prop := k ≤ 9 ∨ x = 0 ∨ (10 ≤ k ∧ k ≤ 12 ∧ ∃ p, 1 ≤ p ∧ p ≤ sP S ∧ x = lN p) ∨ (k = 13 ∧ ∃ r, r < sN S ∧ sK S r = 6 ∧ x = -1 - lN r)
/-- what holds of a bench behind c calls -/
def Inv (c : Nat) (S : St) : Prop := sN S ≤ c ∧ sP S ≤ c ∧ c ≤ 512 ∧ (∀ r, r < sN S → 2 ≤ sK S r ∧ sK S r ≤ 13 ∧ sZ S r ≤ 64 ∧ ∀ i, i < sZ S r → val S (sK S r) (sC S r i)) ∧ (∀ k, 1 ≤ k → k ≤ sP S → 1 ≤ sS S k ∧ sS S k ≤ 4) ∧ (∀ k, sP S < k → sL S k = 0) ∧
  (∀ t, t < 12 → sH S t ≤ 13 ∧ (2 ≤ sH S t → ∃ r, r < sN S ∧ sO S t = nI r ∧ sK S r = sH S t)) ∧ (∀ r, sB S = some r → r < sN S ∧ ∀ i, i < sZ S r → val S (sK S r) (sF S i)) ∧ sI S ≤ 64
theorem cN_nI {n : Nat} (h : n < 2 ^ 31) : cN (nI n) = n := nI_clamp h
theorem lN_inj {a b : Nat} (ha : a < 2 ^ 31) (hb : b < 2 ^ 31) (h : lN a = lN b) : a = b := (lN_eq ha hb).mp h
theorem lN_pN {p : Nat} (h : p < 2 ^ 31) : pN (lN p) = p := by
  unfold pN
  rw [lN_toInt h]
  exact Int.toNat_natCast p
theorem lN_nn {p : Nat} (h : p < 2 ^ 31) : ¬ lN p < 0 := by
  rw [show (0 : Int64) = lN 0 from rfl, lN_lt h (by decide)]
  omega
theorem neg_toInt {r : Nat} (h : r < 2 ^ 31) : (-1 - lN r : Int64).toInt = -1 - (r : Int) := by
  rw [Int64.toInt_sub, lN_toInt h, show (-1 : Int64).toInt = -1 from rfl]
  rw [Int.bmod_eq_of_le] <;> omega
theorem neg_rN {r : Nat} (h : r < 2 ^ 31) : rN (-1 - lN r) = r := by
  unfold rN
  rw [neg_toInt h]
  omega
theorem neg_lt {r : Nat} (h : r < 2 ^ 31) : (-1 - lN r : Int64) < 0 := by
  rw [Int64.lt_iff_toInt_lt, neg_toInt h]
  show _ < (0 : Int)
  omega
theorem neg_ne {r : Nat} (h : r < 2 ^ 31) : ¬ (-1 - lN r : Int64) = 0 := fun e => by
  have := neg_toInt h
  rw [e] at this
  have h0 : (0 : Int64).toInt = 0 := rfl
  omega
theorem lN_ne {p : Nat} (h : p < 2 ^ 31) (h1 : 1 ≤ p) : ¬ lN p = 0 := fun e => by
  have := lN_inj h (by decide : (0 : Nat) < 2 ^ 31) e
  omega
end
section
/-! the class's world: where the bench's things lie, and that the map holds them -/
abbrev Ad : Type := Nat × Nat × Nat × Nat × (Nat → Nat) × (Nat → Nat) × (Nat → Nat) × (Nat → Nat)
abbrev xN (A : Ad) : Nat := A.1
abbrev xT (A : Ad) : Nat := A.2.1
abbrev xB (A : Ad) : Nat := A.2.2.1
abbrev xY (A : Ad) : Nat := A.2.2.2.1
abbrev xr (A : Ad) : Nat → Nat := A.2.2.2.2.1
abbrev xn (A : Ad) : Nat → Nat := A.2.2.2.2.2.1
abbrev xt (A : Ad) : Nat → Nat := A.2.2.2.2.2.2.1
abbrev xp (A : Ad) : Nat → Nat := A.2.2.2.2.2.2.2
def zz (S : St) (j : Nat) : Nat := if j = 0 then 64 else sZ S (j - 1)
abbrev bF (A : Ad) (S : St) : List Value := [.ref (xN A), .ref (xT A), .ref (xB A), va_rf ((sB S).map (xr A)), .ref (xY A), .int (nI (sI S)), .int (nI (sP S))]
/-- a cell of a thing: a row or a piece -/
def isTh (A : Ad) (S : St) (z : Nat) : Prop := (∃ r, r < sN S ∧ z = xr A r) ∨ ∃ k, 1 ≤ k ∧ k ≤ sP S ∧ z = xp A k
def trOK (A : Ad) (tr : Nat → Nat) (S : St) (M : mp) : Prop := ∀ t, t < 12 → (sH S t = 0 ∧ tr t = xN A) ∨ (sH S t = 1 ∧ ∃ a b, M (tr t) = some (eO 0 (hF 1 0 (sO S t) a b))) ∨ (2 ≤ sH S t ∧ ∃ r, r < sN S ∧ sO S t = nI r ∧ sK S r = sH S t ∧ tr t = xr A r)
/-- the parts of the map that never change, or by their own calls alone -/
def CW1 (y : mY) (h0 : Nat) (A : Ad) (tr : Nat → Nat) (S : St) (M : mp) : Prop :=
  M h0 = some (eO 2 (bF A S)) ∧ (∃ a b, M (xN A) = some (eO 0 (hF 0 0 0 a b))) ∧ M (xT A) = some (eH y 12 (fun t => some (tr t))) ∧ M (xB A) = some (eO 0 (hF 0 64 0 (xn A 0) (xt A 0))) ∧ M (xY A) = some (eI y 6 (sT S)) ∧
  (∀ r, r < sN S → M (xr A r) = some (eO 0 (hF (sK S r) (sZ S r) 0 (xn A (r + 1)) (xt A (r + 1))))) ∧ (∀ k, 1 ≤ k → k ≤ sP S → M (xp A k) = some (eO 1 [.int (nI (sS S k + 1)), .int (nI k), .int (sL S k)])) ∧ trOK A tr S M
/-- the rows' arrays: row r's are number r + 1, what undo brings back is number 0 -/
def CW2 (y : mY) (A : Ad) (f : Nat → Nat → Int64) (g : Nat → Nat → Option Nat) (S : St) (M : mp) : Prop :=
  (∀ j, j ≤ sN S → M (xn A j) = some (eL y (zz S j) (f j))) ∧ (∀ j, j ≤ sN S → M (xt A j) = some (eT y (zz S j) (g j))) ∧ (∀ j i z, j ≤ sN S → i < zz S j → g j i = some z → isTh A S z)
def CW3 (A : Ad) (S : St) : Prop := (∀ i j, i ≤ sN S → j ≤ sN S → xn A i = xn A j → i = j) ∧ (∀ i j, i ≤ sN S → j ≤ sN S → xt A i = xt A j → i = j) ∧ (∀ j, j ≤ sN S → xt A j ≠ xT A) ∧ (∀ i j, i < sN S → j < sN S → xr A i = xr A j → i = j) ∧ (∀ i j, 1 ≤ i → i ≤ sP S → 1 ≤ j → j ≤ sP S → xp A i = xp A j → i = j)
def CW (y : mY) (h0 : Nat) (A : Ad) (tr : Nat → Nat) (f : Nat → Nat → Int64) (g : Nat → Nat → Option Nat) (S : St) (M : mp) : Prop := CW1 y h0 A tr S M ∧ CW2 y A f g S M ∧ CW3 A S
def nu (k : Nat) (x : Int64) : Int64 := if k ≤ 9 then x else 0
def th (A : Ad) (k : Nat) (x : Int64) : Option Nat := if k ≤ 9 then none else if x = 0 then none else if x < 0 then some (xr A (rN x)) else some (xp A (pN x))
def CR (A : Ad) (f : Nat → Nat → Int64) (g : Nat → Nat → Option Nat) (S : St) : Prop := (∀ r i, r < sN S → i < sZ S r → f (r + 1) i = nu (sK S r) (sC S r i) ∧ g (r + 1) i = th A (sK S r) (sC S r i)) ∧ (∀ r i, sB S = some r → i < sZ S r → f 0 i = nu (sK S r) (sF S i) ∧ g 0 i = th A (sK S r) (sF S i))
def RC (y : mY) (h0 : Nat) (S : St) (M : mp) : Prop := ∃ (A : Ad) (tr : Nat → Nat) (f : Nat → Nat → Int64) (g : Nat → Nat → Option Nat), CW y h0 A tr f g S M ∧ CR A f g S
def up2 {α : Type} (f : Nat → Nat → α) (a i : Nat) (v : α) : Nat → Nat → α := va_up f a (va_up (f a) i v)
theorem up2_s {α : Type} {f : Nat → Nat → α} {a i : Nat} {v : α} : up2 f a i v a i = v := by simp [up2, va_up]
theorem up2_o {α : Type} {f : Nat → Nat → α} {a i b j : Nat} {v : α} (h : b ≠ a ∨ j ≠ i) : up2 f a i v b j = f b j := by
  unfold up2 va_up
  by_cases hb : b = a
  · subst hb
    have hj : j ≠ i := h.resolve_left (fun q => q rfl)
    simp [hj]
  · simp [hb]
theorem zz_le {c : Nat} {S : St} (hI : Inv c S) {j : Nat} (hj : j ≤ sN S) : zz S j ≤ 64 := by
  unfold zz
  split
  · omega
  · exact (hI.2.2.2.1 (j - 1) (by omega)).2.2.1
theorem zz_s (S : St) (r : Nat) : zz S (r + 1) = sZ S r := by
  unfold zz
  rw [if_neg (by omega)]
  rfl
theorem zz_0 (S : St) : zz S 0 = 64 := rfl
section CWK
variable {y : mY} {h0 : Nat} {A : Ad} {tr : Nat → Nat} {f : Nat → Nat → Int64} {g : Nat → Nat → Option Nat} {S : St} {M M1 : mp}
/-- a thing's cell -/
theorem CW1.th (h : CW1 y h0 A tr S M) {z : Nat} (hz : isTh A S z) : (∃ vs, M z = some (eO 0 vs)) ∨ ∃ vs, M z = some (eO 1 vs) := by
  rcases hz with ⟨r, hr, rfl⟩ | ⟨k, h1, h2, rfl⟩
  · exact Or.inl ⟨_, h.2.2.2.2.2.1 r hr⟩
  · exact Or.inr ⟨_, h.2.2.2.2.2.2.1 k h1 h2⟩
/-- the first part stays where the map changes at an array that isn't one of its own -/
theorem CW1.arr (h : CW1 y h0 A tr S M) {a : Nat} {e : va_E} (hO : ∀ ci fs, M a ≠ some (eO ci fs)) (hT : a ≠ xT A) (hY : a ≠ xY A) : CW1 y h0 A tr S (mu M a e) := by
  obtain ⟨h1, ⟨a2, b2, h2⟩, h3, h4, h5, h6, h7, h8⟩ := h
  have k : ∀ {q ci : Nat} {fs : List Value}, M q = some (eO ci fs) → mu M a e q = some (eO ci fs) := fun hq => mu_k (fun e1 => hO _ _ (by rw [← e1]; exact hq)) hq
  refine ⟨k h1, ⟨a2, b2, k h2⟩, mu_k (Ne.symm hT) h3, k h4, mu_k (Ne.symm hY) h5, fun r hr => k (h6 r hr), fun p p1 p2 => k (h7 p p1 p2), fun t ht => ?_⟩
  rcases h8 t ht with q | ⟨q, a3, b3, q3⟩ | q
  · exact Or.inl q
  · exact Or.inr (Or.inl ⟨q, a3, b3, k q3⟩)
  · exact Or.inr (Or.inr q)
/-- place i of row a gets x and v -/
theorem CW.set (h : CW y h0 A tr f g S M) {a i : Nat} {x : Int64} {v : Option Nat} (ha : a ≤ sN S) (hi : i < zz S a) (hv : ∀ z, v = some z → isTh A S z) : CW y h0 A tr (up2 f a i x) (up2 g a i v) S (mu (mu M (xn A a) (eL y (zz S a) (va_up (f a) i x))) (xt A a) (eT y (zz S a) (va_up (g a) i v))) := by
  obtain ⟨h1, ⟨h2, h3, h4⟩, h5⟩ := h
  have ea := h2 a ha
  have eb := h3 a ha
  have eb' : mu M (xn A a) (eL y (zz S a) (va_up (f a) i x)) (xt A a) = some (eT y (zz S a) (g a)) := mu_k (m_ne eb ea ne_TL) eb
  have hnt : ∀ q, q ≤ sN S → xn A q ≠ xt A a := fun q hq => m_ne (h2 q hq) eb ne_LT
  have htn : ∀ q, q ≤ sN S → xt A q ≠ xn A a := fun q hq => m_ne (h3 q hq) ea ne_TL
  refine ⟨(h1.arr (fun _ _ e => by rw [ea] at e; simp at e) (m_ne ea h1.2.2.1 ne_LH) (m_ne ea h1.2.2.2.2.1 ne_LI)).arr (fun _ _ e => by rw [eb'] at e; simp at e) (h5.2.2.1 a ha) (m_ne eb h1.2.2.2.2.1 ne_TI), ⟨fun q hq => ?_, fun q hq => ?_, fun q k z hq hk hz => ?_⟩, h5⟩
  · rw [mu_n (hnt q hq)]
    by_cases e : q = a
    · rw [e, mu_s]
      simp [up2, va_up]
    · rw [mu_n (fun e1 => e (h5.1 q a hq ha e1)), h2 q hq]
      simp [up2, va_up, e]
  · by_cases e : q = a
    · rw [e, mu_s]
      simp [up2, va_up]
    · rw [mu_n (fun e1 => e (h5.2.1 q a hq ha e1)), mu_n (htn q hq), h3 q hq]
      simp [up2, va_up, e]
  · by_cases e : q = a ∧ k = i
    · rw [e.1, e.2, up2_s] at hz
      exact hv z hz
    · rw [up2_o (by omega)] at hz
      exact h4 q k z hq hk hz
/-- place i of row a gets what is at place j of row b -/
theorem CW.copy (h : CW y h0 A tr f g S M) {a b i j : Nat} (ha : a ≤ sN S) (hb : b ≤ sN S) (hi : i < zz S a) (hj : j < zz S b) : CW y h0 A tr (up2 f a i (f b j)) (up2 g a i (g b j)) S (mu (mu M (xn A a) (eL y (zz S a) (va_up (f a) i (f b j)))) (xt A a) (eT y (zz S a) (va_up (g a) i (g b j)))) :=
  h.set ha hi (fun z hz => h.2.1.2.2 b j z hb hj hz)
end CWK
/-- a thing's number in the map: 0 nothing, a piece's, or a row's -/
theorem th_ok {c : Nat} {y : mY} {h0 : Nat} {A : Ad} {tr : Nat → Nat} {S : St} {M : mp} (hI : Inv c S) (h1 : CW1 y h0 A tr S M) {k : Nat} {x : Int64} (hv : val S k x) (z : Nat) (hz : th A k x = some z) : isTh A S z := by
  unfold th at hz
  split at hz
  · cases hz
  · split at hz
    · cases hz
    · rename_i hk hx
      rcases hv with q | q | ⟨-, -, p, p1, p2, rfl⟩ | ⟨-, r, hr, -, rfl⟩
      · exact absurd q hk
      · exact absurd q hx
      · have hp : p < 2 ^ 31 := by have := hI.2.1; have := hI.2.2.1; omega
        rw [if_neg (lN_nn hp), lN_pN hp] at hz
        cases hz
        exact Or.inr ⟨p, p1, p2, rfl⟩
      · have hr2 : r < 2 ^ 31 := by have := hI.1; have := hI.2.2.1; omega
        rw [if_pos (neg_lt hr2), neg_rN hr2] at hz
        cases hz
        exact Or.inl ⟨r, hr, rfl⟩
/-- what lies there, as 'accepts' looks at it: into a row of kind kb it goes just as the spec says -/
def srt (S : St) (k : Nat) (x : Int64) : Option Nat := if k ≤ 9 then none else if x = 0 then none else if x < 0 then some 6 else some (sS S (pN x) + 1)
theorem th_srt {c : Nat} {y : mY} {h0 : Nat} {A : Ad} {tr : Nat → Nat} {S : St} {M : mp} (hI : Inv c S) (h1 : CW1 y h0 A tr S M) {k : Nat} {x : Int64} (hv : val S k x) : thS M (th A k x) (srt S k x) := by
  unfold th srt
  by_cases hk : k ≤ 9
  · rw [if_pos hk, if_pos hk]
    exact Or.inl ⟨rfl, rfl⟩
  · rw [if_neg hk, if_neg hk]
    by_cases hx : x = 0
    · rw [if_pos hx, if_pos hx]
      exact Or.inl ⟨rfl, rfl⟩
    · rw [if_neg hx, if_neg hx]
      rcases hv with q | q | ⟨-, -, p, p1, p2, rfl⟩ | ⟨-, r, hr, -, rfl⟩
      · exact absurd q hk
      · exact absurd q hx
      · have hp : p < 2 ^ 31 := by have := hI.2.1; have := hI.2.2.1; omega
        rw [if_neg (lN_nn hp), if_neg (lN_nn hp), lN_pN hp]
        have h2 := hI.2.2.2.2.1 p p1 p2
        exact Or.inr ⟨_, _, rfl, rfl, Or.inr ⟨_, _, by omega, h1.2.2.2.2.2.2.1 p p1 p2⟩⟩
      · have hr2 : r < 2 ^ 31 := by have := hI.1; have := hI.2.2.1; omega
        rw [if_pos (neg_lt hr2), if_pos (neg_lt hr2), neg_rN hr2]
        exact Or.inr ⟨_, _, rfl, rfl, Or.inl ⟨rfl, _, h1.2.2.2.2.2.1 r hr⟩⟩
/-- 'accepts' is the spec's 'goes', where the two rows are alike in kind -/
theorem acc_gs {c : Nat} {S : St} (hI : Inv c S) {k kb : Nat} {x : Int64} (hv : val S k x) (hkb : 2 ≤ kb ∧ kb ≤ 13) (hk : 2 ≤ k) (hu : ¬ ((isN k || isN kb) = true ∧ k ≠ kb)) : acc kb (srt S k x) = gs S kb x := by
  by_cases hn : isN kb = true
  · have e : k = kb := Classical.byContradiction fun q => hu ⟨by simp [hn], q⟩
    subst e
    have h9 : k ≤ 9 := by unfold isN at hn; simp at hn; exact hn.2
    unfold srt gs
    rw [if_pos h9, hn]
    rfl
  · have hn' : isN kb = false := by simpa using hn
    have hk9 : ¬ k ≤ 9 := by
      intro h9
      have : isN k = true := by unfold isN; simp; omega
      by_cases e : k = kb
      · rw [← e] at hn; exact hn this
      · exact hu ⟨by simp [this], e⟩
    have hb10 : 10 ≤ kb := by
      unfold isN at hn'
      simp at hn'
      omega
    unfold srt gs
    rw [if_neg hk9, hn']
    by_cases hx : x = 0
    · rw [if_pos hx]; simp [hx, acc]
    · rw [if_neg hx]
      rcases hv with q | q | ⟨-, -, p, p1, p2, rfl⟩ | ⟨-, r, hr, -, rfl⟩
      · exact absurd q hk9
      · exact absurd q hx
      · have hp : p < 2 ^ 31 := by have := hI.2.1; have := hI.2.2.1; omega
        have h2 := hI.2.2.2.2.1 p p1 p2
        rw [if_neg (lN_nn hp), lN_pN hp]
        have hl := lN_nn hp
        rcases (show kb = 10 ∨ kb = 11 ∨ kb = 12 ∨ kb = 13 by omega) with rfl | rfl | rfl | rfl
        · simp [acc, hl, hx]; omega
        · simp [acc, hl, hx]
        · simp [acc, hl, hx]
          rcases (show sS S p = 1 ∨ sS S p = 2 ∨ sS S p = 3 ∨ sS S p = 4 by omega) with q | q | q | q <;> rw [q] <;> decide
        · simp [acc, hl, hx]; omega
      · have hr2 : r < 2 ^ 31 := by have := hI.1; have := hI.2.2.1; omega
        have hl := neg_lt hr2
        rw [if_pos hl]
        rcases (show kb = 10 ∨ kb = 11 ∨ kb = 12 ∨ kb = 13 by omega) with rfl | rfl | rfl | rfl <;> simp [acc, hl, hx]
end
section
theorem ct_ofF {l : Launch} {yn : MethodName} {ws ws' : List Cond} {fr lo mc ms : Nat} {D : va_G} {y : mY} {S0 : Nat} {M F : mp} {av : List Value} {post : Option Value → mp → Prop} (cc : ByteArray) (maxL : Nat) (ret : Option FieldType) (lv : List (Nat × Value))
    (hy : plainFor yn = true) (hw : ws = Cond.code yn cc maxL ret :: ws') (hlen : (lg_sl av).length ≤ maxL) (hlv : lv_args 0 av = lv)
    (body : ∀ (p : Program) (e : Env) (s : State) (m : MethodId) (below : List Frame) (meth : Method) (c : Code) (ls : Array Slot), mC p s m av.toArray meth c cc maxL yn.cls ws ret D y S0 → meth.name = yn.name → lv_has ls maxL lv → mS D S0 M F s s.heap [] →
      W p l e { frames := fr, cells := mc, slots := ms, locals := lo } s m av.toArray below meth c s.heap [] 0 0 (MQ below (mQ D S0 F post) av.toArray s mc ms (fun q => S0 ≤ q)) (F0 m 0 ls [])) :
    ct l yn ws fr lo mc ms D y S0 M F av post := by
  refine va_MetF (cc := cc) (maxL := maxL) (ret := ret) hy hw ?_
  intro p e s m args below meth c s₁ B hml hv
  obtain ⟨rfl, hm, hT, hsz⟩ := hv
  have hl := lv_entry av (n := maxL) hlen
  rw [lg_entry_eq]
  rw [hlv] at hl
  exact body p e s m below meth c _ ⟨B.exec, B.bytes, hml, findClass_of_methodNamed B.named, atoms_spec (ws := ws) B.pre, B.returns, B.notSynchronized, hT, hsz⟩ (name_of_methodNamed B.named B.method).1 hl ⟨hm, va_S.rf⟩
theorem xor_neg (a : Int32) {m : Nat} (hm : m < 2 ^ 31) : (a ^^^ nI m) < 0 ↔ a < 0 := by
  have key : ∀ x : Int32, x < 0 ↔ x.toBitVec.msb = true := by
    intro x
    rw [Int32.lt_iff_toInt_lt, BitVec.msb_eq_toInt, decide_eq_true_iff]
    exact Iff.rfl
  rw [key, key, Int32.toBitVec_xor, BitVec.msb_xor]
  have h0 : (nI m).toBitVec.msb = false := by
    have := nI_pos hm
    rw [key] at this
    simpa using this
  rw [h0]
  simp
theorem rem_nn {a : Int32} {m : Nat} (hm : m < 2 ^ 31) (h : ¬ a < 0) : ¬ (a - a / nI m * nI m) < 0 := by
  rw [Int32.lt_iff_toInt_lt, rem_toInt, nI_toInt hm]
  rw [Int32.lt_iff_toInt_lt] at h
  have hz : (0 : Int32).toInt = 0 := rfl
  have := Int.tmod_nonneg (m : Int) (show 0 ≤ a.toInt by omega)
  omega
theorem rem_ng {a : Int32} {m : Nat} (hm : m < 2 ^ 31) (h : a < 0) (hr : ¬ (a - a / nI m * nI m) = 0) : (a - a / nI m * nI m) < 0 := by
  have h1 : (a - a / nI m * nI m).toInt = a.toInt.tmod m := by rw [rem_toInt, nI_toInt hm]
  have hz : (0 : Int32).toInt = 0 := rfl
  have hne : (a - a / nI m * nI m).toInt ≠ 0 := fun e => hr (Int32.toInt_inj.mp (e.trans hz.symm))
  rw [Int32.lt_iff_toInt_lt] at h ⊢
  have := Int.neg_tmod (a := -a.toInt) (b := (m : Int))
  have h3 := Int.tmod_nonneg (m : Int) (show 0 ≤ -a.toInt by omega)
  rw [Int.neg_neg] at this
  omega
/-- floorMod by a positive number -/
def fmd (a : Int32) (m : Nat) : Nat := (a.toInt % (m : Int)).toNat
theorem fmd_lt (a : Int32) {m : Nat} (h : 0 < m) : fmd a m < m := by
  unfold fmd
  have h1 := Int.emod_nonneg a.toInt (show (m : Int) ≠ 0 by omega)
  have h2 := Int.emod_lt_of_pos a.toInt (show (0 : Int) < m by omega)
  omega
theorem eq_nI {x : Int32} {n : Nat} (hn : n < 2 ^ 31) (h : x.toInt = n) : x = nI n := Int32.toInt_inj.mp (h.trans (nI_toInt hn).symm)
theorem fmd_pos (a : Int32) {m : Nat} (h0 : 0 < m) (hm : m < 2 ^ 31) (h : ¬ (a - a / nI m * nI m) < 0) : a - a / nI m * nI m = nI (fmd a m) := by
  refine eq_nI (by have := fmd_lt a h0; omega) ?_
  have h1 : (a - a / nI m * nI m).toInt = a.toInt.tmod m := by rw [rem_toInt, nI_toInt hm]
  rw [Int32.lt_iff_toInt_lt, h1] at h
  have hz : (0 : Int32).toInt = 0 := rfl
  have hem := Int.tmod_eq_emod (a := a.toInt) (b := (m : Int))
  have h3 := fmd_lt a h0
  unfold fmd at h3 ⊢
  have h4 := Int.emod_nonneg a.toInt (show (m : Int) ≠ 0 by omega)
  have h5 := Int.emod_lt_of_pos a.toInt (show (0 : Int) < m by omega)
  rw [h1, Int.toNat_of_nonneg h4]
  split at hem <;> omega
theorem fmd_neg (a : Int32) {m : Nat} (h0 : 0 < m) (hm : m < 2 ^ 31) (h : (a - a / nI m * nI m) < 0) : (a - a / nI m * nI m) + nI m = nI (fmd a m) := by
  refine eq_nI (by have := fmd_lt a h0; omega) ?_
  have h1 : (a - a / nI m * nI m).toInt = a.toInt.tmod m := by rw [rem_toInt, nI_toInt hm]
  rw [Int32.lt_iff_toInt_lt, h1] at h
  have hz : (0 : Int32).toInt = 0 := rfl
  have hem := Int.tmod_eq_emod (a := a.toInt) (b := (m : Int))
  have h3 := fmd_lt a h0
  unfold fmd at h3 ⊢
  have h4 := Int.emod_nonneg a.toInt (show (m : Int) ≠ 0 by omega)
  have h5 := Int.emod_lt_of_pos a.toInt (show (0 : Int) < m by omega)
  rw [Int32.toInt_add, h1, nI_toInt hm, Int.toNat_of_nonneg h4]
  have : (a.toInt.tmod m + m) = a.toInt % m := by split at hem <;> omega
  rw [this, Int.bmod_eq_of_le] <;> omega
def unlK (a b : Nat) : Int32 := if a = 0 ∨ b = 0 then -1 else if a = 1 ∨ b = 1 then -2 else if (isN a || isN b) = true ∧ a ≠ b then -3 else 0
theorem fR_0 {k : Nat} : fR k = 0 ↔ 2 ≤ k := by
  unfold fR
  by_cases h0 : k = 0
  · rw [if_pos h0]; exact ⟨fun h => absurd h (by decide), fun h => by omega⟩
  · rw [if_neg h0]
    by_cases h1 : k = 1
    · rw [if_pos h1]; exact ⟨fun h => absurd h (by decide), fun h => by omega⟩
    · rw [if_neg h1]; exact ⟨fun _ => by omega, fun _ => rfl⟩
/-- a tray's cell -/
theorem CW1.tray {c : Nat} {y : mY} {h0 : Nat} {A : Ad} {tr : Nat → Nat} {S : St} {M : mp} (h : CW1 y h0 A tr S M) (hI : Inv c S) {t : Nat} (ht : t < 12) : ∃ (tk : Int32) (na ta : Nat), M (tr t) = some (eO 0 (hF (sH S t) (zT S t) tk na ta)) ∧ (sH S t = 1 → tk = sO S t) ∧ (2 ≤ sH S t → rowT S t < sN S ∧ sO S t = nI (rowT S t) ∧ sK S (rowT S t) = sH S t ∧ tr t = xr A (rowT S t) ∧ na = xn A (rowT S t + 1) ∧ ta = xt A (rowT S t + 1)) := by
  obtain ⟨h1, ⟨a2, b2, h2⟩, h3, h4, h5, h6, h7, h8⟩ := h
  unfold zT
  rcases h8 t ht with ⟨q, e⟩ | ⟨q, a, b, e⟩ | ⟨q, r, hr, e1, e2, e3⟩
  · refine ⟨0, a2, b2, ?_, fun h => by omega, fun h => by omega⟩
    rw [q, e, if_neg (by omega)]
    exact h2
  · refine ⟨sO S t, a, b, ?_, fun _ => rfl, fun h => by omega⟩
    rw [q, if_neg (by omega)]
    exact e
  · have er : rowT S t = r := by
      unfold rowT
      rw [e1]
      exact cN_nI (by have := hI.1; have := hI.2.2.1; omega)
    rw [if_pos q, er]
    refine ⟨0, _, _, ?_, fun h => by omega, fun _ => ⟨hr, e1, e2, e3, rfl, rfl⟩⟩
    rw [e3, ← e2]
    exact h6 r hr
theorem zT_le {c : Nat} {S : St} (hI : Inv c S) {t : Nat} (ht : t < 12) : zT S t ≤ 64 := by
  unfold zT
  split
  · rename_i h
    obtain ⟨r, hr, e, -⟩ := (hI.2.2.2.2.2.2.1 t ht).2 h
    have er : rowT S t = r := by
      unfold rowT
      rw [e]
      exact cN_nI (by have := hI.1; have := hI.2.2.1; omega)
    rw [er]
    exact (hI.2.2.2.1 r hr).2.2.1
  · omega
/-- the bench's own cell is written -/
theorem CW.ben {y : mY} {h0 : Nat} {A : Ad} {tr : Nat → Nat} {f : Nat → Nat → Int64} {g : Nat → Nat → Option Nat} {S : St} {M : mp} (h : CW y h0 A tr f g S M) (S' : St) (hs : sH S' = sH S ∧ sO S' = sO S ∧ sN S' = sN S ∧ sK S' = sK S ∧ sZ S' = sZ S ∧ sP S' = sP S ∧ sS S' = sS S ∧ sL S' = sL S ∧ sT S' = sT S) : CW y h0 A tr f g S' (mu M h0 (eO 2 (bF A S'))) := by
  obtain ⟨⟨h1, ⟨a2, b2, h2⟩, h3, h4, h5, h6, h7, h8⟩, ⟨k1, k2, k3⟩, h9⟩ := h
  obtain ⟨a, b, n, k, z, c, p, so, po, br, bf, fl, t⟩ := S
  obtain ⟨a', b', n', k', z', c', p', so', po', br', bf', fl', t'⟩ := S'
  obtain ⟨rfl, rfl, rfl, rfl, rfl, rfl, rfl, rfl, rfl⟩ := hs
  refine ⟨⟨mu_s, ⟨a2, b2, mu_k (m_ne h2 h1 (by simp)) h2⟩, mu_k (m_ne h3 h1 (by simp)) h3, mu_k (m_ne h4 h1 (by simp)) h4, mu_k (m_ne h5 h1 (by simp)) h5, fun r hr => mu_k (m_ne (h6 r hr) h1 (by simp)) (h6 r hr), fun q q1 q2 => mu_k (m_ne (h7 q q1 q2) h1 (by simp)) (h7 q q1 q2), fun t ht => ?_⟩, ⟨fun j hj => mu_k (m_ne (k1 j hj) h1 (by simp)) (k1 j hj), fun j hj => mu_k (m_ne (k2 j hj) h1 (by simp)) (k2 j hj), k3⟩, h9⟩
  rcases h8 t ht with q | ⟨q, a3, b3, q3⟩ | q
  · exact Or.inl q
  · exact Or.inr (Or.inl ⟨q, a3, b3, mu_k (m_ne q3 h1 (by simp)) q3⟩)
  · exact Or.inr (Or.inr q)
theorem CW.rc {y : mY} {h0 : Nat} {A : Ad} {tr : Nat → Nat} {f : Nat → Nat → Int64} {g : Nat → Nat → Option Nat} {S : St} {M : mp} (h : CW y h0 A tr f g S M) (c : Nat → Nat → Int64) : CW y h0 A tr f g (wRC S c) M := h
set_option maxRecDepth 100000 in
set_option maxHeartbeats 4000000 in
theorem c_isTray (l : Launch) (D : va_G) (y : mY) (S0 : Nat) (M F : mp) (t : Int32) : ct l yX3_isTray wsX3_isTray 0 0 0 0 D y S0 M F [.int t] (fun v M' => v = some (.int (bI (inP t 12))) ∧ M' = M) := by
  refine ct_of cX3_isTray 1 (some .boolean) [(0, .int t)] (by decide +kernel) rfl (Nat.le_of_ble_eq_true rfl) rfl ?_
  intro p e s m below meth c ls C hnm hl w
  have hx := C.1
  have hb := C.2.1
  refine lv_iload_n hx hb dX3_isTray_0 rfl (lv_at hl 0 rfl) ?_
  refine lv_if_lt (tgt := 14) hx hb dX3_isTray_1 (by decide) (fun c_1 => ?_) (fun c_1 => ?_)
  · skip
    refine lv_iconst (v := 0) hx hb dX3_isTray_14 (by decide) ?_
    exact m_zret C w dX3_isTray_15 (by omega) (by omega) (by first | exact Or.inl rfl | exact Or.inr rfl) (⟨by unfold inP; simp_all [bI, show (12 : Int32) = nI 12 from rfl], rfl⟩)
  · skip
    refine lv_iload_n hx hb dX3_isTray_4 rfl (lv_at hl 0 rfl) ?_
    refine lv_bipush (v := 12) hx hb dX3_isTray_5 (by decide) ?_
    refine lv_icmp_ge (tgt := 14) hx hb dX3_isTray_7 (by decide) (fun c_7 => ?_) (fun c_7 => ?_)
    · skip
      refine lv_iconst (v := 0) hx hb dX3_isTray_14 (by decide) ?_
      exact m_zret C w dX3_isTray_15 (by omega) (by omega) (by first | exact Or.inl rfl | exact Or.inr rfl) (⟨by unfold inP; simp_all [bI, show (12 : Int32) = nI 12 from rfl], rfl⟩)
    · skip
      refine lv_iconst (v := 1) hx hb dX3_isTray_10 (by decide) ?_
      refine lv_goto (tgt := 15) hx hb dX3_isTray_11 (by decide) ?_
      exact m_zret C w dX3_isTray_15 (by omega) (by omega) (by first | exact Or.inl rfl | exact Or.inr rfl) (⟨by unfold inP; simp_all [bI, show (12 : Int32) = nI 12 from rfl], rfl⟩)
set_option maxRecDepth 100000 in
set_option maxHeartbeats 4000000 in
/-- refusalOfPair -/
theorem c_pair (l : Launch) (D : va_G) (y : mY) (S0 : Nat) (M F : mp) (h k n : Nat) (t : Int32) (na ta : Nat) (hh : M h = some (eO 0 (hF k n t na ta))) (hk : k < 14) (hn : n ≤ 64) (h2 k2 n2 : Nat) (t2 : Int32) (na2 ta2 : Nat) (hh2 : M h2 = some (eO 0 (hF k2 n2 t2 na2 ta2))) (hk2 : k2 < 14) (hn2 : n2 ≤ 64) : ct l yX3_refusalOfPair wsX3_refusalOfPair 1 20 0 0 D y S0 M F [.ref h, .ref h2] (fun v M' => v = some (.int (unlK k k2)) ∧ M' = M) := by
  refine ct_of cX3_refusalOfPair 3 (some .int) [(0, .ref h), (1, .ref h2)] (by decide +kernel) rfl (Nat.le_of_ble_eq_true rfl) rfl ?_
  intro p e s m below meth c ls C hnm hl w
  have hx := C.1
  have hb := C.2.1
  have hi_X0 : ∀ w ∈ u_ws RX0 TX0 5, w ∈ wsX3_refusalOfPair := by decide +kernel
  refine lv_aload_n hx hb dX3_refusalOfPair_0 rfl (lv_at hl 0 rfl) ?_
  refine m_getN C w hh (index := 43) (host := "BeadBench") (T := TX0) (N := 5) rfl hi_X0 0 (by decide) (by decide +kernel) rfl dX3_refusalOfPair_1 ?_
  refine lv_if_eq (tgt := 14) hx hb dX3_refusalOfPair_4 (by decide) (fun c_4 => ?_) (fun c_4 => ?_)
  · skip
    have n_4 : k = 0 := (nI_eq (by omega) (by omega)).mp (by first | exact c_4 | exact Classical.not_not.mp c_4)
    refine lv_iconst (v := (-1)) hx hb dX3_refusalOfPair_14 (by decide) ?_
    exact m_iret C w dX3_refusalOfPair_15 (by omega) (by omega) (⟨by unfold unlK; simp_all, rfl⟩)
  · skip
    have n_4 : ¬ k = 0 := fun h => absurd ((nI_eq (by omega) (by omega)).mpr h) c_4
    refine lv_aload_n hx hb dX3_refusalOfPair_7 rfl (lv_at hl 1 rfl) ?_
    refine m_getN C w hh2 (index := 43) (host := "BeadBench") (T := TX0) (N := 5) rfl hi_X0 0 (by decide) (by decide +kernel) rfl dX3_refusalOfPair_8 ?_
    refine lv_if_ne (tgt := 16) hx hb dX3_refusalOfPair_11 (by decide) (fun c_11 => ?_) (fun c_11 => ?_)
    · skip
      have n_11 : ¬ k2 = 0 := fun h => absurd ((nI_eq (by omega) (by omega)).mpr h) c_11
      refine lv_aload_n hx hb dX3_refusalOfPair_16 rfl (lv_at hl 0 rfl) ?_
      refine m_getN C w hh (index := 43) (host := "BeadBench") (T := TX0) (N := 5) rfl hi_X0 0 (by decide) (by decide +kernel) rfl dX3_refusalOfPair_17 ?_
      refine lv_iconst (v := 1) hx hb dX3_refusalOfPair_20 (by decide) ?_
      refine lv_icmp_eq (tgt := 32) hx hb dX3_refusalOfPair_21 (by decide) (fun c_21 => ?_) (fun c_21 => ?_)
      · skip
        have n_21 : k = 1 := (nI_eq (by omega) (by omega)).mp (by first | exact c_21 | exact Classical.not_not.mp c_21)
        refine lv_bipush (v := (-2)) hx hb dX3_refusalOfPair_32 (by decide) ?_
        exact m_iret C w dX3_refusalOfPair_34 (by omega) (by omega) (⟨by unfold unlK; simp_all, rfl⟩)
      · skip
        have n_21 : ¬ k = 1 := fun h => absurd ((nI_eq (by omega) (by omega)).mpr h) c_21
        refine lv_aload_n hx hb dX3_refusalOfPair_24 rfl (lv_at hl 1 rfl) ?_
        refine m_getN C w hh2 (index := 43) (host := "BeadBench") (T := TX0) (N := 5) rfl hi_X0 0 (by decide) (by decide +kernel) rfl dX3_refusalOfPair_25 ?_
        refine lv_iconst (v := 1) hx hb dX3_refusalOfPair_28 (by decide) ?_
        refine lv_icmp_ne (tgt := 35) hx hb dX3_refusalOfPair_29 (by decide) (fun c_29 => ?_) (fun c_29 => ?_)
        · skip
          have n_29 : ¬ k2 = 1 := fun h => absurd ((nI_eq (by omega) (by omega)).mpr h) c_29
          refine lv_aload_n hx hb dX3_refusalOfPair_35 rfl (lv_at hl 0 rfl) ?_
          refine m_callV C w hl.1 (As := []) (rest := []) (c_Hold_isN l D y S0 M F h k n t na ta hh hk hn) gX3_refusalOfPair_X0_isOfNumbers rfl hh (T := TX0) (N := 5) rfl (by decide +kernel) ⟨Nat.le_of_ble_eq_true rfl, Nat.le_of_ble_eq_true rfl⟩ rfl (by decide) dX3_refusalOfPair_36 ⟨by omega, by omega⟩ (fun v M1 H locs hq w => ?_)
          obtain ⟨rfl, hM1⟩ := hq
          rw [hM1] at w
          clear hM1 M1
          refine W.eq (g2 := F0 m 39 ls [.int (bI (isN k))]) rfl ?_
          refine lv_if_ne (tgt := 49) hx hb dX3_refusalOfPair_39 (by decide) (fun c_39 => ?_) (fun c_39 => ?_)
          · skip
            have n_39 : (isN k) = true := bI_t c_39
            refine lv_iconst (v := 1) hx hb dX3_refusalOfPair_49 (by decide) ?_
            refine lv_goto (tgt := 54) hx hb dX3_refusalOfPair_50 (by decide) ?_
            refine lv_istore_n (lv' := [(2, .int 1), (0, .ref h), (1, .ref h2)]) hx hb dX3_refusalOfPair_54 rfl hl (by decide) rfl (fun ls hl => ?_)
            refine lv_iload_n hx hb dX3_refusalOfPair_55 rfl (lv_at hl 0 rfl) ?_
            refine lv_if_eq (tgt := 75) hx hb dX3_refusalOfPair_56 (by decide) (fun h => absurd h (by decide)) (fun _ => ?_)
            refine lv_aload_n hx hb dX3_refusalOfPair_59 rfl (lv_at hl 1 rfl) ?_
            refine m_getN C w hh (index := 43) (host := "BeadBench") (T := TX0) (N := 5) rfl hi_X0 0 (by decide) (by decide +kernel) rfl dX3_refusalOfPair_60 ?_
            refine lv_aload_n hx hb dX3_refusalOfPair_63 rfl (lv_at hl 2 rfl) ?_
            refine m_getN C w hh2 (index := 43) (host := "BeadBench") (T := TX0) (N := 5) rfl hi_X0 0 (by decide) (by decide +kernel) rfl dX3_refusalOfPair_64 ?_
            refine lv_icmp_eq (tgt := 75) hx hb dX3_refusalOfPair_67 (by decide) (fun c_67 => ?_) (fun c_67 => ?_)
            · skip
              have n_67 : k = k2 := (nI_eq (by omega) (by omega)).mp (by first | exact c_67 | exact Classical.not_not.mp c_67)
              refine lv_iconst (v := 0) hx hb dX3_refusalOfPair_75 (by decide) ?_
              exact m_iret C w dX3_refusalOfPair_76 (by omega) (by omega) (⟨by unfold unlK; simp_all, rfl⟩)
            · skip
              have n_67 : ¬ k = k2 := fun h => absurd ((nI_eq (by omega) (by omega)).mpr h) c_67
              refine lv_bipush (v := (-3)) hx hb dX3_refusalOfPair_70 (by decide) ?_
              refine lv_goto (tgt := 76) hx hb dX3_refusalOfPair_72 (by decide) ?_
              exact m_iret C w dX3_refusalOfPair_76 (by omega) (by omega) (⟨by unfold unlK; simp_all, rfl⟩)
          · skip
            have n_39 : (isN k) = false := bI_f c_39
            refine lv_aload_n hx hb dX3_refusalOfPair_42 rfl (lv_at hl 1 rfl) ?_
            refine m_callV C w hl.1 (As := []) (rest := []) (c_Hold_isN l D y S0 M F h2 k2 n2 t2 na2 ta2 hh2 hk2 hn2) gX3_refusalOfPair_X0_isOfNumbers rfl hh2 (T := TX0) (N := 5) rfl (by decide +kernel) ⟨Nat.le_of_ble_eq_true rfl, Nat.le_of_ble_eq_true rfl⟩ rfl (by decide) dX3_refusalOfPair_43 ⟨by omega, by omega⟩ (fun v M1 H locs hq w => ?_)
            obtain ⟨rfl, hM1⟩ := hq
            rw [hM1] at w
            clear hM1 M1
            refine W.eq (g2 := F0 m 46 ls [.int (bI (isN k2))]) rfl ?_
            refine lv_if_eq (tgt := 53) hx hb dX3_refusalOfPair_46 (by decide) (fun c_46 => ?_) (fun c_46 => ?_)
            · skip
              have n_46 : (isN k2) = false := bI_f c_46
              refine lv_iconst (v := 0) hx hb dX3_refusalOfPair_53 (by decide) ?_
              refine lv_istore_n (lv' := [(2, .int 0), (0, .ref h), (1, .ref h2)]) hx hb dX3_refusalOfPair_54 rfl hl (by decide) rfl (fun ls hl => ?_)
              refine lv_iload_n hx hb dX3_refusalOfPair_55 rfl (lv_at hl 0 rfl) ?_
              refine lv_if_eq (tgt := 75) hx hb dX3_refusalOfPair_56 (by decide) (fun _ => ?_) (fun h => absurd (by decide) h)
              refine lv_iconst (v := 0) hx hb dX3_refusalOfPair_75 (by decide) ?_
              exact m_iret C w dX3_refusalOfPair_76 (by omega) (by omega) (⟨by unfold unlK; simp_all, rfl⟩)
            · skip
              have n_46 : (isN k2) = true := bI_t c_46
              refine lv_iconst (v := 1) hx hb dX3_refusalOfPair_49 (by decide) ?_
              refine lv_goto (tgt := 54) hx hb dX3_refusalOfPair_50 (by decide) ?_
              refine lv_istore_n (lv' := [(2, .int 1), (0, .ref h), (1, .ref h2)]) hx hb dX3_refusalOfPair_54 rfl hl (by decide) rfl (fun ls hl => ?_)
              refine lv_iload_n hx hb dX3_refusalOfPair_55 rfl (lv_at hl 0 rfl) ?_
              refine lv_if_eq (tgt := 75) hx hb dX3_refusalOfPair_56 (by decide) (fun h => absurd h (by decide)) (fun _ => ?_)
              refine lv_aload_n hx hb dX3_refusalOfPair_59 rfl (lv_at hl 1 rfl) ?_
              refine m_getN C w hh (index := 43) (host := "BeadBench") (T := TX0) (N := 5) rfl hi_X0 0 (by decide) (by decide +kernel) rfl dX3_refusalOfPair_60 ?_
              refine lv_aload_n hx hb dX3_refusalOfPair_63 rfl (lv_at hl 2 rfl) ?_
              refine m_getN C w hh2 (index := 43) (host := "BeadBench") (T := TX0) (N := 5) rfl hi_X0 0 (by decide) (by decide +kernel) rfl dX3_refusalOfPair_64 ?_
              refine lv_icmp_eq (tgt := 75) hx hb dX3_refusalOfPair_67 (by decide) (fun c_67 => ?_) (fun c_67 => ?_)
              · skip
                have n_67 : k = k2 := (nI_eq (by omega) (by omega)).mp (by first | exact c_67 | exact Classical.not_not.mp c_67)
                refine lv_iconst (v := 0) hx hb dX3_refusalOfPair_75 (by decide) ?_
                exact m_iret C w dX3_refusalOfPair_76 (by omega) (by omega) (⟨by unfold unlK; simp_all, rfl⟩)
              · skip
                have n_67 : ¬ k = k2 := fun h => absurd ((nI_eq (by omega) (by omega)).mpr h) c_67
                refine lv_bipush (v := (-3)) hx hb dX3_refusalOfPair_70 (by decide) ?_
                refine lv_goto (tgt := 76) hx hb dX3_refusalOfPair_72 (by decide) ?_
                exact m_iret C w dX3_refusalOfPair_76 (by omega) (by omega) (⟨by unfold unlK; simp_all, rfl⟩)
        · skip
          have n_29 : k2 = 1 := (nI_eq (by omega) (by omega)).mp (by first | exact c_29 | exact Classical.not_not.mp c_29)
          refine lv_bipush (v := (-2)) hx hb dX3_refusalOfPair_32 (by decide) ?_
          exact m_iret C w dX3_refusalOfPair_34 (by omega) (by omega) (⟨by unfold unlK; simp_all, rfl⟩)
    · skip
      have n_11 : k2 = 0 := (nI_eq (by omega) (by omega)).mp (by first | exact c_11 | exact Classical.not_not.mp c_11)
      refine lv_iconst (v := (-1)) hx hb dX3_refusalOfPair_14 (by decide) ?_
      exact m_iret C w dX3_refusalOfPair_15 (by omega) (by omega) (⟨by unfold unlK; simp_all, rfl⟩)
set_option maxRecDepth 100000 in
set_option maxHeartbeats 4000000 in
theorem c_Hold_shine (l : Launch) (D : va_G) (y : mY) (S0 : Nat) (M F : mp) (h k n : Nat) (t : Int32) (na ta : Nat) (hh : M h = some (eO 0 (hF k n t na ta))) (f : Nat → Int64) (hna : M na = some (eL y n f)) (hn : n ≤ 64) : ct l yX0_shine wsX0_shine 0 0 0 0 D y S0 M F [.ref h] (fun v M' => v = some (.int (sumW f n)) ∧ M' = M) := by
  refine ct_of cX0_shine 3 (some .int) [(0, .ref h)] (by decide +kernel) rfl (Nat.le_of_ble_eq_true rfl) rfl ?_
  intro p e s m below meth c ls C hnm hl w
  have hx := C.1
  have hb := C.2.1
  have hi_X0 : ∀ w ∈ u_ws RX0 TX0 5, w ∈ wsX0_shine := by decide +kernel
  refine lv_iconst (v := 0) hx hb dX0_shine_0 (by decide) ?_
  refine lv_istore_n (lv' := [(1, .int 0), (0, .ref h)]) hx hb dX0_shine_1 rfl hl (by decide) rfl (fun ls hl => ?_)
  refine lv_iconst (v := 0) hx hb dX0_shine_2 (by decide) ?_
  refine lv_istore_n (lv' := [(2, .int 0), (1, .int 0), (0, .ref h)]) hx hb dX0_shine_3 rfl hl (by decide) rfl (fun ls hl => ?_)
  have lp : ∀ (kf : Nat) (i : Nat), (i ≤ n) →  ∀ (H : Heap) (locs : List Loc) (ls : Array Slot), n - i = kf → mS D S0 M F s H locs → lv_has ls 3 [(2, .int (nI i)), (1, .int (sumW f i)), (0, .ref h)] → W p l e { frames := 0, cells := 0, slots := 0, locals := 0 } s m ([.ref h] : List Value).toArray below meth c H locs 0 0 (MQ below (mQ D S0 F (fun v M' => v = some (.int (sumW f n)) ∧ M' = M)) ([.ref h] : List Value).toArray s 0 0 (fun q => S0 ≤ q)) (F0 m 4 ls []) := by
    clear w hl
    intro kf
    induction kf using Nat.strongRecOn with
    | _ kf ih_lp =>
      intro i hi H locs ls hkf w hl
      refine lv_iload_n hx hb dX0_shine_4 rfl (lv_at hl 0 rfl) ?_
      refine lv_aload_n hx hb dX0_shine_5 rfl (lv_at hl 2 rfl) ?_
      refine m_get C w hh (index := 15) (T := TX0) (N := 5) rfl hi_X0 1 (by decide) (by decide +kernel) rfl dX0_shine_6 ?_
      refine lv_icmp_ge (tgt := 28) hx hb dX0_shine_9 (by decide) (fun c_9 => ?_) (fun c_9 => ?_)
      · skip
        have n_9 : n ≤ i := (nI_leI (by omega) (by omega)).mp c_9
        refine lv_iload_n hx hb dX0_shine_28 rfl (lv_at hl 1 rfl) ?_
        exact m_iret C w dX0_shine_29 (by omega) (by omega) (⟨by rw [show n = i by omega], rfl⟩)
      · skip
        have n_9 : ¬ n ≤ i := fun h => absurd ((nI_leI (by omega) (by omega)).mpr h) c_9
        refine lv_iload_n hx hb dX0_shine_12 rfl (lv_at hl 1 rfl) ?_
        refine lv_aload_n hx hb dX0_shine_13 rfl (lv_at hl 2 rfl) ?_
        refine m_get C w hh (index := 21) (T := TX0) (N := 5) rfl hi_X0 3 (by decide) (by decide +kernel) rfl dX0_shine_14 ?_
        refine lv_iload_n hx hb dX0_shine_17 rfl (lv_at hl 0 rfl) ?_
        refine m_lald C w hna i rfl (by omega) (by omega) dX0_shine_18 ?_
        refine lv_l2i hx hb dX0_shine_19 rfl ?_
        refine lv_iadd hx hb dX0_shine_20 ?_
        refine lv_istore_n (lv' := [(1, .int ((sumW f i) + ((f i).toInt32))), (2, .int (nI i)), (0, .ref h)]) hx hb dX0_shine_21 rfl hl (by decide) rfl (fun ls hl => ?_)
        refine lv_iinc (v := nI (i + 1)) (lv' := [(2, .int (nI (i + 1))), (1, .int ((sumW f i) + ((f i).toInt32))), (0, .ref h)]) hx hb dX0_shine_22 hl (k := 1) rfl (by first | exact nI_1 _ | exact nI_add _ _ | rfl) (by decide) rfl (fun ls hl => ?_)
        refine lv_goto (tgt := 4) hx hb dX0_shine_25 (by decide) ?_
        exact ih_lp (n - (i + 1)) (by omega) (i + 1) (by omega) _ _ ls rfl w (lv_sub hl [0, 1, 2] rfl)
  exact lp _ 0 (by omega) _ _ ls rfl w (lv_sub hl [0, 1, 2] rfl)
set_option maxRecDepth 100000 in
set_option maxHeartbeats 4000000 in
/-- Math.min -/
theorem c_min (l : Launch) (D : va_G) (y : mY) (S0 : Nat) (M F : mp) (a b : Nat) (ha : a < 2 ^ 31) (hb2 : b < 2 ^ 31) : ct l yJ9_min_7cf53 wsJ9_min_7cf53 0 0 0 0 D y S0 M F [.int (nI a), .int (nI b)] (fun v M' => v = some (.int (nI (min a b))) ∧ M' = M) := by
  refine ct_ofF cJ9_min_7cf53 2 (some .int) [(0, .int (nI a)), (1, .int (nI b))] (by decide +kernel) rfl (Nat.le_of_ble_eq_true rfl) rfl ?_
  intro p e s m below meth c ls C hnm hl w
  have hx := C.1
  have hb := C.2.1
  refine lv_iload_n hx hb dJ9_min_7cf53_0 rfl (lv_at hl 0 rfl) ?_
  refine lv_iload_n hx hb dJ9_min_7cf53_1 rfl (lv_at hl 1 rfl) ?_
  refine lv_icmp_gt (tgt := 9) hx hb dJ9_min_7cf53_2 (by decide) (fun c_2 => ?_) (fun c_2 => ?_)
  · skip
    have n_2 : b < a := (nI_ltI (by omega) (by omega)).mp c_2
    refine lv_iload_n hx hb dJ9_min_7cf53_9 rfl (lv_at hl 1 rfl) ?_
    exact m_iret C w dJ9_min_7cf53_10 (by omega) (by omega) (⟨by congr 3; omega, rfl⟩)
  · skip
    have n_2 : ¬ b < a := fun h => absurd ((nI_ltI (by omega) (by omega)).mpr h) c_2
    refine lv_iload_n hx hb dJ9_min_7cf53_5 rfl (lv_at hl 0 rfl) ?_
    refine lv_goto (tgt := 10) hx hb dJ9_min_7cf53_6 (by decide) ?_
    exact m_iret C w dJ9_min_7cf53_10 (by omega) (by omega) (⟨by congr 3; omega, rfl⟩)
set_option maxRecDepth 100000 in
set_option maxHeartbeats 4000000 in
/-- Math.floorMod -/
theorem c_floorMod (l : Launch) (D : va_G) (y : mY) (S0 : Nat) (M F : mp) (a : Int32) (k : Nat) (h0 : 0 < k) (hm : k < 2 ^ 31) : ct l yJ9_floorMod_7cf53 wsJ9_floorMod_7cf53 0 0 0 0 D y S0 M F [.int a, .int (nI k)] (fun v M' => v = some (.int (nI (fmd a k))) ∧ M' = M) := by
  refine ct_ofF cJ9_floorMod_7cf53 3 (some .int) [(0, .int a), (1, .int (nI k))] (by decide +kernel) rfl (Nat.le_of_ble_eq_true rfl) rfl ?_
  intro p e s m below meth c ls C hnm hl w
  have hx := C.1
  have hb := C.2.1
  refine lv_iload_n hx hb dJ9_floorMod_7cf53_0 rfl (lv_at hl 0 rfl) ?_
  refine lv_iload_n hx hb dJ9_floorMod_7cf53_1 rfl (lv_at hl 1 rfl) ?_
  refine lv_irem hx hb dJ9_floorMod_7cf53_2 (nI_ne0 h0 hm) ?_
  refine lv_topi (fun r er => ?_)
  refine lv_istore_n (lv' := [(2, .int r), (0, .int a), (1, .int (nI k))]) hx hb dJ9_floorMod_7cf53_3 rfl hl (by decide) rfl (fun ls hl => ?_)
  refine lv_iload_n hx hb dJ9_floorMod_7cf53_4 rfl (lv_at hl 1 rfl) ?_
  refine lv_iload_n hx hb dJ9_floorMod_7cf53_5 rfl (lv_at hl 2 rfl) ?_
  refine lv_ixor hx hb dJ9_floorMod_7cf53_6 ?_
  refine lv_if_ge (tgt := 18) hx hb dJ9_floorMod_7cf53_7 (by decide) (fun c_7 => ?_) (fun c_7 => ?_)
  · skip
    refine lv_iload_n hx hb dJ9_floorMod_7cf53_18 rfl (lv_at hl 0 rfl) ?_
    exact m_iret C w dJ9_floorMod_7cf53_19 (by omega) (by omega) (⟨congrArg (fun z => some (Value.int z)) (er.trans (fmd_pos a h0 hm (rem_nn hm (fun h => absurd ((xor_neg a hm).mpr h) (Int32.not_lt.mpr c_7))))), rfl⟩)
  · skip
    refine lv_iload_n hx hb dJ9_floorMod_7cf53_10 rfl (lv_at hl 0 rfl) ?_
    refine lv_if_eq (tgt := 18) hx hb dJ9_floorMod_7cf53_11 (by decide) (fun c_11 => ?_) (fun c_11 => ?_)
    · skip
      refine lv_iload_n hx hb dJ9_floorMod_7cf53_18 rfl (lv_at hl 0 rfl) ?_
      exact m_iret C w dJ9_floorMod_7cf53_19 (by omega) (by omega) (⟨congrArg (fun z => some (Value.int z)) (er.trans (fmd_pos a h0 hm (by rw [← er, c_11]; decide))), rfl⟩)
    · skip
      refine lv_iload_n hx hb dJ9_floorMod_7cf53_14 rfl (lv_at hl 0 rfl) ?_
      refine lv_iload_n hx hb dJ9_floorMod_7cf53_15 rfl (lv_at hl 2 rfl) ?_
      refine lv_iadd hx hb dJ9_floorMod_7cf53_16 ?_
      exact m_iret C w dJ9_floorMod_7cf53_17 (by omega) (by omega) (⟨congrArg (fun z => some (Value.int z)) ((congrArg (· + nI k) er).trans (fmd_neg a h0 hm (rem_ng hm ((xor_neg a hm).mp (Int32.not_le.mp c_7)) (by rw [← er]; exact c_11)))), rfl⟩)
theorem tix_neg {x : Int32} {k : Nat} (hx : x < 0) (hk : k < 6) (e : -x = nI k) : tix x = k := by
  unfold tix
  rw [if_pos hx, e]
  exact cN_nI (by omega)
theorem CW.tel {y : mY} {h0 : Nat} {A : Ad} {tr : Nat → Nat} {f : Nat → Nat → Int64} {g : Nat → Nat → Option Nat} {S : St} {M : mp} (h : CW y h0 A tr f g S M) (x : Int32) : CW y h0 A tr f g (tell S x) (mu M (xY A) (eI y 6 (va_up (sT S) (tix x) (sT S (tix x) + 1)))) := by
  obtain ⟨⟨h1, ⟨a2, b2, h2⟩, h3, h4, h5, h6, h7, h8⟩, ⟨k1, k2, k3⟩, h9⟩ := h
  refine ⟨⟨mu_k (m_ne h1 h5 ne_OA) h1, ⟨a2, b2, mu_k (m_ne h2 h5 ne_OA) h2⟩, mu_k (m_ne h3 h5 ne_HI) h3, mu_k (m_ne h4 h5 ne_OA) h4, mu_s, fun r hr => mu_k (m_ne (h6 r hr) h5 ne_OA) (h6 r hr), fun q q1 q2 => mu_k (m_ne (h7 q q1 q2) h5 ne_OA) (h7 q q1 q2), fun t ht => ?_⟩, ⟨fun j hj => mu_k (m_ne (k1 j hj) h5 ne_LI) (k1 j hj), fun j hj => mu_k (m_ne (k2 j hj) h5 ne_TI) (k2 j hj), k3⟩, h9⟩
  rcases h8 t ht with q | ⟨q, a3, b3, q3⟩ | q
  · exact Or.inl q
  · exact Or.inr (Or.inl ⟨q, a3, b3, mu_k (m_ne q3 h5 ne_OA) q3⟩)
  · exact Or.inr (Or.inr q)
set_option maxRecDepth 100000 in
set_option maxHeartbeats 4000000 in
theorem c_counted (l : Launch) (D : va_G) (y : mY) (S0 : Nat) (M F : mp) (h0 : Nat) (A : Ad) (tr : Nat → Nat) (f : Nat → Nat → Int64) (g : Nat → Nat → Option Nat) (S : St) (hC : CW y h0 A tr f g S M) (x : Int32) (hx6 : x < 0 → ∃ k, k < 6 ∧ -x = nI k) : ct l yX3_counted wsX3_counted 0 0 0 0 D y S0 M F [.ref h0, .int x] (fun v M' => v = some (.int x) ∧ CW y h0 A tr f g (tell S x) M') := by
  refine ct_of cX3_counted 2 (some .int) [(0, .ref h0), (1, .int x)] (by decide +kernel) rfl (Nat.le_of_ble_eq_true rfl) rfl ?_
  intro p e s m below meth c ls C hnm hl w
  have hx := C.1
  have hb := C.2.1
  have hi_X3 : ∀ w ∈ u_ws RX3 TX3 7, w ∈ wsX3_counted := by decide +kernel
  refine lv_aload_n hx hb dX3_counted_0 rfl (lv_at hl 0 rfl) ?_
  refine m_get C w hC.1.1 (index := 28) (T := TX3) (N := 7) rfl hi_X3 4 (by decide) (by decide +kernel) rfl dX3_counted_1 ?_
  refine lv_iload_n hx hb dX3_counted_4 rfl (lv_at hl 1 rfl) ?_
  refine lv_if_ge (tgt := 13) hx hb dX3_counted_5 (by decide) (fun c_5 => ?_) (fun c_5 => ?_)
  · skip
    refine lv_iconst (v := 0) hx hb dX3_counted_13 (by decide) ?_
    have hK6 : tix x = 0 := by unfold tix; rw [if_neg (fun h => absurd c_5 (by simpa using h))]
    obtain ⟨kx, hk, hkx⟩ : ∃ kx, kx < 6 ∧ tix x = kx := ⟨0, by omega, hK6⟩
    refine m_topi (y := nI kx) (by rw [← hkx, hK6]; rfl) ?_
    refine lv_dup2_11 hx hb dX3_counted_14 rfl rfl ?_
    refine m_iald C w hC.1.2.2.2.2.1 kx rfl (by omega) (by omega) dX3_counted_15 ?_
    refine lv_iconst (v := 1) hx hb dX3_counted_16 (by decide) ?_
    refine lv_iadd hx hb dX3_counted_17 ?_
    refine m_iast C w hC.1.2.2.2.2.1 kx rfl (by omega) (by omega) dX3_counted_18 (fun H locs w => ?_)
    obtain ⟨M1, e_M1⟩ : ∃ z, z = mu M (xY A) (eI y 6 (va_up (sT S) kx (((sT S) kx) + 1))) := ⟨_, rfl⟩
    have w : mS D S0 M1 F s H locs := by rw [e_M1]; exact w
    have f1_h0 : M1 h0 = some (eO 2 [.ref (xN A), .ref (xT A), .ref (xB A), va_rf ((sB S).map (xr A)), .ref (xY A), .int (nI (sI S)), .int (nI (sP S))]) := by rw [e_M1]; exact mu_k (m_ne hC.1.1 hC.1.2.2.2.2.1 (by first | exact ne_LT | exact ne_LI | exact ne_LH | exact ne_TL | exact ne_IL | exact ne_IH | exact ne_IT | exact ne_HL | exact ne_HI | exact ne_TI | exact ne_OA | exact ne_AO | (intro h; cases h))) hC.1.1
    have f1_xY_A : M1 (xY A) = some (eI y 6 (va_up (sT S) kx (((sT S) kx) + 1))) := by rw [e_M1]; exact mu_s
    refine lv_iload_n hx hb dX3_counted_19 rfl (lv_at hl 1 rfl) ?_
    exact m_iret C w dX3_counted_20 (by omega) (by omega) (⟨rfl, by rw [e_M1, ← hkx]; exact hC.tel x⟩)
  · skip
    refine lv_iload_n hx hb dX3_counted_8 rfl (lv_at hl 1 rfl) ?_
    refine lv_ineg hx hb dX3_counted_9 ?_
    refine lv_goto (tgt := 14) hx hb dX3_counted_10 (by decide) ?_
    obtain ⟨kx, hk, ek⟩ := hx6 (by simpa using c_5)
    have hkx : tix x = kx := tix_neg (by simpa using c_5) hk ek
    refine m_topi (y := nI kx) ek ?_
    refine lv_dup2_11 hx hb dX3_counted_14 rfl rfl ?_
    refine m_iald C w hC.1.2.2.2.2.1 kx rfl (by omega) (by omega) dX3_counted_15 ?_
    refine lv_iconst (v := 1) hx hb dX3_counted_16 (by decide) ?_
    refine lv_iadd hx hb dX3_counted_17 ?_
    refine m_iast C w hC.1.2.2.2.2.1 kx rfl (by omega) (by omega) dX3_counted_18 (fun H locs w => ?_)
    obtain ⟨M2, e_M2⟩ : ∃ z, z = mu M (xY A) (eI y 6 (va_up (sT S) kx (((sT S) kx) + 1))) := ⟨_, rfl⟩
    have w : mS D S0 M2 F s H locs := by rw [e_M2]; exact w
    have f2_h0 : M2 h0 = some (eO 2 [.ref (xN A), .ref (xT A), .ref (xB A), va_rf ((sB S).map (xr A)), .ref (xY A), .int (nI (sI S)), .int (nI (sP S))]) := by rw [e_M2]; exact mu_k (m_ne hC.1.1 hC.1.2.2.2.2.1 (by first | exact ne_LT | exact ne_LI | exact ne_LH | exact ne_TL | exact ne_IL | exact ne_IH | exact ne_IT | exact ne_HL | exact ne_HI | exact ne_TI | exact ne_OA | exact ne_AO | (intro h; cases h))) hC.1.1
    have f2_xY_A : M2 (xY A) = some (eI y 6 (va_up (sT S) kx (((sT S) kx) + 1))) := by rw [e_M2]; exact mu_s
    refine lv_iload_n hx hb dX3_counted_19 rfl (lv_at hl 1 rfl) ?_
    exact m_iret C w dX3_counted_20 (by omega) (by omega) (⟨rfl, by rw [e_M2, ← hkx]; exact hC.tel x⟩)
end
section
theorem up2_r {α : Type} {f : Nat → Nat → α} {a i b : Nat} {v : α} (h : b ≠ a) : up2 f a i v b = f b := by
  unfold up2 va_up
  simp [h]
theorem hpl_t {p n : Int32} {z : Nat} (hz : z ≤ 64) (h : hpl p n z = true) : ∃ pp nn, p = nI pp ∧ n = nI nn ∧ pp + nn ≤ z := by
  unfold hpl at h
  simp only [Bool.and_eq_true, Bool.not_eq_true', decide_eq_false_iff_not] at h
  obtain ⟨h1, h2, h3⟩ := h
  obtain ⟨pp, hp, rfl⟩ := nI_of h1
  obtain ⟨nn, hn, rfl⟩ := nI_of h2
  refine ⟨pp, nn, rfl, rfl, ?_⟩
  rw [nI_l hp, nI_l hn, lN_add, pk_lLT (by omega) (by omega)] at h3
  omega
theorem hpl_nI {p n z : Nat} (hz : z ≤ 64) (h : p + n ≤ z) : hpl (nI p) (nI n) z = true := by
  unfold hpl
  simp only [Bool.and_eq_true, Bool.not_eq_true', decide_eq_false_iff_not]
  refine ⟨nI_pos (by omega), nI_pos (by omega), ?_⟩
  rw [nI_l (by omega), nI_l (by omega), lN_add, pk_lLT (by omega) (by omega)]
  omega
theorem kin_nu {ka kb : Nat} (ha : 2 ≤ ka) (hb : 2 ≤ kb) (hu : ¬ ((isN ka || isN kb) = true ∧ ka ≠ kb)) (A : Ad) (x : Int64) : nu ka x = nu kb x ∧ th A ka x = th A kb x := by
  by_cases e : ka = kb
  · rw [e]; exact ⟨rfl, rfl⟩
  · have h1 : ¬ ka ≤ 9 := fun h => hu ⟨by simp [isN]; omega, e⟩
    have h2 : ¬ kb ≤ 9 := fun h => hu ⟨by simp [isN]; omega, e⟩
    unfold nu th
    rw [if_neg h1, if_neg h2, if_neg h1, if_neg h2]
    exact ⟨rfl, rfl⟩
theorem Inv.fl {c : Nat} {S : St} (h : Inv c S) {k : Nat} (hk : k ≤ 64) : Inv c (wFl S k) := by
  obtain ⟨h1, h2, h3, h4, h5, h6, h7, h8, h9⟩ := h
  exact ⟨h1, h2, h3, h4, h5, h6, h7, h8, hk⟩
theorem CR.fl {A : Ad} {f : Nat → Nat → Int64} {g : Nat → Nat → Option Nat} {S : St} (h : CR A f g S) (k : Nat) : CR A f g (wFl S k) := h
set_option maxRecDepth 100000 in
set_option maxHeartbeats 4000000 in
/-- keep(the holding of tray t) -/
theorem c_keep (l : Launch) (D : va_G) (y : mY) (S0 : Nat) (M F : mp) (h0 : Nat) (A : Ad) (tr : Nat → Nat) (f : Nat → Nat → Int64) (g : Nat → Nat → Option Nat) (S : St) (hC : CW y h0 A tr f g S M) (c0 : Nat) (hI : Inv c0 S) (hR : CR A f g S) (t : Nat) (ht : t < 12) : ct l yX3_keep wsX3_keep 1 23 0 0 D y S0 M F [.ref h0, .ref (tr t)] (fun v M' => v = none ∧ ∃ f' g', CW y h0 A tr f' g' (kep S t) M' ∧ CR A f' g' (kep S t)) := by
  refine ct_of cX3_keep 3 none [(0, .ref h0), (1, .ref (tr t))] (by decide +kernel) rfl (Nat.le_of_ble_eq_true rfl) rfl ?_
  intro p e s m below meth c ls C hnm hl w
  have hx := C.1
  have hb := C.2.1
  have hi_X0 : ∀ w ∈ u_ws RX0 TX0 5, w ∈ wsX3_keep := by decide +kernel
  have hi_X3 : ∀ w ∈ u_ws RX3 TX3 7, w ∈ wsX3_keep := by decide +kernel
  obtain ⟨tk, na, ta, hq0, -, hrow⟩ := hC.1.tray hI ht
  have hk : sH S t < 14 := by have := (hI.2.2.2.2.2.2.1 t ht).1; omega
  have hz := zT_le hI ht
  refine lv_aload_n hx hb dX3_keep_0 rfl (lv_at hl 0 rfl) ?_
  refine lv_aload_n hx hb dX3_keep_1 rfl (lv_at hl 1 rfl) ?_
  refine m_callV C w hl.1 (As := []) (rest := [.ref h0]) (c_Hold_refusal l D y S0 M F (tr t) (sH S t) (zT S t) tk na ta hq0 hk hz) gX3_keep_X0_refusal rfl hq0 (T := TX0) (N := 5) rfl (show (_ = _ ∧ _ ≠ _ ∧ _ ≠ _ ∧ _ = some 0) by decide +kernel) ⟨Nat.le_of_ble_eq_true rfl, Nat.le_of_ble_eq_true rfl⟩ rfl (Nat.le_of_ble_eq_true rfl) dX3_keep_2 ⟨Nat.le_of_ble_eq_true rfl, Nat.le_of_ble_eq_true rfl⟩ (fun v M1 H locs hq w => ?_)
  obtain ⟨rfl, hM1⟩ := hq
  rw [hM1] at w
  clear hM1 M1
  refine W.eq (g2 := F0 m 5 ls [.int (fR (sH S t)), .ref h0]) rfl ?_
  refine lv_if_ne (tgt := 12) hx hb dX3_keep_5 (by decide) (fun c_5 => ?_) (fun c_5 => ?_)
  · skip
    refine lv_null hx hb dX3_keep_12 ?_
    refine m_put C w hC.1.1 (v := .null) (index := 25) (T := TX3) (N := 7) rfl hi_X3 tyX3 tyX3_ok nmX3 3 (by decide) (by decide +kernel) rfl (tyX3_ok 3 (by decide)) rfl rfl (Nat.le_of_ble_eq_true rfl) dX3_keep_13 (fun H locs w => ?_)
    have hlt : ¬ 2 ≤ sH S t := fun h => c_5 (fR_0.mpr h)
    have ek : kep S t = wBf S none (sF S) := by unfold kep; rw [if_neg hlt]
    have hz0 : zT S t = 0 := by unfold zT; rw [if_neg hlt]
    obtain ⟨M1, e_M1⟩ : ∃ z, z = mu M h0 (eO 2 (bF A (kep S t))) := ⟨_, rfl⟩
    have w : mS D S0 M1 F s H locs := by rw [e_M1, ek]; exact w
    have hC1 : CW y h0 A tr f g (kep S t) M1 := by rw [e_M1]; exact hC.ben _ (by rw [ek]; exact ⟨rfl, rfl, rfl, rfl, rfl, rfl, rfl, rfl, rfl⟩)
    have hq1 : M1 (tr t) = some (eO 0 (hF (sH S t) (zT S t) tk na ta)) := by rw [e_M1]; exact mu_k (m_ne hq0 hC.1.1 (by simp)) hq0
    refine lv_iconst (v := 0) hx hb dX3_keep_16 (by decide) ?_
    refine lv_istore_n (lv' := [(2, .int 0), (0, .ref h0), (1, .ref (tr t))]) hx hb dX3_keep_17 rfl hl (by decide) rfl (fun ls hl => ?_)
    refine lv_iload_n hx hb dX3_keep_18 rfl (lv_at hl 0 rfl) ?_
    refine lv_aload_n hx hb dX3_keep_19 rfl (lv_at hl 2 rfl) ?_
    refine m_getN C w hq1 (index := 89) (host := "BeadBench") (T := TX0) (N := 5) rfl hi_X0 1 (by decide) (by decide +kernel) rfl dX3_keep_20 ?_
    refine lv_icmp_ge (tgt := 42) hx hb dX3_keep_23 (by decide) (fun c_23 => ?_) (fun c_23 => ?_)
    · skip
      have n_23 : (zT S t) ≤ 0 := (nI_leI (by omega) (by omega)).mp c_23
      exact m_vret C w dX3_keep_42 (by omega) (by omega) (⟨rfl, f, g, hC1, by rw [ek]; exact ⟨hR.1, fun r i h => by cases h⟩⟩)
    · skip
      have n_23 : ¬ (zT S t) ≤ 0 := fun h => absurd ((nI_leI (by omega) (by omega)).mpr h) c_23
      exact absurd (show 0 < 0 by omega) (by omega)
  · skip
    refine lv_aload_n hx hb dX3_keep_8 rfl (lv_at hl 1 rfl) ?_
    refine lv_goto (tgt := 13) hx hb dX3_keep_9 (by decide) ?_
    refine m_put C w hC.1.1 (v := .ref (tr t)) (index := 25) (T := TX3) (N := 7) rfl hi_X3 tyX3 tyX3_ok nmX3 3 (by decide) (by decide +kernel) rfl (tyX3_ok 3 (by decide)) rfl rfl (Nat.le_of_ble_eq_true rfl) dX3_keep_13 (fun H locs w => ?_)
    have h2 : 2 ≤ sH S t := fR_0.mp c_5
    have ek : kep S t = (wBf S (some (rowT S t)) (sC S (rowT S t))) := by unfold kep; rw [if_pos h2]
    obtain ⟨hr, -, ekd, etr, -, -⟩ := hrow h2
    have hzT : zT S t = sZ S (rowT S t) := by unfold zT; rw [if_pos h2]
    rw [etr] at w
    obtain ⟨M1, e_M1⟩ : ∃ z, z = mu M h0 (eO 2 (bF A (kep S t))) := ⟨_, rfl⟩
    have w : mS D S0 M1 F s H locs := by rw [e_M1, ek]; exact w
    have hC1 : CW y h0 A tr f g (kep S t) M1 := by rw [e_M1]; exact hC.ben _ (by rw [ek]; exact ⟨rfl, rfl, rfl, rfl, rfl, rfl, rfl, rfl, rfl⟩)
    have hq1 : M1 (tr t) = some (eO 0 (hF (sH S t) (zT S t) tk na ta)) := by rw [e_M1]; exact mu_k (m_ne hq0 hC.1.1 (by simp)) hq0
    rw [ek] at hC1
    refine lv_iconst (v := 0) hx hb dX3_keep_16 (by decide) ?_
    refine lv_istore_n (lv' := [(2, .int 0), (0, .ref h0), (1, .ref (tr t))]) hx hb dX3_keep_17 rfl hl (by decide) rfl (fun ls hl => ?_)
    have lp : ∀ (kf : Nat) (i : Nat) (f1 : Nat → Nat → Int64) (g1 : Nat → Nat → Option Nat) (M2 : mp), (i ≤ zT S t) → (CW y h0 A tr f1 g1 (wBf S (some (rowT S t)) (sC S (rowT S t))) M2) → (∀ j, j ≠ 0 → f1 j = f j ∧ g1 j = g j) → (∀ x, x < i → f1 0 x = f (rowT S t + 1) x ∧ g1 0 x = g (rowT S t + 1) x) →  ∀ (H : Heap) (locs : List Loc) (ls : Array Slot), zT S t - i = kf → mS D S0 M2 F s H locs → lv_has ls 3 [(2, .int (nI i)), (0, .ref h0), (1, .ref (tr t))] → W p l e { frames := 1, cells := 0, slots := 0, locals := 23 } s m ([.ref h0, .ref (tr t)] : List Value).toArray below meth c H locs 0 0 (MQ below (mQ D S0 F (fun v M' => v = none ∧ ∃ f' g', CW y h0 A tr f' g' (kep S t) M' ∧ CR A f' g' (kep S t))) ([.ref h0, .ref (tr t)] : List Value).toArray s 0 0 (fun q => S0 ≤ q)) (F0 m 18 ls []) := by
      clear w hl
      intro kf
      induction kf using Nat.strongRecOn with
      | _ kf ih_lp =>
        intro i f1 g1 M2 hi hC2 hf hd H locs ls hkf w hl
        have hq2 : M2 (tr t) = some (eO 0 (hF (sH S t) (zT S t) 0 (xn A (rowT S t + 1)) (xt A (rowT S t + 1)))) := by rw [etr, hzT, ← ekd]; exact hC2.1.2.2.2.2.2.1 (rowT S t) hr
        have hn2 : M2 (xn A (rowT S t + 1)) = some (eL y (zT S t) (f1 (rowT S t + 1))) := by rw [hzT]; exact hC2.2.1.1 (rowT S t + 1) hr
        have ht2 : M2 (xt A (rowT S t + 1)) = some (eT y (zT S t) (g1 (rowT S t + 1))) := by rw [hzT]; exact hC2.2.1.2.1 (rowT S t + 1) hr
        refine lv_iload_n hx hb dX3_keep_18 rfl (lv_at hl 0 rfl) ?_
        refine lv_aload_n hx hb dX3_keep_19 rfl (lv_at hl 2 rfl) ?_
        refine m_getN C w hq2 (index := 89) (host := "BeadBench") (T := TX0) (N := 5) rfl hi_X0 1 (by decide) (by decide +kernel) rfl dX3_keep_20 ?_
        refine lv_icmp_ge (tgt := 42) hx hb dX3_keep_23 (by decide) (fun c_23 => ?_) (fun c_23 => ?_)
        · skip
          have n_23 : (zT S t) ≤ i := (nI_leI (by omega) (by omega)).mp c_23
          exact m_vret C w dX3_keep_42 (by omega) (by omega) (⟨rfl, f1, g1, by rw [ek]; exact hC2, by
            rw [ek]
            have hi2 : i = sZ S (rowT S t) := by omega
            refine ⟨fun r x hr2 hx => ?_, fun r x hr2 hx => ?_⟩
            · rw [(hf _ (Nat.succ_ne_zero _)).1, (hf _ (Nat.succ_ne_zero _)).2]; exact hR.1 r x hr2 hx
            · cases hr2
              have hx2 : x < sZ S (rowT S t) := hx
              rw [(hd x (by omega)).1, (hd x (by omega)).2]; exact hR.1 (rowT S t) x hr hx2⟩)
        · skip
          have n_23 : ¬ (zT S t) ≤ i := fun h => absurd ((nI_leI (by omega) (by omega)).mpr h) c_23
          refine lv_aload_n hx hb dX3_keep_26 rfl (lv_at hl 1 rfl) ?_
          refine m_get C w hC2.1.1 (index := 22) (T := TX3) (N := 7) rfl hi_X3 2 (by decide) (by decide +kernel) rfl dX3_keep_27 ?_
          refine lv_iload_n hx hb dX3_keep_30 rfl (lv_at hl 0 rfl) ?_
          refine lv_aload_n hx hb dX3_keep_31 rfl (lv_at hl 2 rfl) ?_
          refine lv_iload_n hx hb dX3_keep_32 rfl (lv_at hl 0 rfl) ?_
          refine m_callV C w hl.1 (As := [.int (nI i), .ref (tr t), .int (nI i)]) (rest := []) (c_Hold_copy l D y S0 M2 F (xB A) 0 64 0 (xn A 0) (xt A 0) hC2.1.2.2.2.1 (tr t) (sH S t) (zT S t) 0 (xn A (rowT S t + 1)) (xt A (rowT S t + 1)) hq2 (f1 0) (f1 (rowT S t + 1)) (g1 0) (g1 (rowT S t + 1)) (hC2.2.1.1 0 (Nat.zero_le _)) (hC2.2.1.2.1 0 (Nat.zero_le _)) hn2 ht2 i i (by omega) (by omega) (by omega) (by omega) (fun z hz => hC2.1.th (hC2.2.1.2.2 (rowT S t + 1) i z hr (by rw [zz_s]; show i < sZ S (rowT S t); omega) hz))) gX3_keep_X0_copyPlace rfl hC2.1.2.2.2.1 (T := TX0) (N := 5) rfl (show (_ = _ ∧ _ ≠ _ ∧ _ ≠ _ ∧ _ = some 3) by decide +kernel) ⟨Nat.le_of_ble_eq_true rfl, Nat.le_of_ble_eq_true rfl⟩ rfl (Nat.le_of_ble_eq_true rfl) dX3_keep_33 ⟨Nat.le_of_ble_eq_true rfl, Nat.le_of_ble_eq_true rfl⟩ (fun v M1 H locs hq w => ?_)
          obtain ⟨rfl, hM1⟩ := hq
          have hC3 := hC2.copy (a := 0) (b := rowT S t + 1) (i := i) (j := i) (Nat.zero_le _) hr (by rw [zz_0]; omega) (by rw [zz_s]; show i < sZ S (rowT S t); omega)
          rw [show zz (wBf S (some (rowT S t)) (sC S (rowT S t))) 0 = 64 from rfl, ← hM1] at hC3
          refine W.eq (g2 := F0 m 36 ls []) rfl ?_
          refine lv_iinc (v := nI (i + 1)) (lv' := [(2, .int (nI (i + 1))), (0, .ref h0), (1, .ref (tr t))]) hx hb dX3_keep_36 hl (k := 0) rfl (by first | exact nI_1 _ | exact nI_add _ _ | rfl) (by decide) rfl (fun ls hl => ?_)
          refine lv_goto (tgt := 18) hx hb dX3_keep_39 (by decide) ?_
          exact ih_lp (zT S t - (i + 1)) (by omega) (i + 1) _ _ M1 (by omega) hC3 (fun j hj => ⟨(up2_r hj).trans (hf j hj).1, (up2_r hj).trans (hf j hj).2⟩) (fun x hx => by
              by_cases e : x = i
              · rw [e, up2_s, up2_s, (hf _ (Nat.succ_ne_zero _)).1, (hf _ (Nat.succ_ne_zero _)).2]; exact ⟨rfl, rfl⟩
              · rw [up2_o (Or.inr e), up2_o (Or.inr e)]; exact hd x (by omega)) _ _ ls rfl w (lv_sub hl [0, 1, 2] rfl)
    exact lp _ 0 f g M1 (by omega) hC1 (fun _ _ => ⟨rfl, rfl⟩) (fun x hx => by omega) _ _ ls rfl w (lv_sub hl [0, 1, 2] rfl)
end
section
theorem unlK_0 {a b : Nat} (h : unlK a b = 0) : 2 ≤ a ∧ 2 ≤ b ∧ ¬ ((isN a || isN b) = true ∧ a ≠ b) := by
  unfold unlK at h
  by_cases h1 : a = 0 ∨ b = 0
  · rw [if_pos h1] at h; exact absurd h (by decide)
  · rw [if_neg h1] at h
    by_cases h2 : a = 1 ∨ b = 1
    · rw [if_pos h2] at h; exact absurd h (by decide)
    · rw [if_neg h2] at h
      by_cases h3 : (isN a || isN b) = true ∧ a ≠ b
      · rw [if_pos h3] at h; exact absurd h (by decide)
      · exact ⟨by omega, by omega, h3⟩
set_option maxRecDepth 100000 in
set_option maxHeartbeats 4000000 in
/-- the MOVE, behind keep(b) -/
theorem c_carry (l : Launch) (D : va_G) (y : mY) (S0 : Nat) (M F : mp) (h0 : Nat) (A : Ad) (tr : Nat → Nat) (f : Nat → Nat → Int64) (g : Nat → Nat → Option Nat) (S : St) (hC : CW y h0 A tr f g S M) (c0 : Nat) (hI : Inv c0 S) (hR : CR A f g S) (a b : Nat) (ha : a < 12) (hb2 : b < 12) (p1 q1 n1 : Int32) (hkp : 2 ≤ sH S b → sB S = some (rowT S b) ∧ sF S = sC S (rowT S b)) : ct l yX3_carry wsX3_carry 2 42 0 0 D y S0 M F [.ref h0, .ref (tr a), .int p1, .ref (tr b), .int q1, .int n1] (fun v M' => v = some (.int (movd S a p1 b q1 n1).1) ∧ ∃ f' g', CW y h0 A tr f' g' (movd S a p1 b q1 n1).2 M' ∧ CR A f' g' (movd S a p1 b q1 n1).2) := by
  refine ct_of cX3_carry 8 (some .int) [(0, .ref h0), (1, .ref (tr a)), (2, .int p1), (3, .ref (tr b)), (4, .int q1), (5, .int n1)] (by decide +kernel) rfl (Nat.le_of_ble_eq_true rfl) rfl ?_
  intro p e s m below meth c ls C hnm hl w
  have hx := C.1
  have hb := C.2.1
  have hi_X0 : ∀ w ∈ u_ws RX0 TX0 5, w ∈ wsX3_carry := by decide +kernel
  have hi_X3 : ∀ w ∈ u_ws RX3 TX3 7, w ∈ wsX3_carry := by decide +kernel
  obtain ⟨tka, naa, taa, hqa, -, hra⟩ := hC.1.tray hI ha
  obtain ⟨tkb, nab, tab, hqb, -, hrb⟩ := hC.1.tray hI hb2
  have hka : sH S a < 14 := by have := (hI.2.2.2.2.2.2.1 a ha).1; omega
  have hkb : sH S b < 14 := by have := (hI.2.2.2.2.2.2.1 b hb2).1; omega
  have hza := zT_le hI ha
  have hzb := zT_le hI hb2
  refine lv_aload_n hx hb dX3_carry_0 rfl (lv_at hl 0 rfl) ?_
  refine lv_iconst (v := 0) hx hb dX3_carry_1 (by decide) ?_
  refine m_put C w hC.1.1 (v := .int 0) (index := 32) (T := TX3) (N := 7) rfl hi_X3 tyX3 tyX3_ok nmX3 5 (by decide) (by decide +kernel) rfl (tyX3_ok 5 (by decide)) rfl rfl (Nat.le_of_ble_eq_true rfl) dX3_carry_2 (fun H locs w => ?_)
  obtain ⟨M1, e_M1⟩ : ∃ z, z = mu M h0 (eO 2 (bF A (wFl S 0))) := ⟨_, rfl⟩
  have w : mS D S0 M1 F s H locs := by rw [e_M1]; exact w
  have hC1 : CW y h0 A tr f g (wFl S 0) M1 := by rw [e_M1]; exact hC.ben _ ⟨rfl, rfl, rfl, rfl, rfl, rfl, rfl, rfl, rfl⟩
  have hqa1 : M1 (tr a) = some (eO 0 (hF (sH S a) (zT S a) tka naa taa)) := by rw [e_M1]; exact mu_k (m_ne hqa hC.1.1 (by simp)) hqa
  have hqb1 : M1 (tr b) = some (eO 0 (hF (sH S b) (zT S b) tkb nab tab)) := by rw [e_M1]; exact mu_k (m_ne hqb hC.1.1 (by simp)) hqb
  refine lv_aload_n hx hb dX3_carry_5 rfl (lv_at hl 1 rfl) ?_
  refine lv_aload_n hx hb dX3_carry_6 rfl (lv_at hl 3 rfl) ?_
  refine m_callS C w hl.1 (As := [.ref (tr a), .ref (tr b)]) (rest := []) (c_pair l D y S0 M1 F (tr a) (sH S a) (zT S a) tka naa taa hqa1 hka hza (tr b) (sH S b) (zT S b) tkb nab tab hqb1 hkb hzb) ggX3_carry_X3_refusalOfPair rfl (by decide +kernel) (by decide +kernel) (by decide +kernel) (show (_ ≠ _ ∧ _ ≠ _ ∧ _ = some 2) by decide +kernel) ⟨Nat.le_of_ble_eq_true rfl, Nat.le_of_ble_eq_true rfl⟩ rfl (Nat.le_of_ble_eq_true rfl) dX3_carry_7 ⟨Nat.le_of_ble_eq_true rfl, Nat.le_of_ble_eq_true rfl⟩ (fun v M1 H locs hq w => ?_)
  obtain ⟨rfl, hM1⟩ := hq
  rw [hM1] at w
  clear hM1 M1
  refine W.eq (g2 := F0 m 10 ls [.int (unlK (sH S a) (sH S b))]) rfl ?_
  refine lv_istore (lv' := [(6, .int (unlK (sH S a) (sH S b))), (0, .ref h0), (1, .ref (tr a)), (2, .int p1), (3, .ref (tr b)), (4, .int q1), (5, .int n1)]) hx hb dX3_carry_10 hl (by decide) rfl (fun ls hl => ?_)
  refine lv_iload hx hb dX3_carry_12 (lv_at hl 0 rfl) ?_
  refine lv_if_eq (tgt := 20) hx hb dX3_carry_14 (by decide) (fun c_14 => ?_) (fun c_14 => ?_)
  · skip
    refine lv_aload_n hx hb dX3_carry_20 rfl (lv_at hl 2 rfl) ?_
    refine lv_iload_n hx hb dX3_carry_21 rfl (lv_at hl 3 rfl) ?_
    refine lv_iload hx hb dX3_carry_22 (lv_at hl 6 rfl) ?_
    refine m_callV C w hl.1 (As := [.int p1, .int n1]) (rest := []) (c_Hold_hasPlaces l D y S0 M1 F (tr a) (sH S a) (zT S a) tka naa taa hqa1 hka hza p1 n1) gX3_carry_X0_hasPlaces rfl hqa1 (T := TX0) (N := 5) rfl (show (_ = _ ∧ _ ≠ _ ∧ _ ≠ _ ∧ _ = some 2) by decide +kernel) ⟨Nat.le_of_ble_eq_true rfl, Nat.le_of_ble_eq_true rfl⟩ rfl (Nat.le_of_ble_eq_true rfl) dX3_carry_24 ⟨Nat.le_of_ble_eq_true rfl, Nat.le_of_ble_eq_true rfl⟩ (fun v M1 H locs hq w => ?_)
    obtain ⟨rfl, hM1⟩ := hq
    rw [hM1] at w
    clear hM1 M1
    refine W.eq (g2 := F0 m 27 ls [.int (bI (hpl p1 n1 (zT S a)))]) rfl ?_
    refine lv_if_eq (tgt := 41) hx hb dX3_carry_27 (by decide) (fun c_27 => ?_) (fun c_27 => ?_)
    · skip
      have n_27 : (hpl p1 n1 (zT S a)) = false := bI_f c_27
      refine lv_bipush (v := (-4)) hx hb dX3_carry_41 (by decide) ?_
      exact m_iret C w dX3_carry_43 (by omega) (by omega) (⟨by rw [(show movd S a p1 b q1 n1 = (-4, wFl S 0) by unfold movd; rw [if_neg (show ¬ ¬ unl S a b = 0 from fun h => h c_14), if_pos (by first | simp [n_27, n_38] | simp [n_27])])], f, g, by rw [(show movd S a p1 b q1 n1 = (-4, wFl S 0) by unfold movd; rw [if_neg (show ¬ ¬ unl S a b = 0 from fun h => h c_14), if_pos (by first | simp [n_27, n_38] | simp [n_27])])]; exact hC1, by rw [(show movd S a p1 b q1 n1 = (-4, wFl S 0) by unfold movd; rw [if_neg (show ¬ ¬ unl S a b = 0 from fun h => h c_14), if_pos (by first | simp [n_27, n_38] | simp [n_27])])]; exact hR⟩)
    · skip
      have n_27 : (hpl p1 n1 (zT S a)) = true := bI_t c_27
      refine lv_aload_n hx hb dX3_carry_30 rfl (lv_at hl 4 rfl) ?_
      refine lv_iload hx hb dX3_carry_31 (lv_at hl 5 rfl) ?_
      refine lv_iload hx hb dX3_carry_33 (lv_at hl 6 rfl) ?_
      refine m_callV C w hl.1 (As := [.int q1, .int n1]) (rest := []) (c_Hold_hasPlaces l D y S0 M1 F (tr b) (sH S b) (zT S b) tkb nab tab hqb1 hkb hzb q1 n1) gX3_carry_X0_hasPlaces rfl hqb1 (T := TX0) (N := 5) rfl (show (_ = _ ∧ _ ≠ _ ∧ _ ≠ _ ∧ _ = some 2) by decide +kernel) ⟨Nat.le_of_ble_eq_true rfl, Nat.le_of_ble_eq_true rfl⟩ rfl (Nat.le_of_ble_eq_true rfl) dX3_carry_35 ⟨Nat.le_of_ble_eq_true rfl, Nat.le_of_ble_eq_true rfl⟩ (fun v M1 H locs hq w => ?_)
      obtain ⟨rfl, hM1⟩ := hq
      rw [hM1] at w
      clear hM1 M1
      refine W.eq (g2 := F0 m 38 ls [.int (bI (hpl q1 n1 (zT S b)))]) rfl ?_
      refine lv_if_ne (tgt := 44) hx hb dX3_carry_38 (by decide) (fun c_38 => ?_) (fun c_38 => ?_)
      · skip
        have n_38 : (hpl q1 n1 (zT S b)) = true := bI_t c_38
        obtain ⟨h2a, h2b, hcm⟩ := unlK_0 c_14
        obtain ⟨pp, nn, hp, hn, hpn⟩ := hpl_t hza n_27
        obtain ⟨qq, nn2, hq9, hn2, hqn⟩ := hpl_t hzb n_38
        have e2 : nn = nn2 := (nI_eq (by omega) (by omega)).mp (hn.symm.trans hn2)
        subst e2
        obtain ⟨hra1, -, eka, eta, -, -⟩ := hra h2a
        obtain ⟨hrb1, -, ekb, etb, -, -⟩ := hrb h2b
        have hzA : zT S a = sZ S (rowT S a) := by unfold zT; rw [if_pos h2a]
        have hzB : zT S b = sZ S (rowT S b) := by unfold zT; rw [if_pos h2b]
        have hm : movd S a p1 b q1 n1 = (if mvK S a pp b nn < nn then -5 else nI nn, wFl (mvR S a pp b qq (mvK S a pp b nn)) (mvK S a pp b nn)) := by
          unfold movd
          rw [if_neg (show ¬ ¬ unl S a b = 0 from fun h => h c_14), if_neg (by rw [n_27, n_38]; decide), hp, hq9, hn, cN_nI (by omega), cN_nI (by omega), cN_nI (by omega)]
        have hvl : ∀ x, x < zT S a → val S (sK S (rowT S a)) (sC S (rowT S a) x) := fun x hx => (hI.2.2.2.1 (rowT S a) hra1).2.2.2 x (by omega)
        have hag : ∀ x, x < zT S a → acc (sH S b) (srt S (sK S (rowT S a)) (sC S (rowT S a) x)) = gs S (sH S b) (sC S (rowT S a) x) := fun x hx => acc_gs hI (hvl x hx) ⟨h2b, by omega⟩ (by omega) (by rw [eka]; exact hcm)
        have hnt := kin_nu (ka := sK S (rowT S a)) (kb := sK S (rowT S b)) (by omega) (by omega) (by rw [eka, ekb]; exact hcm) A
        refine lv_aload_n hx hb dX3_carry_44 rfl (lv_at hl 2 rfl) ?_
        refine lv_aload_n hx hb dX3_carry_45 rfl (lv_at hl 4 rfl) ?_
        refine lv_acmp_ne (rx := some (tr a)) (ry := some (tr b)) (tgt := 56) hx hb dX3_carry_46 (by decide) (fun c_46 => ?_) (fun c_46 => ?_)
        · skip
          have hsl : rowT S a + 1 ≠ rowT S b + 1 := fun e => c_46 (by rw [eta, etb, Nat.succ.inj e])
          have hfS : ∀ x, x < zT S a → f (rowT S a + 1) x = nu (sK S (rowT S a)) (sC S (rowT S a) x) ∧ g (rowT S a + 1) x = th A (sK S (rowT S a)) (sC S (rowT S a) x) := fun x hx => hR.1 _ x hra1 (by omega)
          refine lv_aload_n hx hb dX3_carry_56 rfl (lv_at hl 2 rfl) ?_
          refine lv_astore (lv' := [(7, .ref (tr a)), (6, .int (unlK (sH S a) (sH S b))), (0, .ref h0), (1, .ref (tr a)), (2, .int p1), (3, .ref (tr b)), (4, .int q1), (5, .int n1)]) hx hb dX3_carry_57 hl (by decide) rfl (fun ls hl => ?_)
          have lp : ∀ (kf : Nat) (k : Nat) (f1 : Nat → Nat → Int64) (g1 : Nat → Nat → Option Nat) (M2 : mp), (k ≤ nn) → (CW y h0 A tr f1 g1 (wFl S k) M2) → (∀ x, x < k → gs S (sH S b) (sC S (rowT S a) (pp + x)) = true) → (∀ j, j ≠ rowT S b + 1 → f1 j = f j ∧ g1 j = g j) → (∀ x, f1 (rowT S b + 1) x = (if qq ≤ x ∧ x < qq + k then f (rowT S a + 1) (pp + (x - qq)) else f (rowT S b + 1) x) ∧ g1 (rowT S b + 1) x = (if qq ≤ x ∧ x < qq + k then g (rowT S a + 1) (pp + (x - qq)) else g (rowT S b + 1) x)) →  ∀ (H : Heap) (locs : List Loc) (ls : Array Slot), nn - k = kf → mS D S0 M2 F s H locs → lv_has ls 8 [(0, .ref h0), (1, .ref (tr a)), (2, .int p1), (3, .ref (tr b)), (4, .int q1), (5, .int n1), (7, .ref (tr a))] → W p l e { frames := 2, cells := 0, slots := 0, locals := 42 } s m ([.ref h0, .ref (tr a), .int p1, .ref (tr b), .int q1, .int n1] : List Value).toArray below meth c H locs 0 0 (MQ below (mQ D S0 F (fun v M' => v = some (.int (movd S a p1 b q1 n1).1) ∧ ∃ f' g', CW y h0 A tr f' g' (movd S a p1 b q1 n1).2 M' ∧ CR A f' g' (movd S a p1 b q1 n1).2)) ([.ref h0, .ref (tr a), .int p1, .ref (tr b), .int q1, .int n1] : List Value).toArray s 0 0 (fun q => S0 ≤ q)) (F0 m 59 ls []) := by
            clear w hl
            intro kf
            induction kf using Nat.strongRecOn with
            | _ kf ih_lp =>
              intro k f1 g1 M2 hk hC2 hK hf hd H locs ls hkf w hl
              have hqb2 : M2 (tr b) = some (eO 0 (hF (sH S b) (zT S b) 0 (xn A (rowT S b + 1)) (xt A (rowT S b + 1)))) := by rw [etb, hzB, ← ekb]; exact hC2.1.2.2.2.2.2.1 (rowT S b) hrb1
              have hsrc : M2 (tr a) = some (eO 0 (hF (sH S a) (zT S a) 0 (xn A (rowT S a + 1)) (xt A (rowT S a + 1)))) := by rw [eta, hzA, ← eka]; exact hC2.1.2.2.2.2.2.1 (rowT S a) hra1
              have hnS : M2 (xn A (rowT S a + 1)) = some (eL y (zT S a) (f1 (rowT S a + 1))) := by rw [hzA]; exact hC2.2.1.1 (rowT S a + 1) hra1
              have htS : M2 (xt A (rowT S a + 1)) = some (eT y (zT S a) (g1 (rowT S a + 1))) := by rw [hzA]; exact hC2.2.1.2.1 (rowT S a + 1) hra1
              have hnB : M2 (xn A (rowT S b + 1)) = some (eL y (zT S b) (f1 (rowT S b + 1))) := by rw [hzB]; exact hC2.2.1.1 _ hrb1
              have htB : M2 (xt A (rowT S b + 1)) = some (eT y (zT S b) (g1 (rowT S b + 1))) := by rw [hzB]; exact hC2.2.1.2.1 _ hrb1
              refine lv_aload_n hx hb dX3_carry_59 rfl (lv_at hl 0 rfl) ?_
              refine m_get C w hC2.1.1 (index := 32) (T := TX3) (N := 7) rfl hi_X3 5 (by decide) (by decide +kernel) rfl dX3_carry_60 ?_
              refine lv_iload hx hb dX3_carry_63 (lv_at hl 5 rfl) ?_
              refine m_topi (y := nI nn) hn ?_
              refine lv_icmp_ge (tgt := 119) hx hb dX3_carry_65 (by decide) (fun c_65 => ?_) (fun c_65 => ?_)
              · skip
                have n_65 : nn ≤ k := (nI_leI (by omega) (by omega)).mp c_65
                refine lv_aload_n hx hb dX3_carry_119 rfl (lv_at hl 0 rfl) ?_
                refine m_get C w hC2.1.1 (index := 32) (T := TX3) (N := 7) rfl hi_X3 5 (by decide) (by decide +kernel) rfl dX3_carry_120 ?_
                refine lv_iload hx hb dX3_carry_123 (lv_at hl 5 rfl) ?_
                refine m_topi (y := nI nn) hn ?_
                refine lv_icmp_ge (tgt := 133) hx hb dX3_carry_125 (by decide) (fun c_125 => ?_) (fun c_125 => ?_)
                · skip
                  have n_125 : nn ≤ k := (nI_leI (by omega) (by omega)).mp c_125
                  refine lv_iload hx hb dX3_carry_133 (lv_at hl 5 rfl) ?_
                  refine m_topi (y := nI nn) hn ?_
                  exact m_iret C w dX3_carry_135 (by omega) (by omega) (by
                    have hKe : mvK S a pp b nn = k := ld_eq (by omega) hK (by first | exact Or.inl (by omega) | exact Or.inr (by rw [← hag _ (by omega)]; exact n_84))
                    refine ⟨by rw [hm, hKe]; rw [if_neg (by omega)], f1, g1, by rw [hm, hKe]; exact hC2, ?_⟩
                    rw [hm, hKe]
                    refine ⟨fun r x hr hx => ?_, fun r x hr hx => ?_⟩
                    · show f1 (r + 1) x = nu (sK S r) (va_up (sC S) (rowT S b) (fun j => if qq ≤ j ∧ j < qq + k then sC S (rowT S a) (pp + (j - qq)) else sC S (rowT S b) j) r x) ∧ g1 (r + 1) x = th A (sK S r) (va_up (sC S) (rowT S b) (fun j => if qq ≤ j ∧ j < qq + k then sC S (rowT S a) (pp + (j - qq)) else sC S (rowT S b) j) r x)
                      have hx : x < sZ S r := hx
                      by_cases e : r = rowT S b
                      · subst e
                        rw [(hd x).1, (hd x).2]
                        by_cases h9 : qq ≤ x ∧ x < qq + k
                        · have e9 : va_up (sC S) (rowT S b) (fun j => if qq ≤ j ∧ j < qq + k then sC S (rowT S a) (pp + (j - qq)) else sC S (rowT S b) j) (rowT S b) x = sC S (rowT S a) (pp + (x - qq)) := by simp [va_up, h9]
                          rw [if_pos h9, if_pos h9, e9, ← (hnt _).1, ← (hnt _).2]
                          exact hfS (pp + (x - qq)) (by omega)
                        · have e9 : va_up (sC S) (rowT S b) (fun j => if qq ≤ j ∧ j < qq + k then sC S (rowT S a) (pp + (j - qq)) else sC S (rowT S b) j) (rowT S b) x = sC S (rowT S b) x := by simp [va_up, h9]
                          rw [if_neg h9, if_neg h9, e9]
                          exact hR.1 _ x hrb1 hx
                      · have e9 : va_up (sC S) (rowT S b) (fun j => if qq ≤ j ∧ j < qq + k then sC S (rowT S a) (pp + (j - qq)) else sC S (rowT S b) j) r = sC S r := by simp [va_up, e]
                        rw [e9, (hf _ (fun h => e (Nat.succ.inj h))).1, (hf _ (fun h => e (Nat.succ.inj h))).2]
                        exact hR.1 r x hr hx
                    · rw [(hf 0 (Ne.symm (Nat.succ_ne_zero _))).1, (hf 0 (Ne.symm (Nat.succ_ne_zero _))).2]
                      exact hR.2 r x hr hx)
                · skip
                  have n_125 : ¬ nn ≤ k := fun h => absurd ((nI_leI (by omega) (by omega)).mpr h) c_125
                  refine lv_bipush (v := (-5)) hx hb dX3_carry_128 (by decide) ?_
                  refine lv_goto (tgt := 135) hx hb dX3_carry_130 (by decide) ?_
                  exact m_iret C w dX3_carry_135 (by omega) (by omega) (by
                    have hKe : mvK S a pp b nn = k := ld_eq (by omega) hK (by first | exact Or.inl (by omega) | exact Or.inr (by rw [← hag _ (by omega)]; exact n_84))
                    refine ⟨by rw [hm, hKe]; rw [if_pos (by omega)], f1, g1, by rw [hm, hKe]; exact hC2, ?_⟩
                    rw [hm, hKe]
                    refine ⟨fun r x hr hx => ?_, fun r x hr hx => ?_⟩
                    · show f1 (r + 1) x = nu (sK S r) (va_up (sC S) (rowT S b) (fun j => if qq ≤ j ∧ j < qq + k then sC S (rowT S a) (pp + (j - qq)) else sC S (rowT S b) j) r x) ∧ g1 (r + 1) x = th A (sK S r) (va_up (sC S) (rowT S b) (fun j => if qq ≤ j ∧ j < qq + k then sC S (rowT S a) (pp + (j - qq)) else sC S (rowT S b) j) r x)
                      have hx : x < sZ S r := hx
                      by_cases e : r = rowT S b
                      · subst e
                        rw [(hd x).1, (hd x).2]
                        by_cases h9 : qq ≤ x ∧ x < qq + k
                        · have e9 : va_up (sC S) (rowT S b) (fun j => if qq ≤ j ∧ j < qq + k then sC S (rowT S a) (pp + (j - qq)) else sC S (rowT S b) j) (rowT S b) x = sC S (rowT S a) (pp + (x - qq)) := by simp [va_up, h9]
                          rw [if_pos h9, if_pos h9, e9, ← (hnt _).1, ← (hnt _).2]
                          exact hfS (pp + (x - qq)) (by omega)
                        · have e9 : va_up (sC S) (rowT S b) (fun j => if qq ≤ j ∧ j < qq + k then sC S (rowT S a) (pp + (j - qq)) else sC S (rowT S b) j) (rowT S b) x = sC S (rowT S b) x := by simp [va_up, h9]
                          rw [if_neg h9, if_neg h9, e9]
                          exact hR.1 _ x hrb1 hx
                      · have e9 : va_up (sC S) (rowT S b) (fun j => if qq ≤ j ∧ j < qq + k then sC S (rowT S a) (pp + (j - qq)) else sC S (rowT S b) j) r = sC S r := by simp [va_up, e]
                        rw [e9, (hf _ (fun h => e (Nat.succ.inj h))).1, (hf _ (fun h => e (Nat.succ.inj h))).2]
                        exact hR.1 r x hr hx
                    · rw [(hf 0 (Ne.symm (Nat.succ_ne_zero _))).1, (hf 0 (Ne.symm (Nat.succ_ne_zero _))).2]
                      exact hR.2 r x hr hx)
              · skip
                have n_65 : ¬ nn ≤ k := fun h => absurd ((nI_leI (by omega) (by omega)).mpr h) c_65
                refine lv_aload_n hx hb dX3_carry_68 rfl (lv_at hl 3 rfl) ?_
                refine lv_aload hx hb dX3_carry_69 (lv_at hl 6 rfl) ?_
                refine m_getN C w hsrc (index := 73) (host := "BeadBench") (T := TX0) (N := 5) rfl hi_X0 4 (by decide) (by decide +kernel) rfl dX3_carry_71 ?_
                refine lv_iload_n hx hb dX3_carry_74 rfl (lv_at hl 2 rfl) ?_
                refine m_topi (y := nI pp) hp ?_
                refine lv_aload_n hx hb dX3_carry_75 rfl (lv_at hl 0 rfl) ?_
                refine m_get C w hC2.1.1 (index := 32) (T := TX3) (N := 7) rfl hi_X3 5 (by decide) (by decide +kernel) rfl dX3_carry_76 ?_
                refine lv_iadd hx hb dX3_carry_79 ?_
                refine m_topi (y := nI (pp + k)) (by first | exact nI_add _ _ | exact nI_1 _) ?_
                refine m_tald C w htS (pp + k) rfl (by omega) (by omega) dX3_carry_80 ?_
                have hth : thS M2 (g1 (rowT S a + 1) (pp + k)) (srt S (sK S (rowT S a)) (sC S (rowT S a) (pp + k))) := by rw [(hf _ hsl).2, (hfS _ (by omega)).2]; exact th_srt (S := wFl S k) (hI.fl (by omega)) hC2.1 (hvl _ (by omega))
                refine m_callV C w hl.1 (As := [va_rf ((g1 (rowT S a + 1)) (pp + k))]) (rest := []) (c_Hold_accepts l D y S0 M2 F (tr b) (sH S b) (zT S b) 0 (xn A (rowT S b + 1)) (xt A (rowT S b + 1)) hqb2 hkb hzb (g1 (rowT S a + 1) (pp + k)) _ hth) gX3_carry_X0_accepts rfl hqb2 (T := TX0) (N := 5) rfl (show (_ = _ ∧ _ ≠ _ ∧ _ ≠ _ ∧ _ = some 1) by decide +kernel) ⟨Nat.le_of_ble_eq_true rfl, Nat.le_of_ble_eq_true rfl⟩ rfl (Nat.le_of_ble_eq_true rfl) dX3_carry_81 ⟨Nat.le_of_ble_eq_true rfl, Nat.le_of_ble_eq_true rfl⟩ (fun v M1 H locs hq w => ?_)
                obtain ⟨rfl, hM1⟩ := hq
                rw [hM1] at w
                clear hM1 M1
                refine W.eq (g2 := F0 m 84 ls [.int (bI (acc (sH S b) (srt S (sK S (rowT S a)) (sC S (rowT S a) (pp + k)))))]) rfl ?_
                refine lv_if_eq (tgt := 119) hx hb dX3_carry_84 (by decide) (fun c_84 => ?_) (fun c_84 => ?_)
                · skip
                  have n_84 : (acc (sH S b) (srt S (sK S (rowT S a)) (sC S (rowT S a) (pp + k)))) = false := bI_f c_84
                  refine lv_aload_n hx hb dX3_carry_119 rfl (lv_at hl 0 rfl) ?_
                  refine m_get C w hC2.1.1 (index := 32) (T := TX3) (N := 7) rfl hi_X3 5 (by decide) (by decide +kernel) rfl dX3_carry_120 ?_
                  refine lv_iload hx hb dX3_carry_123 (lv_at hl 5 rfl) ?_
                  refine m_topi (y := nI nn) hn ?_
                  refine lv_icmp_ge (tgt := 133) hx hb dX3_carry_125 (by decide) (fun c_125 => ?_) (fun c_125 => ?_)
                  · skip
                    have n_125 : nn ≤ k := (nI_leI (by omega) (by omega)).mp c_125
                    refine lv_iload hx hb dX3_carry_133 (lv_at hl 5 rfl) ?_
                    refine m_topi (y := nI nn) hn ?_
                    exact m_iret C w dX3_carry_135 (by omega) (by omega) (by
                      have hKe : mvK S a pp b nn = k := ld_eq (by omega) hK (by first | exact Or.inl (by omega) | exact Or.inr (by rw [← hag _ (by omega)]; exact n_84))
                      refine ⟨by rw [hm, hKe]; rw [if_neg (by omega)], f1, g1, by rw [hm, hKe]; exact hC2, ?_⟩
                      rw [hm, hKe]
                      refine ⟨fun r x hr hx => ?_, fun r x hr hx => ?_⟩
                      · show f1 (r + 1) x = nu (sK S r) (va_up (sC S) (rowT S b) (fun j => if qq ≤ j ∧ j < qq + k then sC S (rowT S a) (pp + (j - qq)) else sC S (rowT S b) j) r x) ∧ g1 (r + 1) x = th A (sK S r) (va_up (sC S) (rowT S b) (fun j => if qq ≤ j ∧ j < qq + k then sC S (rowT S a) (pp + (j - qq)) else sC S (rowT S b) j) r x)
                        have hx : x < sZ S r := hx
                        by_cases e : r = rowT S b
                        · subst e
                          rw [(hd x).1, (hd x).2]
                          by_cases h9 : qq ≤ x ∧ x < qq + k
                          · have e9 : va_up (sC S) (rowT S b) (fun j => if qq ≤ j ∧ j < qq + k then sC S (rowT S a) (pp + (j - qq)) else sC S (rowT S b) j) (rowT S b) x = sC S (rowT S a) (pp + (x - qq)) := by simp [va_up, h9]
                            rw [if_pos h9, if_pos h9, e9, ← (hnt _).1, ← (hnt _).2]
                            exact hfS (pp + (x - qq)) (by omega)
                          · have e9 : va_up (sC S) (rowT S b) (fun j => if qq ≤ j ∧ j < qq + k then sC S (rowT S a) (pp + (j - qq)) else sC S (rowT S b) j) (rowT S b) x = sC S (rowT S b) x := by simp [va_up, h9]
                            rw [if_neg h9, if_neg h9, e9]
                            exact hR.1 _ x hrb1 hx
                        · have e9 : va_up (sC S) (rowT S b) (fun j => if qq ≤ j ∧ j < qq + k then sC S (rowT S a) (pp + (j - qq)) else sC S (rowT S b) j) r = sC S r := by simp [va_up, e]
                          rw [e9, (hf _ (fun h => e (Nat.succ.inj h))).1, (hf _ (fun h => e (Nat.succ.inj h))).2]
                          exact hR.1 r x hr hx
                      · rw [(hf 0 (Ne.symm (Nat.succ_ne_zero _))).1, (hf 0 (Ne.symm (Nat.succ_ne_zero _))).2]
                        exact hR.2 r x hr hx)
                  · skip
                    have n_125 : ¬ nn ≤ k := fun h => absurd ((nI_leI (by omega) (by omega)).mpr h) c_125
                    refine lv_bipush (v := (-5)) hx hb dX3_carry_128 (by decide) ?_
                    refine lv_goto (tgt := 135) hx hb dX3_carry_130 (by decide) ?_
                    exact m_iret C w dX3_carry_135 (by omega) (by omega) (by
                      have hKe : mvK S a pp b nn = k := ld_eq (by omega) hK (by first | exact Or.inl (by omega) | exact Or.inr (by rw [← hag _ (by omega)]; exact n_84))
                      refine ⟨by rw [hm, hKe]; rw [if_pos (by omega)], f1, g1, by rw [hm, hKe]; exact hC2, ?_⟩
                      rw [hm, hKe]
                      refine ⟨fun r x hr hx => ?_, fun r x hr hx => ?_⟩
                      · show f1 (r + 1) x = nu (sK S r) (va_up (sC S) (rowT S b) (fun j => if qq ≤ j ∧ j < qq + k then sC S (rowT S a) (pp + (j - qq)) else sC S (rowT S b) j) r x) ∧ g1 (r + 1) x = th A (sK S r) (va_up (sC S) (rowT S b) (fun j => if qq ≤ j ∧ j < qq + k then sC S (rowT S a) (pp + (j - qq)) else sC S (rowT S b) j) r x)
                        have hx : x < sZ S r := hx
                        by_cases e : r = rowT S b
                        · subst e
                          rw [(hd x).1, (hd x).2]
                          by_cases h9 : qq ≤ x ∧ x < qq + k
                          · have e9 : va_up (sC S) (rowT S b) (fun j => if qq ≤ j ∧ j < qq + k then sC S (rowT S a) (pp + (j - qq)) else sC S (rowT S b) j) (rowT S b) x = sC S (rowT S a) (pp + (x - qq)) := by simp [va_up, h9]
                            rw [if_pos h9, if_pos h9, e9, ← (hnt _).1, ← (hnt _).2]
                            exact hfS (pp + (x - qq)) (by omega)
                          · have e9 : va_up (sC S) (rowT S b) (fun j => if qq ≤ j ∧ j < qq + k then sC S (rowT S a) (pp + (j - qq)) else sC S (rowT S b) j) (rowT S b) x = sC S (rowT S b) x := by simp [va_up, h9]
                            rw [if_neg h9, if_neg h9, e9]
                            exact hR.1 _ x hrb1 hx
                        · have e9 : va_up (sC S) (rowT S b) (fun j => if qq ≤ j ∧ j < qq + k then sC S (rowT S a) (pp + (j - qq)) else sC S (rowT S b) j) r = sC S r := by simp [va_up, e]
                          rw [e9, (hf _ (fun h => e (Nat.succ.inj h))).1, (hf _ (fun h => e (Nat.succ.inj h))).2]
                          exact hR.1 r x hr hx
                      · rw [(hf 0 (Ne.symm (Nat.succ_ne_zero _))).1, (hf 0 (Ne.symm (Nat.succ_ne_zero _))).2]
                        exact hR.2 r x hr hx)
                · skip
                  have n_84 : (acc (sH S b) (srt S (sK S (rowT S a)) (sC S (rowT S a) (pp + k)))) = true := bI_t c_84
                  refine lv_aload_n hx hb dX3_carry_87 rfl (lv_at hl 3 rfl) ?_
                  refine lv_iload hx hb dX3_carry_88 (lv_at hl 4 rfl) ?_
                  refine m_topi (y := nI qq) hq9 ?_
                  refine lv_aload_n hx hb dX3_carry_90 rfl (lv_at hl 0 rfl) ?_
                  refine m_get C w hC2.1.1 (index := 32) (T := TX3) (N := 7) rfl hi_X3 5 (by decide) (by decide +kernel) rfl dX3_carry_91 ?_
                  refine lv_iadd hx hb dX3_carry_94 ?_
                  refine m_topi (y := nI (qq + k)) (by first | exact nI_add _ _ | exact nI_1 _) ?_
                  refine lv_aload hx hb dX3_carry_95 (lv_at hl 6 rfl) ?_
                  refine lv_iload_n hx hb dX3_carry_97 rfl (lv_at hl 2 rfl) ?_
                  refine m_topi (y := nI pp) hp ?_
                  refine lv_aload_n hx hb dX3_carry_98 rfl (lv_at hl 0 rfl) ?_
                  refine m_get C w hC2.1.1 (index := 32) (T := TX3) (N := 7) rfl hi_X3 5 (by decide) (by decide +kernel) rfl dX3_carry_99 ?_
                  refine lv_iadd hx hb dX3_carry_102 ?_
                  refine m_topi (y := nI (pp + k)) (by first | exact nI_add _ _ | exact nI_1 _) ?_
                  have hgs : gs S (sH S b) (sC S (rowT S a) (pp + k)) = true := by rw [← hag _ (by omega)]; exact n_84
                  refine m_callV C w hl.1 (As := [.int (nI (qq + k)), .ref (tr a), .int (nI (pp + k))]) (rest := []) (c_Hold_copy l D y S0 M2 F (tr b) (sH S b) (zT S b) 0 (xn A (rowT S b + 1)) (xt A (rowT S b + 1)) hqb2 (tr a) (sH S a) (zT S a) 0 (xn A (rowT S a + 1)) (xt A (rowT S a + 1)) hsrc (f1 (rowT S b + 1)) (f1 (rowT S a + 1)) (g1 (rowT S b + 1)) (g1 (rowT S a + 1)) hnB htB hnS htS (qq + k) (pp + k) (by omega) (by omega) (by omega) (by omega) (fun z hz => hC2.1.th (hC2.2.1.2.2 (rowT S a + 1) (pp + k) z hra1 (by rw [zz_s]; show _ < sZ S (rowT S a); omega) hz))) gX3_carry_X0_copyPlace rfl hqb2 (T := TX0) (N := 5) rfl (show (_ = _ ∧ _ ≠ _ ∧ _ ≠ _ ∧ _ = some 3) by decide +kernel) ⟨Nat.le_of_ble_eq_true rfl, Nat.le_of_ble_eq_true rfl⟩ rfl (Nat.le_of_ble_eq_true rfl) dX3_carry_103 ⟨Nat.le_of_ble_eq_true rfl, Nat.le_of_ble_eq_true rfl⟩ (fun v M1 H locs hq w => ?_)
                  obtain ⟨rfl, hM1⟩ := hq
                  have hC3 := hC2.copy (a := rowT S b + 1) (b := (rowT S a + 1)) (i := qq + k) (j := pp + k) hrb1 hra1 (by rw [zz_s]; show _ < sZ S (rowT S b); omega) (by rw [zz_s]; show _ < sZ S (rowT S a); omega)
                  rw [show zz (wFl S k) (rowT S b + 1) = zT S b from (zz_s _ _).trans hzB.symm, ← hM1] at hC3
                  refine W.eq (g2 := F0 m 106 ls []) rfl ?_
                  refine lv_aload_n hx hb dX3_carry_106 rfl (lv_at hl 0 rfl) ?_
                  refine lv_dup hx hb dX3_carry_107 rfl ?_
                  refine m_get C w hC3.1.1 (index := 32) (T := TX3) (N := 7) rfl hi_X3 5 (by decide) (by decide +kernel) rfl dX3_carry_108 ?_
                  refine lv_iconst (v := 1) hx hb dX3_carry_111 (by decide) ?_
                  refine lv_iadd hx hb dX3_carry_112 ?_
                  refine m_topi (y := nI (k + 1)) (by first | exact nI_add _ _ | exact nI_1 _) ?_
                  refine m_put C w hC3.1.1 (v := .int (nI (k + 1))) (index := 32) (T := TX3) (N := 7) rfl hi_X3 tyX3 tyX3_ok nmX3 5 (by decide) (by decide +kernel) rfl (tyX3_ok 5 (by decide)) rfl rfl (Nat.le_of_ble_eq_true rfl) dX3_carry_113 (fun H locs w => ?_)
                  obtain ⟨M4, e_M4⟩ : ∃ z, z = mu M1 h0 (eO 2 (bF A (wFl S (k + 1)))) := ⟨_, rfl⟩
                  have w : mS D S0 M4 F s H locs := by rw [e_M4]; exact w
                  have hC4 := hC3.ben (wFl S (k + 1)) ⟨rfl, rfl, rfl, rfl, rfl, rfl, rfl, rfl, rfl⟩
                  rw [← e_M4] at hC4
                  refine lv_goto (tgt := 59) hx hb dX3_carry_116 (by decide) ?_
                  exact ih_lp (nn - (k + 1)) (by omega) (k + 1) _ _ M4 (by omega) hC4 (fun x hx => by
                      by_cases e : x = k
                      · rw [e]; exact hgs
                      · exact hK x (by omega)) (fun j hj => ⟨(up2_r hj).trans (hf j hj).1, (up2_r hj).trans (hf j hj).2⟩) (fun x => by
                      by_cases e : x = qq + k
                      · rw [e, up2_s, up2_s, if_pos ⟨by omega, by omega⟩, if_pos ⟨by omega, by omega⟩, (hf _ hsl).1, (hf _ hsl).2, show qq + k - qq = k by omega]; exact ⟨rfl, rfl⟩
                      · rw [up2_o (Or.inr e), up2_o (Or.inr e), (hd x).1, (hd x).2]
                        have hiff : (qq ≤ x ∧ x < qq + k) ↔ (qq ≤ x ∧ x < qq + (k + 1)) := by omega
                        simp only [hiff, and_self]) _ _ ls rfl w (lv_sub hl [0, 1, 2, 3, 4, 5, 6] rfl)
          exact lp _ 0 f g M1 (by omega) hC1 (fun x hx => by omega) (fun _ _ => ⟨rfl, rfl⟩) (fun x => by rw [if_neg (by omega), if_neg (by omega)]; exact ⟨rfl, rfl⟩) _ _ ls rfl w (lv_sub hl [2, 3, 4, 5, 6, 7, 0] rfl)
        · skip
          have hrr : rowT S a = rowT S b := hC.2.2.2.2.2.1 _ _ hra1 hrb1 (by rw [← eta, ← etb]; exact Option.some.inj c_46)
          have hsl : 0 ≠ rowT S b + 1 := Ne.symm (Nat.succ_ne_zero _)
          have hfS : ∀ x, x < zT S a → f 0 x = nu (sK S (rowT S a)) (sC S (rowT S a) x) ∧ g 0 x = th A (sK S (rowT S a)) (sC S (rowT S a) x) := fun x hx => by
            have := hR.2 (rowT S b) x (hkp h2b).1 (by rw [← hrr]; omega)
            rw [(hkp h2b).2, ← hrr] at this
            exact this
          refine lv_aload_n hx hb dX3_carry_49 rfl (lv_at hl 1 rfl) ?_
          refine m_get C w hC1.1.1 (index := 22) (T := TX3) (N := 7) rfl hi_X3 2 (by decide) (by decide +kernel) rfl dX3_carry_50 ?_
          refine lv_goto (tgt := 57) hx hb dX3_carry_53 (by decide) ?_
          refine lv_astore (lv' := [(7, .ref (xB A)), (6, .int (unlK (sH S a) (sH S b))), (0, .ref h0), (1, .ref (tr a)), (2, .int p1), (3, .ref (tr b)), (4, .int q1), (5, .int n1)]) hx hb dX3_carry_57 hl (by decide) rfl (fun ls hl => ?_)
          have lp : ∀ (kf : Nat) (k : Nat) (f1 : Nat → Nat → Int64) (g1 : Nat → Nat → Option Nat) (M2 : mp), (k ≤ nn) → (CW y h0 A tr f1 g1 (wFl S k) M2) → (∀ x, x < k → gs S (sH S b) (sC S (rowT S a) (pp + x)) = true) → (∀ j, j ≠ rowT S b + 1 → f1 j = f j ∧ g1 j = g j) → (∀ x, f1 (rowT S b + 1) x = (if qq ≤ x ∧ x < qq + k then f 0 (pp + (x - qq)) else f (rowT S b + 1) x) ∧ g1 (rowT S b + 1) x = (if qq ≤ x ∧ x < qq + k then g 0 (pp + (x - qq)) else g (rowT S b + 1) x)) →  ∀ (H : Heap) (locs : List Loc) (ls : Array Slot), nn - k = kf → mS D S0 M2 F s H locs → lv_has ls 8 [(0, .ref h0), (1, .ref (tr a)), (2, .int p1), (3, .ref (tr b)), (4, .int q1), (5, .int n1), (7, .ref (xB A))] → W p l e { frames := 2, cells := 0, slots := 0, locals := 42 } s m ([.ref h0, .ref (tr a), .int p1, .ref (tr b), .int q1, .int n1] : List Value).toArray below meth c H locs 0 0 (MQ below (mQ D S0 F (fun v M' => v = some (.int (movd S a p1 b q1 n1).1) ∧ ∃ f' g', CW y h0 A tr f' g' (movd S a p1 b q1 n1).2 M' ∧ CR A f' g' (movd S a p1 b q1 n1).2)) ([.ref h0, .ref (tr a), .int p1, .ref (tr b), .int q1, .int n1] : List Value).toArray s 0 0 (fun q => S0 ≤ q)) (F0 m 59 ls []) := by
            clear w hl
            intro kf
            induction kf using Nat.strongRecOn with
            | _ kf ih_lp =>
              intro k f1 g1 M2 hk hC2 hK hf hd H locs ls hkf w hl
              have hqb2 : M2 (tr b) = some (eO 0 (hF (sH S b) (zT S b) 0 (xn A (rowT S b + 1)) (xt A (rowT S b + 1)))) := by rw [etb, hzB, ← ekb]; exact hC2.1.2.2.2.2.2.1 (rowT S b) hrb1
              have hsrc : M2 (xB A) = some (eO 0 (hF 0 64 0 (xn A 0) (xt A 0))) := hC2.1.2.2.2.1
              have hnS : M2 (xn A 0) = some (eL y 64 (f1 0)) := hC2.2.1.1 0 (Nat.zero_le _)
              have htS : M2 (xt A 0) = some (eT y 64 (g1 0)) := hC2.2.1.2.1 0 (Nat.zero_le _)
              have hnB : M2 (xn A (rowT S b + 1)) = some (eL y (zT S b) (f1 (rowT S b + 1))) := by rw [hzB]; exact hC2.2.1.1 _ hrb1
              have htB : M2 (xt A (rowT S b + 1)) = some (eT y (zT S b) (g1 (rowT S b + 1))) := by rw [hzB]; exact hC2.2.1.2.1 _ hrb1
              refine lv_aload_n hx hb dX3_carry_59 rfl (lv_at hl 0 rfl) ?_
              refine m_get C w hC2.1.1 (index := 32) (T := TX3) (N := 7) rfl hi_X3 5 (by decide) (by decide +kernel) rfl dX3_carry_60 ?_
              refine lv_iload hx hb dX3_carry_63 (lv_at hl 5 rfl) ?_
              refine m_topi (y := nI nn) hn ?_
              refine lv_icmp_ge (tgt := 119) hx hb dX3_carry_65 (by decide) (fun c_65 => ?_) (fun c_65 => ?_)
              · skip
                have n_65 : nn ≤ k := (nI_leI (by omega) (by omega)).mp c_65
                refine lv_aload_n hx hb dX3_carry_119 rfl (lv_at hl 0 rfl) ?_
                refine m_get C w hC2.1.1 (index := 32) (T := TX3) (N := 7) rfl hi_X3 5 (by decide) (by decide +kernel) rfl dX3_carry_120 ?_
                refine lv_iload hx hb dX3_carry_123 (lv_at hl 5 rfl) ?_
                refine m_topi (y := nI nn) hn ?_
                refine lv_icmp_ge (tgt := 133) hx hb dX3_carry_125 (by decide) (fun c_125 => ?_) (fun c_125 => ?_)
                · skip
                  have n_125 : nn ≤ k := (nI_leI (by omega) (by omega)).mp c_125
                  refine lv_iload hx hb dX3_carry_133 (lv_at hl 5 rfl) ?_
                  refine m_topi (y := nI nn) hn ?_
                  exact m_iret C w dX3_carry_135 (by omega) (by omega) (by
                    have hKe : mvK S a pp b nn = k := ld_eq (by omega) hK (by first | exact Or.inl (by omega) | exact Or.inr (by rw [← hag _ (by omega)]; exact n_84))
                    refine ⟨by rw [hm, hKe]; rw [if_neg (by omega)], f1, g1, by rw [hm, hKe]; exact hC2, ?_⟩
                    rw [hm, hKe]
                    refine ⟨fun r x hr hx => ?_, fun r x hr hx => ?_⟩
                    · show f1 (r + 1) x = nu (sK S r) (va_up (sC S) (rowT S b) (fun j => if qq ≤ j ∧ j < qq + k then sC S (rowT S a) (pp + (j - qq)) else sC S (rowT S b) j) r x) ∧ g1 (r + 1) x = th A (sK S r) (va_up (sC S) (rowT S b) (fun j => if qq ≤ j ∧ j < qq + k then sC S (rowT S a) (pp + (j - qq)) else sC S (rowT S b) j) r x)
                      have hx : x < sZ S r := hx
                      by_cases e : r = rowT S b
                      · subst e
                        rw [(hd x).1, (hd x).2]
                        by_cases h9 : qq ≤ x ∧ x < qq + k
                        · have e9 : va_up (sC S) (rowT S b) (fun j => if qq ≤ j ∧ j < qq + k then sC S (rowT S a) (pp + (j - qq)) else sC S (rowT S b) j) (rowT S b) x = sC S (rowT S a) (pp + (x - qq)) := by simp [va_up, h9]
                          rw [if_pos h9, if_pos h9, e9, ← (hnt _).1, ← (hnt _).2]
                          exact hfS (pp + (x - qq)) (by omega)
                        · have e9 : va_up (sC S) (rowT S b) (fun j => if qq ≤ j ∧ j < qq + k then sC S (rowT S a) (pp + (j - qq)) else sC S (rowT S b) j) (rowT S b) x = sC S (rowT S b) x := by simp [va_up, h9]
                          rw [if_neg h9, if_neg h9, e9]
                          exact hR.1 _ x hrb1 hx
                      · have e9 : va_up (sC S) (rowT S b) (fun j => if qq ≤ j ∧ j < qq + k then sC S (rowT S a) (pp + (j - qq)) else sC S (rowT S b) j) r = sC S r := by simp [va_up, e]
                        rw [e9, (hf _ (fun h => e (Nat.succ.inj h))).1, (hf _ (fun h => e (Nat.succ.inj h))).2]
                        exact hR.1 r x hr hx
                    · rw [(hf 0 (Ne.symm (Nat.succ_ne_zero _))).1, (hf 0 (Ne.symm (Nat.succ_ne_zero _))).2]
                      exact hR.2 r x hr hx)
                · skip
                  have n_125 : ¬ nn ≤ k := fun h => absurd ((nI_leI (by omega) (by omega)).mpr h) c_125
                  refine lv_bipush (v := (-5)) hx hb dX3_carry_128 (by decide) ?_
                  refine lv_goto (tgt := 135) hx hb dX3_carry_130 (by decide) ?_
                  exact m_iret C w dX3_carry_135 (by omega) (by omega) (by
                    have hKe : mvK S a pp b nn = k := ld_eq (by omega) hK (by first | exact Or.inl (by omega) | exact Or.inr (by rw [← hag _ (by omega)]; exact n_84))
                    refine ⟨by rw [hm, hKe]; rw [if_pos (by omega)], f1, g1, by rw [hm, hKe]; exact hC2, ?_⟩
                    rw [hm, hKe]
                    refine ⟨fun r x hr hx => ?_, fun r x hr hx => ?_⟩
                    · show f1 (r + 1) x = nu (sK S r) (va_up (sC S) (rowT S b) (fun j => if qq ≤ j ∧ j < qq + k then sC S (rowT S a) (pp + (j - qq)) else sC S (rowT S b) j) r x) ∧ g1 (r + 1) x = th A (sK S r) (va_up (sC S) (rowT S b) (fun j => if qq ≤ j ∧ j < qq + k then sC S (rowT S a) (pp + (j - qq)) else sC S (rowT S b) j) r x)
                      have hx : x < sZ S r := hx
                      by_cases e : r = rowT S b
                      · subst e
                        rw [(hd x).1, (hd x).2]
                        by_cases h9 : qq ≤ x ∧ x < qq + k
                        · have e9 : va_up (sC S) (rowT S b) (fun j => if qq ≤ j ∧ j < qq + k then sC S (rowT S a) (pp + (j - qq)) else sC S (rowT S b) j) (rowT S b) x = sC S (rowT S a) (pp + (x - qq)) := by simp [va_up, h9]
                          rw [if_pos h9, if_pos h9, e9, ← (hnt _).1, ← (hnt _).2]
                          exact hfS (pp + (x - qq)) (by omega)
                        · have e9 : va_up (sC S) (rowT S b) (fun j => if qq ≤ j ∧ j < qq + k then sC S (rowT S a) (pp + (j - qq)) else sC S (rowT S b) j) (rowT S b) x = sC S (rowT S b) x := by simp [va_up, h9]
                          rw [if_neg h9, if_neg h9, e9]
                          exact hR.1 _ x hrb1 hx
                      · have e9 : va_up (sC S) (rowT S b) (fun j => if qq ≤ j ∧ j < qq + k then sC S (rowT S a) (pp + (j - qq)) else sC S (rowT S b) j) r = sC S r := by simp [va_up, e]
                        rw [e9, (hf _ (fun h => e (Nat.succ.inj h))).1, (hf _ (fun h => e (Nat.succ.inj h))).2]
                        exact hR.1 r x hr hx
                    · rw [(hf 0 (Ne.symm (Nat.succ_ne_zero _))).1, (hf 0 (Ne.symm (Nat.succ_ne_zero _))).2]
                      exact hR.2 r x hr hx)
              · skip
                have n_65 : ¬ nn ≤ k := fun h => absurd ((nI_leI (by omega) (by omega)).mpr h) c_65
                refine lv_aload_n hx hb dX3_carry_68 rfl (lv_at hl 3 rfl) ?_
                refine lv_aload hx hb dX3_carry_69 (lv_at hl 6 rfl) ?_
                refine m_getN C w hsrc (index := 73) (host := "BeadBench") (T := TX0) (N := 5) rfl hi_X0 4 (by decide) (by decide +kernel) rfl dX3_carry_71 ?_
                refine lv_iload_n hx hb dX3_carry_74 rfl (lv_at hl 2 rfl) ?_
                refine m_topi (y := nI pp) hp ?_
                refine lv_aload_n hx hb dX3_carry_75 rfl (lv_at hl 0 rfl) ?_
                refine m_get C w hC2.1.1 (index := 32) (T := TX3) (N := 7) rfl hi_X3 5 (by decide) (by decide +kernel) rfl dX3_carry_76 ?_
                refine lv_iadd hx hb dX3_carry_79 ?_
                refine m_topi (y := nI (pp + k)) (by first | exact nI_add _ _ | exact nI_1 _) ?_
                refine m_tald C w htS (pp + k) rfl (by omega) (by omega) dX3_carry_80 ?_
                have hth : thS M2 (g1 0 (pp + k)) (srt S (sK S (rowT S a)) (sC S (rowT S a) (pp + k))) := by rw [(hf _ hsl).2, (hfS _ (by omega)).2]; exact th_srt (S := wFl S k) (hI.fl (by omega)) hC2.1 (hvl _ (by omega))
                refine m_callV C w hl.1 (As := [va_rf ((g1 0) (pp + k))]) (rest := []) (c_Hold_accepts l D y S0 M2 F (tr b) (sH S b) (zT S b) 0 (xn A (rowT S b + 1)) (xt A (rowT S b + 1)) hqb2 hkb hzb (g1 0 (pp + k)) _ hth) gX3_carry_X0_accepts rfl hqb2 (T := TX0) (N := 5) rfl (show (_ = _ ∧ _ ≠ _ ∧ _ ≠ _ ∧ _ = some 1) by decide +kernel) ⟨Nat.le_of_ble_eq_true rfl, Nat.le_of_ble_eq_true rfl⟩ rfl (Nat.le_of_ble_eq_true rfl) dX3_carry_81 ⟨Nat.le_of_ble_eq_true rfl, Nat.le_of_ble_eq_true rfl⟩ (fun v M1 H locs hq w => ?_)
                obtain ⟨rfl, hM1⟩ := hq
                rw [hM1] at w
                clear hM1 M1
                refine W.eq (g2 := F0 m 84 ls [.int (bI (acc (sH S b) (srt S (sK S (rowT S a)) (sC S (rowT S a) (pp + k)))))]) rfl ?_
                refine lv_if_eq (tgt := 119) hx hb dX3_carry_84 (by decide) (fun c_84 => ?_) (fun c_84 => ?_)
                · skip
                  have n_84 : (acc (sH S b) (srt S (sK S (rowT S a)) (sC S (rowT S a) (pp + k)))) = false := bI_f c_84
                  refine lv_aload_n hx hb dX3_carry_119 rfl (lv_at hl 0 rfl) ?_
                  refine m_get C w hC2.1.1 (index := 32) (T := TX3) (N := 7) rfl hi_X3 5 (by decide) (by decide +kernel) rfl dX3_carry_120 ?_
                  refine lv_iload hx hb dX3_carry_123 (lv_at hl 5 rfl) ?_
                  refine m_topi (y := nI nn) hn ?_
                  refine lv_icmp_ge (tgt := 133) hx hb dX3_carry_125 (by decide) (fun c_125 => ?_) (fun c_125 => ?_)
                  · skip
                    have n_125 : nn ≤ k := (nI_leI (by omega) (by omega)).mp c_125
                    refine lv_iload hx hb dX3_carry_133 (lv_at hl 5 rfl) ?_
                    refine m_topi (y := nI nn) hn ?_
                    exact m_iret C w dX3_carry_135 (by omega) (by omega) (by
                      have hKe : mvK S a pp b nn = k := ld_eq (by omega) hK (by first | exact Or.inl (by omega) | exact Or.inr (by rw [← hag _ (by omega)]; exact n_84))
                      refine ⟨by rw [hm, hKe]; rw [if_neg (by omega)], f1, g1, by rw [hm, hKe]; exact hC2, ?_⟩
                      rw [hm, hKe]
                      refine ⟨fun r x hr hx => ?_, fun r x hr hx => ?_⟩
                      · show f1 (r + 1) x = nu (sK S r) (va_up (sC S) (rowT S b) (fun j => if qq ≤ j ∧ j < qq + k then sC S (rowT S a) (pp + (j - qq)) else sC S (rowT S b) j) r x) ∧ g1 (r + 1) x = th A (sK S r) (va_up (sC S) (rowT S b) (fun j => if qq ≤ j ∧ j < qq + k then sC S (rowT S a) (pp + (j - qq)) else sC S (rowT S b) j) r x)
                        have hx : x < sZ S r := hx
                        by_cases e : r = rowT S b
                        · subst e
                          rw [(hd x).1, (hd x).2]
                          by_cases h9 : qq ≤ x ∧ x < qq + k
                          · have e9 : va_up (sC S) (rowT S b) (fun j => if qq ≤ j ∧ j < qq + k then sC S (rowT S a) (pp + (j - qq)) else sC S (rowT S b) j) (rowT S b) x = sC S (rowT S a) (pp + (x - qq)) := by simp [va_up, h9]
                            rw [if_pos h9, if_pos h9, e9, ← (hnt _).1, ← (hnt _).2]
                            exact hfS (pp + (x - qq)) (by omega)
                          · have e9 : va_up (sC S) (rowT S b) (fun j => if qq ≤ j ∧ j < qq + k then sC S (rowT S a) (pp + (j - qq)) else sC S (rowT S b) j) (rowT S b) x = sC S (rowT S b) x := by simp [va_up, h9]
                            rw [if_neg h9, if_neg h9, e9]
                            exact hR.1 _ x hrb1 hx
                        · have e9 : va_up (sC S) (rowT S b) (fun j => if qq ≤ j ∧ j < qq + k then sC S (rowT S a) (pp + (j - qq)) else sC S (rowT S b) j) r = sC S r := by simp [va_up, e]
                          rw [e9, (hf _ (fun h => e (Nat.succ.inj h))).1, (hf _ (fun h => e (Nat.succ.inj h))).2]
                          exact hR.1 r x hr hx
                      · rw [(hf 0 (Ne.symm (Nat.succ_ne_zero _))).1, (hf 0 (Ne.symm (Nat.succ_ne_zero _))).2]
                        exact hR.2 r x hr hx)
                  · skip
                    have n_125 : ¬ nn ≤ k := fun h => absurd ((nI_leI (by omega) (by omega)).mpr h) c_125
                    refine lv_bipush (v := (-5)) hx hb dX3_carry_128 (by decide) ?_
                    refine lv_goto (tgt := 135) hx hb dX3_carry_130 (by decide) ?_
                    exact m_iret C w dX3_carry_135 (by omega) (by omega) (by
                      have hKe : mvK S a pp b nn = k := ld_eq (by omega) hK (by first | exact Or.inl (by omega) | exact Or.inr (by rw [← hag _ (by omega)]; exact n_84))
                      refine ⟨by rw [hm, hKe]; rw [if_pos (by omega)], f1, g1, by rw [hm, hKe]; exact hC2, ?_⟩
                      rw [hm, hKe]
                      refine ⟨fun r x hr hx => ?_, fun r x hr hx => ?_⟩
                      · show f1 (r + 1) x = nu (sK S r) (va_up (sC S) (rowT S b) (fun j => if qq ≤ j ∧ j < qq + k then sC S (rowT S a) (pp + (j - qq)) else sC S (rowT S b) j) r x) ∧ g1 (r + 1) x = th A (sK S r) (va_up (sC S) (rowT S b) (fun j => if qq ≤ j ∧ j < qq + k then sC S (rowT S a) (pp + (j - qq)) else sC S (rowT S b) j) r x)
                        have hx : x < sZ S r := hx
                        by_cases e : r = rowT S b
                        · subst e
                          rw [(hd x).1, (hd x).2]
                          by_cases h9 : qq ≤ x ∧ x < qq + k
                          · have e9 : va_up (sC S) (rowT S b) (fun j => if qq ≤ j ∧ j < qq + k then sC S (rowT S a) (pp + (j - qq)) else sC S (rowT S b) j) (rowT S b) x = sC S (rowT S a) (pp + (x - qq)) := by simp [va_up, h9]
                            rw [if_pos h9, if_pos h9, e9, ← (hnt _).1, ← (hnt _).2]
                            exact hfS (pp + (x - qq)) (by omega)
                          · have e9 : va_up (sC S) (rowT S b) (fun j => if qq ≤ j ∧ j < qq + k then sC S (rowT S a) (pp + (j - qq)) else sC S (rowT S b) j) (rowT S b) x = sC S (rowT S b) x := by simp [va_up, h9]
                            rw [if_neg h9, if_neg h9, e9]
                            exact hR.1 _ x hrb1 hx
                        · have e9 : va_up (sC S) (rowT S b) (fun j => if qq ≤ j ∧ j < qq + k then sC S (rowT S a) (pp + (j - qq)) else sC S (rowT S b) j) r = sC S r := by simp [va_up, e]
                          rw [e9, (hf _ (fun h => e (Nat.succ.inj h))).1, (hf _ (fun h => e (Nat.succ.inj h))).2]
                          exact hR.1 r x hr hx
                      · rw [(hf 0 (Ne.symm (Nat.succ_ne_zero _))).1, (hf 0 (Ne.symm (Nat.succ_ne_zero _))).2]
                        exact hR.2 r x hr hx)
                · skip
                  have n_84 : (acc (sH S b) (srt S (sK S (rowT S a)) (sC S (rowT S a) (pp + k)))) = true := bI_t c_84
                  refine lv_aload_n hx hb dX3_carry_87 rfl (lv_at hl 3 rfl) ?_
                  refine lv_iload hx hb dX3_carry_88 (lv_at hl 4 rfl) ?_
                  refine m_topi (y := nI qq) hq9 ?_
                  refine lv_aload_n hx hb dX3_carry_90 rfl (lv_at hl 0 rfl) ?_
                  refine m_get C w hC2.1.1 (index := 32) (T := TX3) (N := 7) rfl hi_X3 5 (by decide) (by decide +kernel) rfl dX3_carry_91 ?_
                  refine lv_iadd hx hb dX3_carry_94 ?_
                  refine m_topi (y := nI (qq + k)) (by first | exact nI_add _ _ | exact nI_1 _) ?_
                  refine lv_aload hx hb dX3_carry_95 (lv_at hl 6 rfl) ?_
                  refine lv_iload_n hx hb dX3_carry_97 rfl (lv_at hl 2 rfl) ?_
                  refine m_topi (y := nI pp) hp ?_
                  refine lv_aload_n hx hb dX3_carry_98 rfl (lv_at hl 0 rfl) ?_
                  refine m_get C w hC2.1.1 (index := 32) (T := TX3) (N := 7) rfl hi_X3 5 (by decide) (by decide +kernel) rfl dX3_carry_99 ?_
                  refine lv_iadd hx hb dX3_carry_102 ?_
                  refine m_topi (y := nI (pp + k)) (by first | exact nI_add _ _ | exact nI_1 _) ?_
                  have hgs : gs S (sH S b) (sC S (rowT S a) (pp + k)) = true := by rw [← hag _ (by omega)]; exact n_84
                  refine m_callV C w hl.1 (As := [.int (nI (qq + k)), .ref (xB A), .int (nI (pp + k))]) (rest := []) (c_Hold_copy l D y S0 M2 F (tr b) (sH S b) (zT S b) 0 (xn A (rowT S b + 1)) (xt A (rowT S b + 1)) hqb2 (xB A) 0 64 0 (xn A 0) (xt A 0) hsrc (f1 (rowT S b + 1)) (f1 0) (g1 (rowT S b + 1)) (g1 0) hnB htB hnS htS (qq + k) (pp + k) (by omega) (by omega) (by omega) (by omega) (fun z hz => hC2.1.th (hC2.2.1.2.2 0 (pp + k) z (Nat.zero_le _) (by rw [zz_0]; omega) hz))) gX3_carry_X0_copyPlace rfl hqb2 (T := TX0) (N := 5) rfl (show (_ = _ ∧ _ ≠ _ ∧ _ ≠ _ ∧ _ = some 3) by decide +kernel) ⟨Nat.le_of_ble_eq_true rfl, Nat.le_of_ble_eq_true rfl⟩ rfl (Nat.le_of_ble_eq_true rfl) dX3_carry_103 ⟨Nat.le_of_ble_eq_true rfl, Nat.le_of_ble_eq_true rfl⟩ (fun v M1 H locs hq w => ?_)
                  obtain ⟨rfl, hM1⟩ := hq
                  have hC3 := hC2.copy (a := rowT S b + 1) (b := 0) (i := qq + k) (j := pp + k) hrb1 (Nat.zero_le _) (by rw [zz_s]; show _ < sZ S (rowT S b); omega) (by rw [zz_0]; omega)
                  rw [show zz (wFl S k) (rowT S b + 1) = zT S b from (zz_s _ _).trans hzB.symm, ← hM1] at hC3
                  refine W.eq (g2 := F0 m 106 ls []) rfl ?_
                  refine lv_aload_n hx hb dX3_carry_106 rfl (lv_at hl 0 rfl) ?_
                  refine lv_dup hx hb dX3_carry_107 rfl ?_
                  refine m_get C w hC3.1.1 (index := 32) (T := TX3) (N := 7) rfl hi_X3 5 (by decide) (by decide +kernel) rfl dX3_carry_108 ?_
                  refine lv_iconst (v := 1) hx hb dX3_carry_111 (by decide) ?_
                  refine lv_iadd hx hb dX3_carry_112 ?_
                  refine m_topi (y := nI (k + 1)) (by first | exact nI_add _ _ | exact nI_1 _) ?_
                  refine m_put C w hC3.1.1 (v := .int (nI (k + 1))) (index := 32) (T := TX3) (N := 7) rfl hi_X3 tyX3 tyX3_ok nmX3 5 (by decide) (by decide +kernel) rfl (tyX3_ok 5 (by decide)) rfl rfl (Nat.le_of_ble_eq_true rfl) dX3_carry_113 (fun H locs w => ?_)
                  obtain ⟨M4, e_M4⟩ : ∃ z, z = mu M1 h0 (eO 2 (bF A (wFl S (k + 1)))) := ⟨_, rfl⟩
                  have w : mS D S0 M4 F s H locs := by rw [e_M4]; exact w
                  have hC4 := hC3.ben (wFl S (k + 1)) ⟨rfl, rfl, rfl, rfl, rfl, rfl, rfl, rfl, rfl⟩
                  rw [← e_M4] at hC4
                  refine lv_goto (tgt := 59) hx hb dX3_carry_116 (by decide) ?_
                  exact ih_lp (nn - (k + 1)) (by omega) (k + 1) _ _ M4 (by omega) hC4 (fun x hx => by
                      by_cases e : x = k
                      · rw [e]; exact hgs
                      · exact hK x (by omega)) (fun j hj => ⟨(up2_r hj).trans (hf j hj).1, (up2_r hj).trans (hf j hj).2⟩) (fun x => by
                      by_cases e : x = qq + k
                      · rw [e, up2_s, up2_s, if_pos ⟨by omega, by omega⟩, if_pos ⟨by omega, by omega⟩, (hf _ hsl).1, (hf _ hsl).2, show qq + k - qq = k by omega]; exact ⟨rfl, rfl⟩
                      · rw [up2_o (Or.inr e), up2_o (Or.inr e), (hd x).1, (hd x).2]
                        have hiff : (qq ≤ x ∧ x < qq + k) ↔ (qq ≤ x ∧ x < qq + (k + 1)) := by omega
                        simp only [hiff, and_self]) _ _ ls rfl w (lv_sub hl [0, 1, 2, 3, 4, 5, 6] rfl)
          exact lp _ 0 f g M1 (by omega) hC1 (fun x hx => by omega) (fun _ _ => ⟨rfl, rfl⟩) (fun x => by rw [if_neg (by omega), if_neg (by omega)]; exact ⟨rfl, rfl⟩) _ _ ls rfl w (lv_sub hl [2, 3, 4, 5, 6, 7, 0] rfl)
      · skip
        have n_38 : (hpl q1 n1 (zT S b)) = false := bI_f c_38
        refine lv_bipush (v := (-4)) hx hb dX3_carry_41 (by decide) ?_
        exact m_iret C w dX3_carry_43 (by omega) (by omega) (⟨by rw [(show movd S a p1 b q1 n1 = (-4, wFl S 0) by unfold movd; rw [if_neg (show ¬ ¬ unl S a b = 0 from fun h => h c_14), if_pos (by first | simp [n_27, n_38] | simp [n_27])])], f, g, by rw [(show movd S a p1 b q1 n1 = (-4, wFl S 0) by unfold movd; rw [if_neg (show ¬ ¬ unl S a b = 0 from fun h => h c_14), if_pos (by first | simp [n_27, n_38] | simp [n_27])])]; exact hC1, by rw [(show movd S a p1 b q1 n1 = (-4, wFl S 0) by unfold movd; rw [if_neg (show ¬ ¬ unl S a b = 0 from fun h => h c_14), if_pos (by first | simp [n_27, n_38] | simp [n_27])])]; exact hR⟩)
  · skip
    refine lv_iload hx hb dX3_carry_17 (lv_at hl 0 rfl) ?_
    exact m_iret C w dX3_carry_19 (by omega) (by omega) (⟨by rw [show movd S a p1 b q1 n1 = (unl S a b, wFl S 0) by unfold movd; rw [if_pos (show ¬ unl S a b = 0 from c_14)]]; rfl, f, g, by rw [show movd S a p1 b q1 n1 = (unl S a b, wFl S 0) by unfold movd; rw [if_pos (show ¬ unl S a b = 0 from c_14)]]; exact hC1, by rw [show movd S a p1 b q1 n1 = (unl S a b, wFl S 0) by unfold movd; rw [if_pos (show ¬ unl S a b = 0 from c_14)]]; exact hR⟩)
end
section
theorem rowT_eq {c : Nat} {S : St} (hI : Inv c S) {t : Nat} (ht : t < 12) (h2 : 2 ≤ sH S t) : rowT S t < sN S ∧ sK S (rowT S t) = sH S t := by
  obtain ⟨r, hr, e, e2⟩ := (hI.2.2.2.2.2.2.1 t ht).2 h2
  have er : rowT S t = r := by
    unfold rowT
    rw [e]
    exact cN_nI (by have := hI.1; have := hI.2.2.1; omega)
  rw [er]
  exact ⟨hr, e2⟩
theorem kep_row {S : St} {t : Nat} (h2 : 2 ≤ sH S t) : kep S t = wBf S (some (rowT S t)) (sC S (rowT S t)) := by
  unfold kep
  rw [if_pos h2]
theorem kep_no {S : St} {t : Nat} (h2 : ¬ 2 ≤ sH S t) : kep S t = wBf S none (sF S) := by
  unfold kep
  rw [if_neg h2]
theorem inv_kep {c : Nat} {S : St} (h : Inv c S) {t : Nat} (ht : t < 12) : Inv c (kep S t) := by
  have hI := h
  obtain ⟨h1, h2, h3, h4, h5, h6, h7, h8, h9⟩ := h
  by_cases q : 2 ≤ sH S t
  · rw [kep_row q]
    refine ⟨h1, h2, h3, h4, h5, h6, h7, fun r hr => ?_, h9⟩
    cases hr
    have e := rowT_eq hI ht q
    exact ⟨e.1, (h4 _ e.1).2.2.2⟩
  · rw [kep_no q]
    exact ⟨h1, h2, h3, h4, h5, h6, h7, fun r hr => (by cases hr), h9⟩
theorem kep_ok {S : St} {t : Nat} (h2 : 2 ≤ sH (kep S t) t) : sB (kep S t) = some (rowT (kep S t) t) ∧ sF (kep S t) = sC (kep S t) (rowT (kep S t) t) := by
  by_cases q : 2 ≤ sH S t
  · rw [kep_row q]
    exact ⟨rfl, rfl⟩
  · rw [kep_no q] at h2
    exact absurd h2 q
theorem movd_ok {c : Nat} {S : St} (hI : Inv c S) {a b : Nat} (ha : a < 12) (hb : b < 12) {p q n : Int32} (h : (movd S a p b q n).1 < 0) : ∃ k, k < 6 ∧ -(movd S a p b q n).1 = nI k := by
  unfold movd at h ⊢
  by_cases h1 : unl S a b = 0
  · rw [if_neg (fun q => q h1)] at h ⊢
    by_cases h2 : (hpl p n (zT S a) && hpl q n (zT S b)) = false
    · rw [if_pos h2]
      exact ⟨4, by decide, show -(-4 : Int32) = nI 4 by decide⟩
    · rw [if_neg h2] at h ⊢
      by_cases h3 : mvK S a (cN p) b (cN n) < cN n
      · simp only [if_pos h3]
        exact ⟨5, by decide, show -(-5 : Int32) = nI 5 by decide⟩
      · simp only [if_neg h3] at h
        have h4 : hpl p n (zT S a) = true := by
          cases hh : hpl p n (zT S a) with
          | true => rfl
          | false => rw [hh] at h2; exact absurd rfl h2
        obtain ⟨pp, nn, -, rfl, hb9⟩ := hpl_t (zT_le hI ha) h4
        have hz := zT_le hI ha
        exact absurd h (nI_pos (by omega))
  · rw [if_pos h1] at h ⊢
    unfold unl at h ⊢
    by_cases q1 : sH S a = 0 ∨ sH S b = 0
    · rw [if_pos q1]; exact ⟨1, by decide, show -(-1 : Int32) = nI 1 by decide⟩
    · rw [if_neg q1] at h ⊢
      by_cases q2 : sH S a = 1 ∨ sH S b = 1
      · rw [if_pos q2]; exact ⟨2, by decide, show -(-2 : Int32) = nI 2 by decide⟩
      · rw [if_neg q2] at h ⊢
        by_cases q3 : (isN (sH S a) || isN (sH S b)) = true ∧ sH S a ≠ sH S b
        · rw [if_pos q3]; exact ⟨3, by decide, show -(-3 : Int32) = nI 3 by decide⟩
        · rw [if_neg q3] at h; exact absurd (show (0 : Int32) < 0 from h) (by decide)
theorem fR_ok {k : Nat} (h : fR k < 0) : ∃ j, j < 6 ∧ -fR k = nI j := by
  unfold fR at h ⊢
  by_cases q1 : k = 0
  · rw [if_pos q1]; exact ⟨1, by decide, show -(-1 : Int32) = nI 1 by decide⟩
  · rw [if_neg q1] at h ⊢
    by_cases q2 : k = 1
    · rw [if_pos q2]; exact ⟨2, by decide, show -(-2 : Int32) = nI 2 by decide⟩
    · rw [if_neg q2] at h; exact absurd h (by decide)
theorem nI_ok {n : Nat} (hn : n < 2 ^ 31) (h : nI n < 0) : ∃ j, j < 6 ∧ -nI n = nI j := absurd h (nI_pos hn)
theorem tiK_eq (k : Int32) {m i : Nat} (hm : 0 < m) : tiK k m i = (fmd k m + i) % m := by
  unfold tiK fmd
  have h4 := Int.emod_nonneg k.toInt (show (m : Int) ≠ 0 by omega)
  have h5 := Int.emod_nonneg (k.toInt + (i : Int)) (show (m : Int) ≠ 0 by omega)
  have e : ((((k.toInt % (m : Int)).toNat + i) % m : Nat) : Int) = (k.toInt + (i : Int)) % (m : Int) := by
    rw [Int.natCast_emod, Int.natCast_add, Int.toNat_of_nonneg h4, Int.emod_add_emod]
  omega
set_option maxRecDepth 100000 in
set_option maxHeartbeats 4000000 in
theorem c_move (l : Launch) (D : va_G) (y : mY) (S0 : Nat) (M F : mp) (h0 : Nat) (A : Ad) (tr : Nat → Nat) (f : Nat → Nat → Int64) (g : Nat → Nat → Option Nat) (S : St) (hC : CW y h0 A tr f g S M) (c0 : Nat) (hI : Inv c0 S) (hR : CR A f g S) (a1 p1 b1 q1 n1 : Int32) : ct l yX3_move wsX3_move 3 69 0 0 D y S0 M F [.ref h0, .int a1, .int p1, .int b1, .int q1, .int n1] (fun v M' => v = some (.int (sp_move S a1 p1 b1 q1 n1).1) ∧ RC y h0 (sp_move S a1 p1 b1 q1 n1).2 M') := by
  refine ct_of cX3_move 6 (some .int) [(0, .ref h0), (1, .int a1), (2, .int p1), (3, .int b1), (4, .int q1), (5, .int n1)] (by decide +kernel) rfl (Nat.le_of_ble_eq_true rfl) rfl ?_
  intro p e s m below meth c ls C hnm hl w
  have hx := C.1
  have hb := C.2.1
  have hi_X0 : ∀ w ∈ u_ws RX0 TX0 5, w ∈ wsX3_move := by decide +kernel
  have hi_X3 : ∀ w ∈ u_ws RX3 TX3 7, w ∈ wsX3_move := by decide +kernel
  refine lv_iload_n hx hb dX3_move_0 rfl (lv_at hl 1 rfl) ?_
  refine m_callS C w hl.1 (As := [.int a1]) (rest := []) (c_isTray l D y S0 M F a1) ggX3_move_X3_isTray rfl (by decide +kernel) (by decide +kernel) (by decide +kernel) (show (_ ≠ _ ∧ _ ≠ _ ∧ _ = some 1) by decide +kernel) ⟨Nat.le_of_ble_eq_true rfl, Nat.le_of_ble_eq_true rfl⟩ rfl (Nat.le_of_ble_eq_true rfl) dX3_move_1 ⟨Nat.le_of_ble_eq_true rfl, Nat.le_of_ble_eq_true rfl⟩ (fun v M1 H locs hq w => ?_)
  obtain ⟨rfl, hM1⟩ := hq
  rw [hM1] at w
  clear hM1 M1
  refine W.eq (g2 := F0 m 4 ls [.int (bI (inP a1 12))]) rfl ?_
  refine lv_if_eq (tgt := 14) hx hb dX3_move_4 (by decide) (fun c_4 => ?_) (fun c_4 => ?_)
  · skip
    have n_4 : (inP a1 12) = false := bI_f c_4
    refine lv_bipush (v := (-6)) hx hb dX3_move_14 (by decide) ?_
    exact m_iret C w dX3_move_16 (by omega) (by omega) (⟨by rw [(show sp_move S a1 p1 b1 q1 n1 = (-6, S) by unfold sp_move; rw [if_pos (by first | simp [n_4, n_11] | simp [n_4])])], by rw [(show sp_move S a1 p1 b1 q1 n1 = (-6, S) by unfold sp_move; rw [if_pos (by first | simp [n_4, n_11] | simp [n_4])])]; exact ⟨A, tr, f, g, hC, hR⟩⟩)
  · skip
    have n_4 : (inP a1 12) = true := bI_t c_4
    refine lv_iload_n hx hb dX3_move_7 rfl (lv_at hl 3 rfl) ?_
    refine m_callS C w hl.1 (As := [.int b1]) (rest := []) (c_isTray l D y S0 M F b1) ggX3_move_X3_isTray rfl (by decide +kernel) (by decide +kernel) (by decide +kernel) (show (_ ≠ _ ∧ _ ≠ _ ∧ _ = some 1) by decide +kernel) ⟨Nat.le_of_ble_eq_true rfl, Nat.le_of_ble_eq_true rfl⟩ rfl (Nat.le_of_ble_eq_true rfl) dX3_move_8 ⟨Nat.le_of_ble_eq_true rfl, Nat.le_of_ble_eq_true rfl⟩ (fun v M1 H locs hq w => ?_)
    obtain ⟨rfl, hM1⟩ := hq
    rw [hM1] at w
    clear hM1 M1
    refine W.eq (g2 := F0 m 11 ls [.int (bI (inP b1 12))]) rfl ?_
    refine lv_if_ne (tgt := 17) hx hb dX3_move_11 (by decide) (fun c_11 => ?_) (fun c_11 => ?_)
    · skip
      have n_11 : (inP b1 12) = true := bI_t c_11
      obtain ⟨ta, hta, ea⟩ := inP_t (by decide) n_4
      obtain ⟨tb, htb, eb⟩ := inP_t (by decide) n_11
      have hm : sp_move S a1 p1 b1 q1 n1 = ((movd (kep S tb) ta p1 tb q1 n1).1, tell (movd (kep S tb) ta p1 tb q1 n1).2 (movd (kep S tb) ta p1 tb q1 n1).1) := by unfold sp_move; rw [if_neg (by simp [n_4, n_11]), ea, eb, cN_nI (by omega), cN_nI (by omega)]
      refine lv_aload_n hx hb dX3_move_17 rfl (lv_at hl 0 rfl) ?_
      refine lv_aload_n hx hb dX3_move_18 rfl (lv_at hl 0 rfl) ?_
      refine m_get C w hC.1.1 (index := 18) (T := TX3) (N := 7) rfl hi_X3 1 (by decide) (by decide +kernel) rfl dX3_move_19 ?_
      refine lv_iload_n hx hb dX3_move_22 rfl (lv_at hl 3 rfl) ?_
      refine m_topi (y := nI tb) eb ?_
      refine m_hald C w hC.1.2.2.1 tb rfl (by omega) (by omega) dX3_move_23 ?_
      refine m_callV C w hl.1 (As := [.ref (tr tb)]) (rest := []) (c_keep l D y S0 M F h0 A tr f g S hC c0 hI hR tb htb) gX3_move_X3_keep rfl hC.1.1 (T := TX3) (N := 7) rfl (show (_ = _ ∧ _ ≠ _ ∧ _ ≠ _ ∧ _ = some 1) by decide +kernel) ⟨Nat.le_of_ble_eq_true rfl, Nat.le_of_ble_eq_true rfl⟩ rfl (Nat.le_of_ble_eq_true rfl) dX3_move_24 ⟨Nat.le_of_ble_eq_true rfl, Nat.le_of_ble_eq_true rfl⟩ (fun v M1 H locs hq w => ?_)
      obtain ⟨rfl, f1, g1, hC1, hR1⟩ := hq
      have hI1 := inv_kep hI htb
      refine W.eq (g2 := F0 m 27 ls []) rfl ?_
      refine lv_aload_n hx hb dX3_move_27 rfl (lv_at hl 0 rfl) ?_
      refine lv_aload_n hx hb dX3_move_28 rfl (lv_at hl 0 rfl) ?_
      refine lv_aload_n hx hb dX3_move_29 rfl (lv_at hl 0 rfl) ?_
      refine m_get C w hC1.1.1 (index := 18) (T := TX3) (N := 7) rfl hi_X3 1 (by decide) (by decide +kernel) rfl dX3_move_30 ?_
      refine lv_iload_n hx hb dX3_move_33 rfl (lv_at hl 1 rfl) ?_
      refine m_topi (y := nI ta) ea ?_
      refine m_hald C w hC1.1.2.2.1 ta rfl (by omega) (by omega) dX3_move_34 ?_
      refine lv_iload_n hx hb dX3_move_35 rfl (lv_at hl 2 rfl) ?_
      refine lv_aload_n hx hb dX3_move_36 rfl (lv_at hl 0 rfl) ?_
      refine m_get C w hC1.1.1 (index := 18) (T := TX3) (N := 7) rfl hi_X3 1 (by decide) (by decide +kernel) rfl dX3_move_37 ?_
      refine lv_iload_n hx hb dX3_move_40 rfl (lv_at hl 3 rfl) ?_
      refine m_topi (y := nI tb) eb ?_
      refine m_hald C w hC1.1.2.2.1 tb rfl (by omega) (by omega) dX3_move_41 ?_
      refine lv_iload hx hb dX3_move_42 (lv_at hl 4 rfl) ?_
      refine lv_iload hx hb dX3_move_44 (lv_at hl 5 rfl) ?_
      refine m_callV C w hl.1 (As := [.ref (tr ta), .int p1, .ref (tr tb), .int q1, .int n1]) (rest := [.ref h0]) (c_carry l D y S0 M1 F h0 A tr f1 g1 (kep S tb) hC1 c0 hI1 hR1 ta tb hta htb p1 q1 n1 kep_ok) gX3_move_X3_carry rfl hC1.1.1 (T := TX3) (N := 7) rfl (show (_ = _ ∧ _ ≠ _ ∧ _ ≠ _ ∧ _ = some 5) by decide +kernel) ⟨Nat.le_of_ble_eq_true rfl, Nat.le_of_ble_eq_true rfl⟩ rfl (Nat.le_of_ble_eq_true rfl) dX3_move_46 ⟨Nat.le_of_ble_eq_true rfl, Nat.le_of_ble_eq_true rfl⟩ (fun v M1 H locs hq w => ?_)
      obtain ⟨rfl, f2, g2, hC2, hR2⟩ := hq
      refine W.eq (g2 := F0 m 49 ls [.int ((movd (kep S tb) ta p1 tb q1 n1).1), .ref h0]) rfl ?_
      refine m_callV C w hl.1 (As := [.int ((movd (kep S tb) ta p1 tb q1 n1).1)]) (rest := []) (c_counted l D y S0 M1 F h0 A tr f2 g2 (movd (kep S tb) ta p1 tb q1 n1).2 hC2 (movd (kep S tb) ta p1 tb q1 n1).1 (movd_ok hI1 hta htb)) gX3_move_X3_counted rfl hC2.1.1 (T := TX3) (N := 7) rfl (show (_ = _ ∧ _ ≠ _ ∧ _ ≠ _ ∧ _ = some 1) by decide +kernel) ⟨Nat.le_of_ble_eq_true rfl, Nat.le_of_ble_eq_true rfl⟩ rfl (Nat.le_of_ble_eq_true rfl) dX3_move_49 ⟨Nat.le_of_ble_eq_true rfl, Nat.le_of_ble_eq_true rfl⟩ (fun v M1 H locs hq w => ?_)
      obtain ⟨rfl, hC9⟩ := hq
      refine W.eq (g2 := F0 m 52 ls [.int ((movd (kep S tb) ta p1 tb q1 n1).1)]) rfl ?_
      exact m_iret C w dX3_move_52 (by omega) (by omega) (⟨by rw [hm], by rw [hm]; exact ⟨A, tr, f2, g2, hC9, hR2⟩⟩)
    · skip
      have n_11 : (inP b1 12) = false := bI_f c_11
      refine lv_bipush (v := (-6)) hx hb dX3_move_14 (by decide) ?_
      exact m_iret C w dX3_move_16 (by omega) (by omega) (⟨by rw [(show sp_move S a1 p1 b1 q1 n1 = (-6, S) by unfold sp_move; rw [if_pos (by first | simp [n_4, n_11] | simp [n_4])])], by rw [(show sp_move S a1 p1 b1 q1 n1 = (-6, S) by unfold sp_move; rw [if_pos (by first | simp [n_4, n_11] | simp [n_4])])]; exact ⟨A, tr, f, g, hC, hR⟩⟩)
set_option maxRecDepth 100000 in
set_option maxHeartbeats 4000000 in
theorem c_open (l : Launch) (D : va_G) (y : mY) (S0 : Nat) (M F : mp) (h0 : Nat) (A : Ad) (tr : Nat → Nat) (f : Nat → Nat → Int64) (g : Nat → Nat → Option Nat) (S : St) (hC : CW y h0 A tr f g S M) (c0 : Nat) (hI : Inv c0 S) (hR : CR A f g S) (t1 i1 n1 : Int32) : ct l yX3_open wsX3_open 4 94 0 0 D y S0 M F [.ref h0, .int t1, .int i1, .int n1] (fun v M' => v = some (.int (sp_open S t1 i1 n1).1) ∧ RC y h0 (sp_open S t1 i1 n1).2 M') := by
  refine ct_of cX3_open 4 (some .int) [(0, .ref h0), (1, .int t1), (2, .int i1), (3, .int n1)] (by decide +kernel) rfl (Nat.le_of_ble_eq_true rfl) rfl ?_
  intro p e s m below meth c ls C hnm hl w
  have hx := C.1
  have hb := C.2.1
  have hi_X0 : ∀ w ∈ u_ws RX0 TX0 5, w ∈ wsX3_open := by decide +kernel
  have hi_X3 : ∀ w ∈ u_ws RX3 TX3 7, w ∈ wsX3_open := by decide +kernel
  refine lv_iload_n hx hb dX3_open_0 rfl (lv_at hl 1 rfl) ?_
  refine m_callS C w hl.1 (As := [.int t1]) (rest := []) (c_isTray l D y S0 M F t1) ggX3_open_X3_isTray rfl (by decide +kernel) (by decide +kernel) (by decide +kernel) (show (_ ≠ _ ∧ _ ≠ _ ∧ _ = some 1) by decide +kernel) ⟨Nat.le_of_ble_eq_true rfl, Nat.le_of_ble_eq_true rfl⟩ rfl (Nat.le_of_ble_eq_true rfl) dX3_open_1 ⟨Nat.le_of_ble_eq_true rfl, Nat.le_of_ble_eq_true rfl⟩ (fun v M1 H locs hq w => ?_)
  obtain ⟨rfl, hM1⟩ := hq
  rw [hM1] at w
  clear hM1 M1
  refine W.eq (g2 := F0 m 4 ls [.int (bI (inP t1 12))]) rfl ?_
  refine lv_if_ne (tgt := 10) hx hb dX3_open_4 (by decide) (fun c_4 => ?_) (fun c_4 => ?_)
  · skip
    have n_4 : (inP t1 12) = true := bI_t c_4
    obtain ⟨t, ht, et⟩ := inP_t (by decide) n_4
    obtain ⟨tk, na, ta, hq0, -, -⟩ := hC.1.tray hI ht
    have hm : sp_open S t1 i1 n1 = sp_move S (nI t) i1 (nI t) (i1 + n1) (nI (zT S t) - i1 - n1) := by unfold sp_open; rw [if_neg (by simp [n_4]), et, cN_nI (by omega)]
    refine lv_aload_n hx hb dX3_open_10 rfl (lv_at hl 0 rfl) ?_
    refine lv_iload_n hx hb dX3_open_11 rfl (lv_at hl 1 rfl) ?_
    refine m_topi (y := nI t) et ?_
    refine lv_iload_n hx hb dX3_open_12 rfl (lv_at hl 2 rfl) ?_
    refine lv_iload_n hx hb dX3_open_13 rfl (lv_at hl 1 rfl) ?_
    refine m_topi (y := nI t) et ?_
    refine lv_iload_n hx hb dX3_open_14 rfl (lv_at hl 2 rfl) ?_
    refine lv_iload_n hx hb dX3_open_15 rfl (lv_at hl 3 rfl) ?_
    refine lv_iadd hx hb dX3_open_16 ?_
    refine lv_aload_n hx hb dX3_open_17 rfl (lv_at hl 0 rfl) ?_
    refine m_get C w hC.1.1 (index := 18) (T := TX3) (N := 7) rfl hi_X3 1 (by decide) (by decide +kernel) rfl dX3_open_18 ?_
    refine lv_iload_n hx hb dX3_open_21 rfl (lv_at hl 1 rfl) ?_
    refine m_topi (y := nI t) et ?_
    refine m_hald C w hC.1.2.2.1 t rfl (by omega) (by omega) dX3_open_22 ?_
    refine m_getN C w hq0 (index := 89) (host := "BeadBench") (T := TX0) (N := 5) rfl hi_X0 1 (by decide) (by decide +kernel) rfl dX3_open_23 ?_
    refine lv_iload_n hx hb dX3_open_26 rfl (lv_at hl 2 rfl) ?_
    refine lv_isub hx hb dX3_open_27 ?_
    refine lv_iload_n hx hb dX3_open_28 rfl (lv_at hl 3 rfl) ?_
    refine lv_isub hx hb dX3_open_29 ?_
    refine m_callV C w hl.1 (As := [.int (nI t), .int i1, .int (nI t), .int (i1 + n1), .int (((nI (zT S t)) - i1) - n1)]) (rest := []) (c_move l D y S0 M F h0 A tr f g S hC c0 hI hR (nI t) i1 (nI t) (i1 + n1) (nI (zT S t) - i1 - n1)) gX3_open_X3_move rfl hC.1.1 (T := TX3) (N := 7) rfl (show (_ = _ ∧ _ ≠ _ ∧ _ ≠ _ ∧ _ = some 5) by decide +kernel) ⟨Nat.le_of_ble_eq_true rfl, Nat.le_of_ble_eq_true rfl⟩ rfl (Nat.le_of_ble_eq_true rfl) dX3_open_30 ⟨Nat.le_of_ble_eq_true rfl, Nat.le_of_ble_eq_true rfl⟩ (fun v M1 H locs hq w => ?_)
    obtain ⟨rfl, hRC⟩ := hq
    refine W.eq (g2 := F0 m 33 ls [.int ((sp_move S (nI t) i1 (nI t) (i1 + n1) (nI (zT S t) - i1 - n1)).1)]) rfl ?_
    exact m_iret C w dX3_open_33 (by omega) (by omega) (⟨by rw [hm], by rw [hm]; exact hRC⟩)
  · skip
    have n_4 : (inP t1 12) = false := bI_f c_4
    refine lv_bipush (v := (-6)) hx hb dX3_open_7 (by decide) ?_
    exact m_iret C w dX3_open_9 (by omega) (by omega) (⟨by rw [(show sp_open S t1 i1 n1 = (-6, S) by unfold sp_open; rw [if_pos (by first | simp [n_4])])], by rw [(show sp_open S t1 i1 n1 = (-6, S) by unfold sp_open; rw [if_pos (by first | simp [n_4])])]; exact ⟨A, tr, f, g, hC, hR⟩⟩)
set_option maxRecDepth 100000 in
set_option maxHeartbeats 4000000 in
theorem c_close (l : Launch) (D : va_G) (y : mY) (S0 : Nat) (M F : mp) (h0 : Nat) (A : Ad) (tr : Nat → Nat) (f : Nat → Nat → Int64) (g : Nat → Nat → Option Nat) (S : St) (hC : CW y h0 A tr f g S M) (c0 : Nat) (hI : Inv c0 S) (hR : CR A f g S) (t1 i1 n1 : Int32) : ct l yX3_close wsX3_close 4 94 0 0 D y S0 M F [.ref h0, .int t1, .int i1, .int n1] (fun v M' => v = some (.int (sp_close S t1 i1 n1).1) ∧ RC y h0 (sp_close S t1 i1 n1).2 M') := by
  refine ct_of cX3_close 4 (some .int) [(0, .ref h0), (1, .int t1), (2, .int i1), (3, .int n1)] (by decide +kernel) rfl (Nat.le_of_ble_eq_true rfl) rfl ?_
  intro p e s m below meth c ls C hnm hl w
  have hx := C.1
  have hb := C.2.1
  have hi_X0 : ∀ w ∈ u_ws RX0 TX0 5, w ∈ wsX3_close := by decide +kernel
  have hi_X3 : ∀ w ∈ u_ws RX3 TX3 7, w ∈ wsX3_close := by decide +kernel
  refine lv_iload_n hx hb dX3_close_0 rfl (lv_at hl 1 rfl) ?_
  refine m_callS C w hl.1 (As := [.int t1]) (rest := []) (c_isTray l D y S0 M F t1) ggX3_close_X3_isTray rfl (by decide +kernel) (by decide +kernel) (by decide +kernel) (show (_ ≠ _ ∧ _ ≠ _ ∧ _ = some 1) by decide +kernel) ⟨Nat.le_of_ble_eq_true rfl, Nat.le_of_ble_eq_true rfl⟩ rfl (Nat.le_of_ble_eq_true rfl) dX3_close_1 ⟨Nat.le_of_ble_eq_true rfl, Nat.le_of_ble_eq_true rfl⟩ (fun v M1 H locs hq w => ?_)
  obtain ⟨rfl, hM1⟩ := hq
  rw [hM1] at w
  clear hM1 M1
  refine W.eq (g2 := F0 m 4 ls [.int (bI (inP t1 12))]) rfl ?_
  refine lv_if_ne (tgt := 10) hx hb dX3_close_4 (by decide) (fun c_4 => ?_) (fun c_4 => ?_)
  · skip
    have n_4 : (inP t1 12) = true := bI_t c_4
    obtain ⟨t, ht, et⟩ := inP_t (by decide) n_4
    obtain ⟨tk, na, ta, hq0, -, -⟩ := hC.1.tray hI ht
    have hm : sp_close S t1 i1 n1 = sp_move S (nI t) (i1 + n1) (nI t) i1 (nI (zT S t) - i1 - n1) := by unfold sp_close; rw [if_neg (by simp [n_4]), et, cN_nI (by omega)]
    refine lv_aload_n hx hb dX3_close_10 rfl (lv_at hl 0 rfl) ?_
    refine lv_iload_n hx hb dX3_close_11 rfl (lv_at hl 1 rfl) ?_
    refine m_topi (y := nI t) et ?_
    refine lv_iload_n hx hb dX3_close_12 rfl (lv_at hl 2 rfl) ?_
    refine lv_iload_n hx hb dX3_close_13 rfl (lv_at hl 3 rfl) ?_
    refine lv_iadd hx hb dX3_close_14 ?_
    refine lv_iload_n hx hb dX3_close_15 rfl (lv_at hl 1 rfl) ?_
    refine m_topi (y := nI t) et ?_
    refine lv_iload_n hx hb dX3_close_16 rfl (lv_at hl 2 rfl) ?_
    refine lv_aload_n hx hb dX3_close_17 rfl (lv_at hl 0 rfl) ?_
    refine m_get C w hC.1.1 (index := 18) (T := TX3) (N := 7) rfl hi_X3 1 (by decide) (by decide +kernel) rfl dX3_close_18 ?_
    refine lv_iload_n hx hb dX3_close_21 rfl (lv_at hl 1 rfl) ?_
    refine m_topi (y := nI t) et ?_
    refine m_hald C w hC.1.2.2.1 t rfl (by omega) (by omega) dX3_close_22 ?_
    refine m_getN C w hq0 (index := 89) (host := "BeadBench") (T := TX0) (N := 5) rfl hi_X0 1 (by decide) (by decide +kernel) rfl dX3_close_23 ?_
    refine lv_iload_n hx hb dX3_close_26 rfl (lv_at hl 2 rfl) ?_
    refine lv_isub hx hb dX3_close_27 ?_
    refine lv_iload_n hx hb dX3_close_28 rfl (lv_at hl 3 rfl) ?_
    refine lv_isub hx hb dX3_close_29 ?_
    refine m_callV C w hl.1 (As := [.int (nI t), .int (i1 + n1), .int (nI t), .int i1, .int (((nI (zT S t)) - i1) - n1)]) (rest := []) (c_move l D y S0 M F h0 A tr f g S hC c0 hI hR (nI t) (i1 + n1) (nI t) i1 (nI (zT S t) - i1 - n1)) gX3_close_X3_move rfl hC.1.1 (T := TX3) (N := 7) rfl (show (_ = _ ∧ _ ≠ _ ∧ _ ≠ _ ∧ _ = some 5) by decide +kernel) ⟨Nat.le_of_ble_eq_true rfl, Nat.le_of_ble_eq_true rfl⟩ rfl (Nat.le_of_ble_eq_true rfl) dX3_close_30 ⟨Nat.le_of_ble_eq_true rfl, Nat.le_of_ble_eq_true rfl⟩ (fun v M1 H locs hq w => ?_)
    obtain ⟨rfl, hRC⟩ := hq
    refine W.eq (g2 := F0 m 33 ls [.int ((sp_move S (nI t) (i1 + n1) (nI t) i1 (nI (zT S t) - i1 - n1)).1)]) rfl ?_
    exact m_iret C w dX3_close_33 (by omega) (by omega) (⟨by rw [hm], by rw [hm]; exact hRC⟩)
  · skip
    have n_4 : (inP t1 12) = false := bI_f c_4
    refine lv_bipush (v := (-6)) hx hb dX3_close_7 (by decide) ?_
    exact m_iret C w dX3_close_9 (by omega) (by omega) (⟨by rw [(show sp_close S t1 i1 n1 = (-6, S) by unfold sp_close; rw [if_pos (by first | simp [n_4])])], by rw [(show sp_close S t1 i1 n1 = (-6, S) by unfold sp_close; rw [if_pos (by first | simp [n_4])])]; exact ⟨A, tr, f, g, hC, hR⟩⟩)
set_option maxRecDepth 100000 in
set_option maxHeartbeats 4000000 in
theorem c_turn (l : Launch) (D : va_G) (y : mY) (S0 : Nat) (M F : mp) (h0 : Nat) (A : Ad) (tr : Nat → Nat) (f : Nat → Nat → Int64) (g : Nat → Nat → Option Nat) (S : St) (hC : CW y h0 A tr f g S M) (c0 : Nat) (hI : Inv c0 S) (hR : CR A f g S) (t1 k1 : Int32) : ct l yX3_turn wsX3_turn 2 45 0 0 D y S0 M F [.ref h0, .int t1, .int k1] (fun v M' => v = some (.int (sp_turn S t1 k1).1) ∧ RC y h0 (sp_turn S t1 k1).2 M') := by
  refine ct_of cX3_turn 8 (some .int) [(0, .ref h0), (1, .int t1), (2, .int k1)] (by decide +kernel) rfl (Nat.le_of_ble_eq_true rfl) rfl ?_
  intro p e s m below meth c ls C hnm hl w
  have hx := C.1
  have hb := C.2.1
  have hi_X0 : ∀ w ∈ u_ws RX0 TX0 5, w ∈ wsX3_turn := by decide +kernel
  have hi_X3 : ∀ w ∈ u_ws RX3 TX3 7, w ∈ wsX3_turn := by decide +kernel
  refine lv_iload_n hx hb dX3_turn_0 rfl (lv_at hl 1 rfl) ?_
  refine m_callS C w hl.1 (As := [.int t1]) (rest := []) (c_isTray l D y S0 M F t1) ggX3_turn_X3_isTray rfl (by decide +kernel) (by decide +kernel) (by decide +kernel) (show (_ ≠ _ ∧ _ ≠ _ ∧ _ = some 1) by decide +kernel) ⟨Nat.le_of_ble_eq_true rfl, Nat.le_of_ble_eq_true rfl⟩ rfl (Nat.le_of_ble_eq_true rfl) dX3_turn_1 ⟨Nat.le_of_ble_eq_true rfl, Nat.le_of_ble_eq_true rfl⟩ (fun v M1 H locs hq w => ?_)
  obtain ⟨rfl, hM1⟩ := hq
  rw [hM1] at w
  clear hM1 M1
  refine W.eq (g2 := F0 m 4 ls [.int (bI (inP t1 12))]) rfl ?_
  refine lv_if_ne (tgt := 10) hx hb dX3_turn_4 (by decide) (fun c_4 => ?_) (fun c_4 => ?_)
  · skip
    have n_4 : (inP t1 12) = true := bI_t c_4
    obtain ⟨t, ht, et⟩ := inP_t (by decide) n_4
    have hm0 : sp_turn S t1 k1 = turn1 S t k1 := by unfold sp_turn; rw [if_neg (by simp [n_4]), et, cN_nI (by omega)]
    refine lv_aload_n hx hb dX3_turn_10 rfl (lv_at hl 0 rfl) ?_
    refine m_get C w hC.1.1 (index := 18) (T := TX3) (N := 7) rfl hi_X3 1 (by decide) (by decide +kernel) rfl dX3_turn_11 ?_
    refine lv_iload_n hx hb dX3_turn_14 rfl (lv_at hl 1 rfl) ?_
    refine m_topi (y := nI t) et ?_
    refine m_hald C w hC.1.2.2.1 t rfl (by omega) (by omega) dX3_turn_15 ?_
    refine lv_astore_n (lv' := [(3, .ref (tr t)), (0, .ref h0), (1, .int t1), (2, .int k1)]) hx hb dX3_turn_16 rfl hl (by decide) rfl (fun ls hl => ?_)
    refine lv_aload_n hx hb dX3_turn_17 rfl (lv_at hl 1 rfl) ?_
    refine lv_aload_n hx hb dX3_turn_18 rfl (lv_at hl 0 rfl) ?_
    refine m_callV C w hl.1 (As := [.ref (tr t)]) (rest := []) (c_keep l D y S0 M F h0 A tr f g S hC c0 hI hR t ht) gX3_turn_X3_keep rfl hC.1.1 (T := TX3) (N := 7) rfl (show (_ = _ ∧ _ ≠ _ ∧ _ ≠ _ ∧ _ = some 1) by decide +kernel) ⟨Nat.le_of_ble_eq_true rfl, Nat.le_of_ble_eq_true rfl⟩ rfl (Nat.le_of_ble_eq_true rfl) dX3_turn_19 ⟨Nat.le_of_ble_eq_true rfl, Nat.le_of_ble_eq_true rfl⟩ (fun v M1 H locs hq w => ?_)
    obtain ⟨rfl, f1, g1, hC1, hR1⟩ := hq
    have hI1 := inv_kep hI ht
    refine W.eq (g2 := F0 m 22 ls []) rfl ?_
    have hz := zT_le hI ht
    have hk : sH S t < 14 := by have := (hI.2.2.2.2.2.2.1 t ht).1; omega
    by_cases h2 : 2 ≤ sH S t
    · skip
      rw [kep_row h2] at hC1 hR1 hI1
      obtain ⟨tk, na, ta, hq1, -, hrow⟩ := hC1.1.tray hI1 ht
      have hq1 : M1 (tr t) = some (eO 0 (hF (sH S t) (zT S t) tk na ta)) := hq1
      obtain ⟨hr, -, ekd, etr, -, -⟩ := hrow h2
      have hr : rowT S t < sN S := hr
      have ekd : sK S (rowT S t) = sH S t := ekd
      have etr : tr t = xr A (rowT S t) := etr
      have hzT : zT S t = sZ S (rowT S t) := by unfold zT; rw [if_pos h2]
      refine lv_aload_n hx hb dX3_turn_22 rfl (lv_at hl 0 rfl) ?_
      refine m_callV C w hl.1 (As := []) (rest := []) (c_Hold_refusal l D y S0 M1 F (tr t) (sH S t) (zT S t) tk na ta hq1 hk hz) gX3_turn_X0_refusal rfl hq1 (T := TX0) (N := 5) rfl (show (_ = _ ∧ _ ≠ _ ∧ _ ≠ _ ∧ _ = some 0) by decide +kernel) ⟨Nat.le_of_ble_eq_true rfl, Nat.le_of_ble_eq_true rfl⟩ rfl (Nat.le_of_ble_eq_true rfl) dX3_turn_23 ⟨Nat.le_of_ble_eq_true rfl, Nat.le_of_ble_eq_true rfl⟩ (fun v M1 H locs hq w => ?_)
      obtain ⟨rfl, hM1⟩ := hq
      rw [hM1] at w
      clear hM1 M1
      refine W.eq (g2 := F0 m 26 ls [.int (fR (sH S t))]) rfl ?_
      refine lv_istore (lv' := [(4, .int (fR (sH S t))), (3, .ref (tr t)), (0, .ref h0), (1, .int t1), (2, .int k1)]) hx hb dX3_turn_26 hl (by decide) rfl (fun ls hl => ?_)
      refine lv_iload hx hb dX3_turn_28 (lv_at hl 0 rfl) ?_
      refine lv_if_eq (tgt := 40) hx hb dX3_turn_30 (by decide) (fun c_30 => ?_) (fun c_30 => ?_)
      · skip
        refine lv_aload_n hx hb dX3_turn_40 rfl (lv_at hl 1 rfl) ?_
        refine m_getN C w hq1 (index := 89) (host := "BeadBench") (T := TX0) (N := 5) rfl hi_X0 1 (by decide) (by decide +kernel) rfl dX3_turn_41 ?_
        refine lv_istore (lv' := [(5, .int (nI (zT S t))), (4, .int (fR (sH S t))), (3, .ref (tr t)), (0, .ref h0), (1, .int t1), (2, .int k1)]) hx hb dX3_turn_44 hl (by decide) rfl (fun ls hl => ?_)
        refine lv_iload hx hb dX3_turn_46 (lv_at hl 0 rfl) ?_
        refine lv_if_le (tgt := 60) hx hb dX3_turn_48 (by decide) (fun c_48 => ?_) (fun c_48 => ?_)
        · skip
          have n_48 : (zT S t) ≤ 0 := (nI_leI (by omega) (by omega)).mp c_48
          refine lv_iconst (v := 0) hx hb dX3_turn_60 (by decide) ?_
          refine lv_istore (lv' := [(6, .int 0), (5, .int (nI (zT S t))), (4, .int (fR (sH S t))), (3, .ref (tr t)), (0, .ref h0), (1, .int t1), (2, .int k1)]) hx hb dX3_turn_61 hl (by decide) rfl (fun ls hl => ?_)
          refine lv_iconst (v := 0) hx hb dX3_turn_63 (by decide) ?_
          refine lv_istore (lv' := [(7, .int 0), (6, .int 0), (5, .int (nI (zT S t))), (4, .int (fR (sH S t))), (3, .ref (tr t)), (0, .ref h0), (1, .int t1), (2, .int k1)]) hx hb dX3_turn_64 hl (by decide) rfl (fun ls hl => ?_)
          have lp : ∀ (kf : Nat) (i : Nat) (f2 : Nat → Nat → Int64) (g2 : Nat → Nat → Option Nat) (M2 : mp), (i ≤ zT S t) → (CW y h0 A tr f2 g2 (wBf S (some (rowT S t)) (sC S (rowT S t))) M2) → (∀ j, j ≠ rowT S t + 1 → f2 j = f1 j ∧ g2 j = g1 j) → (∀ x, x < i → f2 (rowT S t + 1) x = f1 0 ((0 + x) % zT S t) ∧ g2 (rowT S t + 1) x = g1 0 ((0 + x) % zT S t)) →  ∀ (H : Heap) (locs : List Loc) (ls : Array Slot), zT S t - i = kf → mS D S0 M2 F s H locs → lv_has ls 8 [(7, .int (nI i)), (6, .int 0), (5, .int (nI (zT S t))), (3, .ref (tr t)), (0, .ref h0)] → W p l e { frames := 2, cells := 0, slots := 0, locals := 45 } s m ([.ref h0, .int t1, .int k1] : List Value).toArray below meth c H locs 0 0 (MQ below (mQ D S0 F (fun v M' => v = some (.int (sp_turn S t1 k1).1) ∧ RC y h0 (sp_turn S t1 k1).2 M')) ([.ref h0, .int t1, .int k1] : List Value).toArray s 0 0 (fun q => S0 ≤ q)) (F0 m 66 ls []) := by
            clear w hl
            intro kf
            induction kf using Nat.strongRecOn with
            | _ kf ih_lp =>
              intro i f2 g2 M2 hi hC2 hf hd H locs ls hkf w hl
              have hq2 : M2 (tr t) = some (eO 0 (hF (sH S t) (zT S t) 0 (xn A (rowT S t + 1)) (xt A (rowT S t + 1)))) := by rw [etr, hzT, ← ekd]; exact hC2.1.2.2.2.2.2.1 (rowT S t) hr
              have hn2 : M2 (xn A (rowT S t + 1)) = some (eL y (zT S t) (f2 (rowT S t + 1))) := by rw [hzT]; exact hC2.2.1.1 (rowT S t + 1) hr
              have ht2 : M2 (xt A (rowT S t + 1)) = some (eT y (zT S t) (g2 (rowT S t + 1))) := by rw [hzT]; exact hC2.2.1.2.1 (rowT S t + 1) hr
              refine lv_iload hx hb dX3_turn_66 (lv_at hl 0 rfl) ?_
              refine lv_iload hx hb dX3_turn_68 (lv_at hl 2 rfl) ?_
              refine lv_icmp_ge (tgt := 97) hx hb dX3_turn_70 (by decide) (fun c_70 => ?_) (fun c_70 => ?_)
              · skip
                have n_70 : (zT S t) ≤ i := (nI_leI (by omega) (by omega)).mp c_70
                refine lv_aload_n hx hb dX3_turn_97 rfl (lv_at hl 4 rfl) ?_
                refine lv_iload hx hb dX3_turn_98 (lv_at hl 2 rfl) ?_
                refine m_callV C w hl.1 (As := [.int (nI (zT S t))]) (rest := []) (c_counted l D y S0 M2 F h0 A tr f2 g2 (wRC (wBf S (some (rowT S t)) (sC S (rowT S t))) (va_up (sC S) (rowT S t) (fun i => sC S (rowT S t) (tiK k1 (zT S t) i)))) (hC2.rc _) (nI (zT S t)) (nI_ok (by omega))) gX3_turn_X3_counted rfl hC2.1.1 (T := TX3) (N := 7) rfl (show (_ = _ ∧ _ ≠ _ ∧ _ ≠ _ ∧ _ = some 1) by decide +kernel) ⟨Nat.le_of_ble_eq_true rfl, Nat.le_of_ble_eq_true rfl⟩ rfl (Nat.le_of_ble_eq_true rfl) dX3_turn_100 ⟨Nat.le_of_ble_eq_true rfl, Nat.le_of_ble_eq_true rfl⟩ (fun v M1 H locs hq w => ?_)
                obtain ⟨rfl, hC9⟩ := hq
                refine W.eq (g2 := F0 m 103 ls [.int (nI (zT S t))]) rfl ?_
                exact m_iret C w dX3_turn_103 (by omega) (by omega) (⟨by rw [hm0]; unfold turn1; rw [if_neg (by omega)], by
                  rw [hm0]
                  unfold turn1
                  rw [if_neg (by omega), kep_row h2]
                  exact ⟨A, tr, f2, g2, hC9, ⟨fun r x hr2 hx => by
                    have hx : x < sZ S r := hx
                    show f2 (r + 1) x = nu (sK S r) ((va_up (sC S) (rowT S t) (fun i => sC S (rowT S t) (tiK k1 (zT S t) i))) r x) ∧ g2 (r + 1) x = th A (sK S r) ((va_up (sC S) (rowT S t) (fun i => sC S (rowT S t) (tiK k1 (zT S t) i))) r x)
                    by_cases e : r = rowT S t
                    · subst e
                      rw [show (va_up (sC S) (rowT S t) (fun i => sC S (rowT S t) (tiK k1 (zT S t) i))) (rowT S t) x = sC S (rowT S t) (tiK k1 (zT S t) x) by simp [va_up]]
                      exact absurd hx (by omega)
                    · rw [show (va_up (sC S) (rowT S t) (fun i => sC S (rowT S t) (tiK k1 (zT S t) i))) r = sC S r by simp [va_up, e], (hf _ (fun h => e (Nat.succ.inj h))).1, (hf _ (fun h => e (Nat.succ.inj h))).2]
                      exact hR1.1 r x hr2 hx, fun r x hr2 hx => by
                    rw [(hf 0 (Ne.symm (Nat.succ_ne_zero _))).1, (hf 0 (Ne.symm (Nat.succ_ne_zero _))).2]
                    exact hR1.2 r x hr2 hx⟩⟩⟩)
              · skip
                have n_70 : ¬ (zT S t) ≤ i := fun h => absurd ((nI_leI (by omega) (by omega)).mpr h) c_70
                refine lv_aload_n hx hb dX3_turn_73 rfl (lv_at hl 3 rfl) ?_
                refine lv_iload hx hb dX3_turn_74 (lv_at hl 0 rfl) ?_
                refine lv_aload_n hx hb dX3_turn_76 rfl (lv_at hl 4 rfl) ?_
                refine m_get C w hC2.1.1 (index := 22) (T := TX3) (N := 7) rfl hi_X3 2 (by decide) (by decide +kernel) rfl dX3_turn_77 ?_
                refine lv_iload hx hb dX3_turn_80 (lv_at hl 1 rfl) ?_
                refine lv_iload hx hb dX3_turn_82 (lv_at hl 0 rfl) ?_
                refine lv_iadd hx hb dX3_turn_84 ?_
                refine m_topi (y := nI (0 + i)) (by first | exact nI_add _ _ | exact nI_1 _) ?_
                refine lv_iload hx hb dX3_turn_85 (lv_at hl 2 rfl) ?_
                refine lv_irem hx hb dX3_turn_87 (nI_ne0 (by omega) (by omega)) ?_
                refine m_topi (y := nI ((0 + i) % zT S t)) (pk_rem (by omega) (by omega) (by omega)) ?_
                have hml := Nat.mod_lt (0 + i) (show 0 < zT S t by omega)
                refine m_callV C w hl.1 (As := [.int (nI i), .ref (xB A), .int (nI ((0 + i) % zT S t))]) (rest := []) (c_Hold_copy l D y S0 M2 F (tr t) (sH S t) (zT S t) 0 (xn A (rowT S t + 1)) (xt A (rowT S t + 1)) hq2 (xB A) 0 64 0 (xn A 0) (xt A 0) hC2.1.2.2.2.1 (f2 (rowT S t + 1)) (f2 0) (g2 (rowT S t + 1)) (g2 0) hn2 ht2 (hC2.2.1.1 0 (Nat.zero_le _)) (hC2.2.1.2.1 0 (Nat.zero_le _)) i ((0 + i) % zT S t) (by omega) (by omega) (by omega) (by omega) (fun z hz => hC2.1.th (hC2.2.1.2.2 0 ((0 + i) % zT S t) z (Nat.zero_le _) (by rw [zz_0]; omega) hz))) gX3_turn_X0_copyPlace rfl hq2 (T := TX0) (N := 5) rfl (show (_ = _ ∧ _ ≠ _ ∧ _ ≠ _ ∧ _ = some 3) by decide +kernel) ⟨Nat.le_of_ble_eq_true rfl, Nat.le_of_ble_eq_true rfl⟩ rfl (Nat.le_of_ble_eq_true rfl) dX3_turn_88 ⟨Nat.le_of_ble_eq_true rfl, Nat.le_of_ble_eq_true rfl⟩ (fun v M1 H locs hq w => ?_)
                obtain ⟨rfl, hM1⟩ := hq
                have hC3 := hC2.copy (a := rowT S t + 1) (b := 0) (i := i) (j := (0 + i) % zT S t) hr (Nat.zero_le _) (by rw [zz_s]; show i < sZ S (rowT S t); omega) (by rw [zz_0]; omega)
                rw [show zz (wBf S (some (rowT S t)) (sC S (rowT S t))) (rowT S t + 1) = zT S t from (zz_s _ _).trans hzT.symm, ← hM1] at hC3
                refine W.eq (g2 := F0 m 91 ls []) rfl ?_
                refine lv_iinc (v := nI (i + 1)) (lv' := [(7, .int (nI (i + 1))), (6, .int 0), (5, .int (nI (zT S t))), (3, .ref (tr t)), (0, .ref h0)]) hx hb dX3_turn_91 hl (k := 0) rfl (by first | exact nI_1 _ | exact nI_add _ _ | rfl) (by decide) rfl (fun ls hl => ?_)
                refine lv_goto (tgt := 66) hx hb dX3_turn_94 (by decide) ?_
                exact ih_lp (zT S t - (i + 1)) (by omega) (i + 1) _ _ M1 (by omega) hC3 (fun j hj => ⟨(up2_r hj).trans (hf j hj).1, (up2_r hj).trans (hf j hj).2⟩) (fun x hx => by
                    by_cases e : x = i
                    · rw [e, up2_s, up2_s, (hf 0 (Ne.symm (Nat.succ_ne_zero _))).1, (hf 0 (Ne.symm (Nat.succ_ne_zero _))).2]; exact ⟨rfl, rfl⟩
                    · rw [up2_o (Or.inr e), up2_o (Or.inr e)]; exact hd x (by omega)) _ _ ls rfl w (lv_sub hl [0, 1, 2, 3, 4] rfl)
          exact lp _ 0 f1 g1 M1 (by omega) hC1 (fun _ _ => ⟨rfl, rfl⟩) (fun x hx => by omega) _ _ ls rfl w (lv_sub hl [0, 1, 2, 4, 5] rfl)
        · skip
          have n_48 : ¬ (zT S t) ≤ 0 := fun h => absurd ((nI_leI (by omega) (by omega)).mpr h) c_48
          refine lv_iload_n hx hb dX3_turn_51 rfl (lv_at hl 5 rfl) ?_
          refine lv_iload hx hb dX3_turn_52 (lv_at hl 0 rfl) ?_
          have hfm := fmd_lt k1 (show 0 < zT S t by omega)
          refine m_callS C w hl.1 (As := [.int k1, .int (nI (zT S t))]) (rest := []) (c_floorMod l D y S0 M1 F k1 (zT S t) (by omega) (by omega)) ggX3_turn_J9_floorMod_7cf53 rfl (by decide +kernel) (by decide +kernel) (by decide +kernel) (show (_ ≠ _ ∧ _ ≠ _ ∧ _ = some 2) by decide +kernel) ⟨Nat.le_of_ble_eq_true rfl, Nat.le_of_ble_eq_true rfl⟩ rfl (Nat.le_of_ble_eq_true rfl) dX3_turn_54 ⟨Nat.le_of_ble_eq_true rfl, Nat.le_of_ble_eq_true rfl⟩ (fun v M1 H locs hq w => ?_)
          obtain ⟨rfl, hM1⟩ := hq
          rw [hM1] at w
          clear hM1 M1
          refine W.eq (g2 := F0 m 57 ls [.int (nI (fmd k1 (zT S t)))]) rfl ?_
          refine lv_goto (tgt := 61) hx hb dX3_turn_57 (by decide) ?_
          refine lv_istore (lv' := [(6, .int (nI (fmd k1 (zT S t)))), (5, .int (nI (zT S t))), (4, .int (fR (sH S t))), (3, .ref (tr t)), (0, .ref h0), (1, .int t1), (2, .int k1)]) hx hb dX3_turn_61 hl (by decide) rfl (fun ls hl => ?_)
          refine lv_iconst (v := 0) hx hb dX3_turn_63 (by decide) ?_
          refine lv_istore (lv' := [(7, .int 0), (6, .int (nI (fmd k1 (zT S t)))), (5, .int (nI (zT S t))), (4, .int (fR (sH S t))), (3, .ref (tr t)), (0, .ref h0), (1, .int t1), (2, .int k1)]) hx hb dX3_turn_64 hl (by decide) rfl (fun ls hl => ?_)
          have lp : ∀ (kf : Nat) (i : Nat) (f2 : Nat → Nat → Int64) (g2 : Nat → Nat → Option Nat) (M2 : mp), (i ≤ zT S t) → (CW y h0 A tr f2 g2 (wBf S (some (rowT S t)) (sC S (rowT S t))) M2) → (∀ j, j ≠ rowT S t + 1 → f2 j = f1 j ∧ g2 j = g1 j) → (∀ x, x < i → f2 (rowT S t + 1) x = f1 0 (((fmd k1 (zT S t)) + x) % zT S t) ∧ g2 (rowT S t + 1) x = g1 0 (((fmd k1 (zT S t)) + x) % zT S t)) →  ∀ (H : Heap) (locs : List Loc) (ls : Array Slot), zT S t - i = kf → mS D S0 M2 F s H locs → lv_has ls 8 [(7, .int (nI i)), (6, .int (nI (fmd k1 (zT S t)))), (5, .int (nI (zT S t))), (3, .ref (tr t)), (0, .ref h0)] → W p l e { frames := 2, cells := 0, slots := 0, locals := 45 } s m ([.ref h0, .int t1, .int k1] : List Value).toArray below meth c H locs 0 0 (MQ below (mQ D S0 F (fun v M' => v = some (.int (sp_turn S t1 k1).1) ∧ RC y h0 (sp_turn S t1 k1).2 M')) ([.ref h0, .int t1, .int k1] : List Value).toArray s 0 0 (fun q => S0 ≤ q)) (F0 m 66 ls []) := by
            clear w hl
            intro kf
            induction kf using Nat.strongRecOn with
            | _ kf ih_lp =>
              intro i f2 g2 M2 hi hC2 hf hd H locs ls hkf w hl
              have hq2 : M2 (tr t) = some (eO 0 (hF (sH S t) (zT S t) 0 (xn A (rowT S t + 1)) (xt A (rowT S t + 1)))) := by rw [etr, hzT, ← ekd]; exact hC2.1.2.2.2.2.2.1 (rowT S t) hr
              have hn2 : M2 (xn A (rowT S t + 1)) = some (eL y (zT S t) (f2 (rowT S t + 1))) := by rw [hzT]; exact hC2.2.1.1 (rowT S t + 1) hr
              have ht2 : M2 (xt A (rowT S t + 1)) = some (eT y (zT S t) (g2 (rowT S t + 1))) := by rw [hzT]; exact hC2.2.1.2.1 (rowT S t + 1) hr
              refine lv_iload hx hb dX3_turn_66 (lv_at hl 0 rfl) ?_
              refine lv_iload hx hb dX3_turn_68 (lv_at hl 2 rfl) ?_
              refine lv_icmp_ge (tgt := 97) hx hb dX3_turn_70 (by decide) (fun c_70 => ?_) (fun c_70 => ?_)
              · skip
                have n_70 : (zT S t) ≤ i := (nI_leI (by omega) (by omega)).mp c_70
                refine lv_aload_n hx hb dX3_turn_97 rfl (lv_at hl 4 rfl) ?_
                refine lv_iload hx hb dX3_turn_98 (lv_at hl 2 rfl) ?_
                refine m_callV C w hl.1 (As := [.int (nI (zT S t))]) (rest := []) (c_counted l D y S0 M2 F h0 A tr f2 g2 (wRC (wBf S (some (rowT S t)) (sC S (rowT S t))) (va_up (sC S) (rowT S t) (fun i => sC S (rowT S t) (tiK k1 (zT S t) i)))) (hC2.rc _) (nI (zT S t)) (nI_ok (by omega))) gX3_turn_X3_counted rfl hC2.1.1 (T := TX3) (N := 7) rfl (show (_ = _ ∧ _ ≠ _ ∧ _ ≠ _ ∧ _ = some 1) by decide +kernel) ⟨Nat.le_of_ble_eq_true rfl, Nat.le_of_ble_eq_true rfl⟩ rfl (Nat.le_of_ble_eq_true rfl) dX3_turn_100 ⟨Nat.le_of_ble_eq_true rfl, Nat.le_of_ble_eq_true rfl⟩ (fun v M1 H locs hq w => ?_)
                obtain ⟨rfl, hC9⟩ := hq
                refine W.eq (g2 := F0 m 103 ls [.int (nI (zT S t))]) rfl ?_
                exact m_iret C w dX3_turn_103 (by omega) (by omega) (⟨by rw [hm0]; unfold turn1; rw [if_neg (by omega)], by
                  rw [hm0]
                  unfold turn1
                  rw [if_neg (by omega), kep_row h2]
                  exact ⟨A, tr, f2, g2, hC9, ⟨fun r x hr2 hx => by
                    have hx : x < sZ S r := hx
                    show f2 (r + 1) x = nu (sK S r) ((va_up (sC S) (rowT S t) (fun i => sC S (rowT S t) (tiK k1 (zT S t) i))) r x) ∧ g2 (r + 1) x = th A (sK S r) ((va_up (sC S) (rowT S t) (fun i => sC S (rowT S t) (tiK k1 (zT S t) i))) r x)
                    by_cases e : r = rowT S t
                    · subst e
                      rw [show (va_up (sC S) (rowT S t) (fun i => sC S (rowT S t) (tiK k1 (zT S t) i))) (rowT S t) x = sC S (rowT S t) (tiK k1 (zT S t) x) by simp [va_up]]
                      have hxz : x < zT S t := by omega
                      have hxm := Nat.mod_lt (fmd k1 (zT S t) + x) (show 0 < zT S t by omega)
                      rw [tiK_eq k1 (by omega), (hd x (by omega)).1, (hd x (by omega)).2]
                      exact hR1.2 (rowT S t) _ rfl (show _ < sZ S (rowT S t) by omega)
                    · rw [show (va_up (sC S) (rowT S t) (fun i => sC S (rowT S t) (tiK k1 (zT S t) i))) r = sC S r by simp [va_up, e], (hf _ (fun h => e (Nat.succ.inj h))).1, (hf _ (fun h => e (Nat.succ.inj h))).2]
                      exact hR1.1 r x hr2 hx, fun r x hr2 hx => by
                    rw [(hf 0 (Ne.symm (Nat.succ_ne_zero _))).1, (hf 0 (Ne.symm (Nat.succ_ne_zero _))).2]
                    exact hR1.2 r x hr2 hx⟩⟩⟩)
              · skip
                have n_70 : ¬ (zT S t) ≤ i := fun h => absurd ((nI_leI (by omega) (by omega)).mpr h) c_70
                refine lv_aload_n hx hb dX3_turn_73 rfl (lv_at hl 3 rfl) ?_
                refine lv_iload hx hb dX3_turn_74 (lv_at hl 0 rfl) ?_
                refine lv_aload_n hx hb dX3_turn_76 rfl (lv_at hl 4 rfl) ?_
                refine m_get C w hC2.1.1 (index := 22) (T := TX3) (N := 7) rfl hi_X3 2 (by decide) (by decide +kernel) rfl dX3_turn_77 ?_
                refine lv_iload hx hb dX3_turn_80 (lv_at hl 1 rfl) ?_
                refine lv_iload hx hb dX3_turn_82 (lv_at hl 0 rfl) ?_
                refine lv_iadd hx hb dX3_turn_84 ?_
                refine m_topi (y := nI ((fmd k1 (zT S t)) + i)) (by first | exact nI_add _ _ | exact nI_1 _) ?_
                refine lv_iload hx hb dX3_turn_85 (lv_at hl 2 rfl) ?_
                refine lv_irem hx hb dX3_turn_87 (nI_ne0 (by omega) (by omega)) ?_
                refine m_topi (y := nI (((fmd k1 (zT S t)) + i) % zT S t)) (pk_rem (by omega) (by omega) (by omega)) ?_
                have hml := Nat.mod_lt ((fmd k1 (zT S t)) + i) (show 0 < zT S t by omega)
                refine m_callV C w hl.1 (As := [.int (nI i), .ref (xB A), .int (nI (((fmd k1 (zT S t)) + i) % zT S t))]) (rest := []) (c_Hold_copy l D y S0 M2 F (tr t) (sH S t) (zT S t) 0 (xn A (rowT S t + 1)) (xt A (rowT S t + 1)) hq2 (xB A) 0 64 0 (xn A 0) (xt A 0) hC2.1.2.2.2.1 (f2 (rowT S t + 1)) (f2 0) (g2 (rowT S t + 1)) (g2 0) hn2 ht2 (hC2.2.1.1 0 (Nat.zero_le _)) (hC2.2.1.2.1 0 (Nat.zero_le _)) i (((fmd k1 (zT S t)) + i) % zT S t) (by omega) (by omega) (by omega) (by omega) (fun z hz => hC2.1.th (hC2.2.1.2.2 0 (((fmd k1 (zT S t)) + i) % zT S t) z (Nat.zero_le _) (by rw [zz_0]; omega) hz))) gX3_turn_X0_copyPlace rfl hq2 (T := TX0) (N := 5) rfl (show (_ = _ ∧ _ ≠ _ ∧ _ ≠ _ ∧ _ = some 3) by decide +kernel) ⟨Nat.le_of_ble_eq_true rfl, Nat.le_of_ble_eq_true rfl⟩ rfl (Nat.le_of_ble_eq_true rfl) dX3_turn_88 ⟨Nat.le_of_ble_eq_true rfl, Nat.le_of_ble_eq_true rfl⟩ (fun v M1 H locs hq w => ?_)
                obtain ⟨rfl, hM1⟩ := hq
                have hC3 := hC2.copy (a := rowT S t + 1) (b := 0) (i := i) (j := ((fmd k1 (zT S t)) + i) % zT S t) hr (Nat.zero_le _) (by rw [zz_s]; show i < sZ S (rowT S t); omega) (by rw [zz_0]; omega)
                rw [show zz (wBf S (some (rowT S t)) (sC S (rowT S t))) (rowT S t + 1) = zT S t from (zz_s _ _).trans hzT.symm, ← hM1] at hC3
                refine W.eq (g2 := F0 m 91 ls []) rfl ?_
                refine lv_iinc (v := nI (i + 1)) (lv' := [(7, .int (nI (i + 1))), (6, .int (nI (fmd k1 (zT S t)))), (5, .int (nI (zT S t))), (3, .ref (tr t)), (0, .ref h0)]) hx hb dX3_turn_91 hl (k := 0) rfl (by first | exact nI_1 _ | exact nI_add _ _ | rfl) (by decide) rfl (fun ls hl => ?_)
                refine lv_goto (tgt := 66) hx hb dX3_turn_94 (by decide) ?_
                exact ih_lp (zT S t - (i + 1)) (by omega) (i + 1) _ _ M1 (by omega) hC3 (fun j hj => ⟨(up2_r hj).trans (hf j hj).1, (up2_r hj).trans (hf j hj).2⟩) (fun x hx => by
                    by_cases e : x = i
                    · rw [e, up2_s, up2_s, (hf 0 (Ne.symm (Nat.succ_ne_zero _))).1, (hf 0 (Ne.symm (Nat.succ_ne_zero _))).2]; exact ⟨rfl, rfl⟩
                    · rw [up2_o (Or.inr e), up2_o (Or.inr e)]; exact hd x (by omega)) _ _ ls rfl w (lv_sub hl [0, 1, 2, 3, 4] rfl)
          exact lp _ 0 f1 g1 M1 (by omega) hC1 (fun _ _ => ⟨rfl, rfl⟩) (fun x hx => by omega) _ _ ls rfl w (lv_sub hl [0, 1, 2, 4, 5] rfl)
      · skip
        exact absurd (fR_0.mpr h2) c_30
    · skip
      rw [kep_no h2] at hC1 hR1 hI1
      obtain ⟨tk, na, ta, hq1, -, hrow⟩ := hC1.1.tray hI1 ht
      have hq1 : M1 (tr t) = some (eO 0 (hF (sH S t) (zT S t) tk na ta)) := hq1
      refine lv_aload_n hx hb dX3_turn_22 rfl (lv_at hl 0 rfl) ?_
      refine m_callV C w hl.1 (As := []) (rest := []) (c_Hold_refusal l D y S0 M1 F (tr t) (sH S t) (zT S t) tk na ta hq1 hk hz) gX3_turn_X0_refusal rfl hq1 (T := TX0) (N := 5) rfl (show (_ = _ ∧ _ ≠ _ ∧ _ ≠ _ ∧ _ = some 0) by decide +kernel) ⟨Nat.le_of_ble_eq_true rfl, Nat.le_of_ble_eq_true rfl⟩ rfl (Nat.le_of_ble_eq_true rfl) dX3_turn_23 ⟨Nat.le_of_ble_eq_true rfl, Nat.le_of_ble_eq_true rfl⟩ (fun v M1 H locs hq w => ?_)
      obtain ⟨rfl, hM1⟩ := hq
      rw [hM1] at w
      clear hM1 M1
      refine W.eq (g2 := F0 m 26 ls [.int (fR (sH S t))]) rfl ?_
      refine lv_istore (lv' := [(4, .int (fR (sH S t))), (3, .ref (tr t)), (0, .ref h0), (1, .int t1), (2, .int k1)]) hx hb dX3_turn_26 hl (by decide) rfl (fun ls hl => ?_)
      refine lv_iload hx hb dX3_turn_28 (lv_at hl 0 rfl) ?_
      refine lv_if_eq (tgt := 40) hx hb dX3_turn_30 (by decide) (fun c_30 => ?_) (fun c_30 => ?_)
      · skip
        exact absurd (fR_0.mp c_30) h2
      · skip
        refine lv_aload_n hx hb dX3_turn_33 rfl (lv_at hl 2 rfl) ?_
        refine lv_iload hx hb dX3_turn_34 (lv_at hl 0 rfl) ?_
        refine m_callV C w hl.1 (As := [.int (fR (sH S t))]) (rest := []) (c_counted l D y S0 M1 F h0 A tr f1 g1 (wBf S none (sF S)) hC1 (fR (sH S t)) fR_ok) gX3_turn_X3_counted rfl hC1.1.1 (T := TX3) (N := 7) rfl (show (_ = _ ∧ _ ≠ _ ∧ _ ≠ _ ∧ _ = some 1) by decide +kernel) ⟨Nat.le_of_ble_eq_true rfl, Nat.le_of_ble_eq_true rfl⟩ rfl (Nat.le_of_ble_eq_true rfl) dX3_turn_36 ⟨Nat.le_of_ble_eq_true rfl, Nat.le_of_ble_eq_true rfl⟩ (fun v M1 H locs hq w => ?_)
        obtain ⟨rfl, hC9⟩ := hq
        refine W.eq (g2 := F0 m 39 ls [.int (fR (sH S t))]) rfl ?_
        exact m_iret C w dX3_turn_39 (by omega) (by omega) (⟨by rw [hm0]; unfold turn1; rw [if_pos (by omega)], by rw [hm0]; unfold turn1; rw [if_pos (by omega), kep_no h2]; exact ⟨A, tr, f1, g1, hC9, hR1⟩⟩)
  · skip
    have n_4 : (inP t1 12) = false := bI_f c_4
    refine lv_bipush (v := (-6)) hx hb dX3_turn_7 (by decide) ?_
    exact m_iret C w dX3_turn_9 (by omega) (by omega) (⟨by rw [(show sp_turn S t1 k1 = (-6, S) by unfold sp_turn; rw [if_pos (by first | simp [n_4])])], by rw [(show sp_turn S t1 k1 = (-6, S) by unfold sp_turn; rw [if_pos (by first | simp [n_4])])]; exact ⟨A, tr, f, g, hC, hR⟩⟩)
end
section
set_option maxRecDepth 100000 in
set_option maxHeartbeats 4000000 in
theorem c_spread (l : Launch) (D : va_G) (y : mY) (S0 : Nat) (M F : mp) (h0 : Nat) (A : Ad) (tr : Nat → Nat) (f : Nat → Nat → Int64) (g : Nat → Nat → Option Nat) (S : St) (hC : CW y h0 A tr f g S M) (c0 : Nat) (hI : Inv c0 S) (hR : CR A f g S) (t1 n1 : Int32) : ct l yX3_spread wsX3_spread 2 45 0 0 D y S0 M F [.ref h0, .int t1, .int n1] (fun v M' => v = some (.int (sp_spread S t1 n1).1) ∧ RC y h0 (sp_spread S t1 n1).2 M') := by
  refine ct_of cX3_spread 6 (some .int) [(0, .ref h0), (1, .int t1), (2, .int n1)] (by decide +kernel) rfl (Nat.le_of_ble_eq_true rfl) rfl ?_
  intro p e s m below meth c ls C hnm hl w
  have hx := C.1
  have hb := C.2.1
  have hi_X0 : ∀ w ∈ u_ws RX0 TX0 5, w ∈ wsX3_spread := by decide +kernel
  have hi_X3 : ∀ w ∈ u_ws RX3 TX3 7, w ∈ wsX3_spread := by decide +kernel
  refine lv_iload_n hx hb dX3_spread_0 rfl (lv_at hl 1 rfl) ?_
  refine m_callS C w hl.1 (As := [.int t1]) (rest := []) (c_isTray l D y S0 M F t1) ggX3_spread_X3_isTray rfl (by decide +kernel) (by decide +kernel) (by decide +kernel) (show (_ ≠ _ ∧ _ ≠ _ ∧ _ = some 1) by decide +kernel) ⟨Nat.le_of_ble_eq_true rfl, Nat.le_of_ble_eq_true rfl⟩ rfl (Nat.le_of_ble_eq_true rfl) dX3_spread_1 ⟨Nat.le_of_ble_eq_true rfl, Nat.le_of_ble_eq_true rfl⟩ (fun v M1 H locs hq w => ?_)
  obtain ⟨rfl, hM1⟩ := hq
  rw [hM1] at w
  clear hM1 M1
  refine W.eq (g2 := F0 m 4 ls [.int (bI (inP t1 12))]) rfl ?_
  refine lv_if_ne (tgt := 10) hx hb dX3_spread_4 (by decide) (fun c_4 => ?_) (fun c_4 => ?_)
  · skip
    have n_4 : (inP t1 12) = true := bI_t c_4
    obtain ⟨t, ht, et⟩ := inP_t (by decide) n_4
    have hm0 : sp_spread S t1 n1 = spr1 S t n1 := by unfold sp_spread; rw [if_neg (by simp [n_4]), et, cN_nI (by omega)]
    refine lv_aload_n hx hb dX3_spread_10 rfl (lv_at hl 0 rfl) ?_
    refine m_get C w hC.1.1 (index := 18) (T := TX3) (N := 7) rfl hi_X3 1 (by decide) (by decide +kernel) rfl dX3_spread_11 ?_
    refine lv_iload_n hx hb dX3_spread_14 rfl (lv_at hl 1 rfl) ?_
    refine m_topi (y := nI t) et ?_
    refine m_hald C w hC.1.2.2.1 t rfl (by omega) (by omega) dX3_spread_15 ?_
    refine lv_astore_n (lv' := [(3, .ref (tr t)), (0, .ref h0), (1, .int t1), (2, .int n1)]) hx hb dX3_spread_16 rfl hl (by decide) rfl (fun ls hl => ?_)
    refine lv_aload_n hx hb dX3_spread_17 rfl (lv_at hl 1 rfl) ?_
    refine lv_aload_n hx hb dX3_spread_18 rfl (lv_at hl 0 rfl) ?_
    refine m_callV C w hl.1 (As := [.ref (tr t)]) (rest := []) (c_keep l D y S0 M F h0 A tr f g S hC c0 hI hR t ht) gX3_spread_X3_keep rfl hC.1.1 (T := TX3) (N := 7) rfl (show (_ = _ ∧ _ ≠ _ ∧ _ ≠ _ ∧ _ = some 1) by decide +kernel) ⟨Nat.le_of_ble_eq_true rfl, Nat.le_of_ble_eq_true rfl⟩ rfl (Nat.le_of_ble_eq_true rfl) dX3_spread_19 ⟨Nat.le_of_ble_eq_true rfl, Nat.le_of_ble_eq_true rfl⟩ (fun v M1 H locs hq w => ?_)
    obtain ⟨rfl, f1, g1, hC1, hR1⟩ := hq
    have hI1 := inv_kep hI ht
    refine W.eq (g2 := F0 m 22 ls []) rfl ?_
    have hz := zT_le hI ht
    have hk : sH S t < 14 := by have := (hI.2.2.2.2.2.2.1 t ht).1; omega
    by_cases h2 : 2 ≤ sH S t
    · skip
      rw [kep_row h2] at hC1 hR1 hI1
      obtain ⟨tk, na, ta, hq1, -, hrow⟩ := hC1.1.tray hI1 ht
      have hq1 : M1 (tr t) = some (eO 0 (hF (sH S t) (zT S t) tk na ta)) := hq1
      obtain ⟨hr, -, ekd, etr, -, -⟩ := hrow h2
      have hr : rowT S t < sN S := hr
      have ekd : sK S (rowT S t) = sH S t := ekd
      have etr : tr t = xr A (rowT S t) := etr
      have hzT : zT S t = sZ S (rowT S t) := by unfold zT; rw [if_pos h2]
      refine lv_aload_n hx hb dX3_spread_22 rfl (lv_at hl 0 rfl) ?_
      refine m_callV C w hl.1 (As := []) (rest := []) (c_Hold_refusal l D y S0 M1 F (tr t) (sH S t) (zT S t) tk na ta hq1 hk hz) gX3_spread_X0_refusal rfl hq1 (T := TX0) (N := 5) rfl (show (_ = _ ∧ _ ≠ _ ∧ _ ≠ _ ∧ _ = some 0) by decide +kernel) ⟨Nat.le_of_ble_eq_true rfl, Nat.le_of_ble_eq_true rfl⟩ rfl (Nat.le_of_ble_eq_true rfl) dX3_spread_23 ⟨Nat.le_of_ble_eq_true rfl, Nat.le_of_ble_eq_true rfl⟩ (fun v M1 H locs hq w => ?_)
      obtain ⟨rfl, hM1⟩ := hq
      rw [hM1] at w
      clear hM1 M1
      refine W.eq (g2 := F0 m 26 ls [.int (fR (sH S t))]) rfl ?_
      refine lv_istore (lv' := [(4, .int (fR (sH S t))), (3, .ref (tr t)), (0, .ref h0), (1, .int t1), (2, .int n1)]) hx hb dX3_spread_26 hl (by decide) rfl (fun ls hl => ?_)
      refine lv_iload hx hb dX3_spread_28 (lv_at hl 0 rfl) ?_
      refine lv_if_eq (tgt := 40) hx hb dX3_spread_30 (by decide) (fun c_30 => ?_) (fun c_30 => ?_)
      · skip
        refine lv_iload_n hx hb dX3_spread_40 rfl (lv_at hl 4 rfl) ?_
        refine lv_iconst (v := 1) hx hb dX3_spread_41 (by decide) ?_
        refine lv_icmp_lt (tgt := 53) hx hb dX3_spread_42 (by decide) (fun c_42 => ?_) (fun c_42 => ?_)
        · skip
          refine lv_aload_n hx hb dX3_spread_53 rfl (lv_at hl 2 rfl) ?_
          refine lv_bipush (v := (-4)) hx hb dX3_spread_54 (by decide) ?_
          refine m_callV C w hl.1 (As := [.int (-4)]) (rest := []) (c_counted l D y S0 M1 F h0 A tr f1 g1 (wBf S (some (rowT S t)) (sC S (rowT S t))) hC1 (-4) (fun _ => ⟨4, by decide, by decide⟩)) gX3_spread_X3_counted rfl hC1.1.1 (T := TX3) (N := 7) rfl (show (_ = _ ∧ _ ≠ _ ∧ _ ≠ _ ∧ _ = some 1) by decide +kernel) ⟨Nat.le_of_ble_eq_true rfl, Nat.le_of_ble_eq_true rfl⟩ rfl (Nat.le_of_ble_eq_true rfl) dX3_spread_56 ⟨Nat.le_of_ble_eq_true rfl, Nat.le_of_ble_eq_true rfl⟩ (fun v M1 H locs hq w => ?_)
          obtain ⟨rfl, hC9⟩ := hq
          refine W.eq (g2 := F0 m 59 ls [.int (-4)]) rfl ?_
          exact m_iret C w dX3_spread_59 (by omega) (by omega) (⟨by rw [hm0]; unfold spr1; rw [if_neg (by omega), if_pos (by first | (have c9 := Int32.not_le.mp c_50; simp [c9]) | simp [c_42])], by rw [hm0]; unfold spr1; rw [if_neg (by omega), if_pos (by first | (have c9 := Int32.not_le.mp c_50; simp [c9]) | simp [c_42]), kep_row h2]; exact ⟨A, tr, f1, g1, hC9, hR1⟩⟩)
        · skip
          refine lv_iload_n hx hb dX3_spread_45 rfl (lv_at hl 4 rfl) ?_
          refine lv_aload_n hx hb dX3_spread_46 rfl (lv_at hl 1 rfl) ?_
          refine m_getN C w hq1 (index := 89) (host := "BeadBench") (T := TX0) (N := 5) rfl hi_X0 1 (by decide) (by decide +kernel) rfl dX3_spread_47 ?_
          refine lv_icmp_le (tgt := 60) hx hb dX3_spread_50 (by decide) (fun c_50 => ?_) (fun c_50 => ?_)
          · skip
            obtain ⟨nn, hnl, en⟩ := nI_of2 (M := nI (zT S t)) (n := zT S t) (nI_toInt (by omega)) (fun h => c_42 (Int32.lt_trans h (by decide))) c_50
            have hn1 : 1 ≤ nn := by
              rcases Nat.eq_zero_or_pos nn with h | h
              · rw [en, h] at c_42; exact absurd (show nI 0 < 1 by decide) c_42
              · exact h
            refine lv_iload_n hx hb dX3_spread_60 rfl (lv_at hl 4 rfl) ?_
            refine m_topi (y := nI nn) en ?_
            refine lv_istore (lv' := [(5, .int (nI nn)), (4, .int (fR (sH S t))), (3, .ref (tr t)), (0, .ref h0), (1, .int t1), (2, .int n1)]) hx hb dX3_spread_61 hl (by decide) rfl (fun ls hl => ?_)
            have lp : ∀ (kf : Nat) (i : Nat) (f2 : Nat → Nat → Int64) (g2 : Nat → Nat → Option Nat) (M2 : mp), (nn ≤ i ∧ i ≤ zT S t) → (CW y h0 A tr f2 g2 (wBf S (some (rowT S t)) (sC S (rowT S t))) M2) → (∀ j, j ≠ rowT S t + 1 → f2 j = f1 j ∧ g2 j = g1 j) → (∀ x, (x < nn → f2 (rowT S t + 1) x = f1 (rowT S t + 1) x ∧ g2 (rowT S t + 1) x = g1 (rowT S t + 1) x) ∧ (nn ≤ x → x < i → f2 (rowT S t + 1) x = f1 0 (x % nn) ∧ g2 (rowT S t + 1) x = g1 0 (x % nn))) →  ∀ (H : Heap) (locs : List Loc) (ls : Array Slot), zT S t - i = kf → mS D S0 M2 F s H locs → lv_has ls 6 [(5, .int (nI i)), (2, .int n1), (3, .ref (tr t)), (0, .ref h0)] → W p l e { frames := 2, cells := 0, slots := 0, locals := 45 } s m ([.ref h0, .int t1, .int n1] : List Value).toArray below meth c H locs 0 0 (MQ below (mQ D S0 F (fun v M' => v = some (.int (sp_spread S t1 n1).1) ∧ RC y h0 (sp_spread S t1 n1).2 M')) ([.ref h0, .int t1, .int n1] : List Value).toArray s 0 0 (fun q => S0 ≤ q)) (F0 m 63 ls []) := by
              clear w hl
              intro kf
              induction kf using Nat.strongRecOn with
              | _ kf ih_lp =>
                intro i f2 g2 M2 hi hC2 hf hd H locs ls hkf w hl
                have hq2 : M2 (tr t) = some (eO 0 (hF (sH S t) (zT S t) 0 (xn A (rowT S t + 1)) (xt A (rowT S t + 1)))) := by rw [etr, hzT, ← ekd]; exact hC2.1.2.2.2.2.2.1 (rowT S t) hr
                have hn2 : M2 (xn A (rowT S t + 1)) = some (eL y (zT S t) (f2 (rowT S t + 1))) := by rw [hzT]; exact hC2.2.1.1 (rowT S t + 1) hr
                have ht2 : M2 (xt A (rowT S t + 1)) = some (eT y (zT S t) (g2 (rowT S t + 1))) := by rw [hzT]; exact hC2.2.1.2.1 (rowT S t + 1) hr
                refine lv_iload hx hb dX3_spread_63 (lv_at hl 0 rfl) ?_
                refine lv_aload_n hx hb dX3_spread_65 rfl (lv_at hl 2 rfl) ?_
                refine m_getN C w hq2 (index := 89) (host := "BeadBench") (T := TX0) (N := 5) rfl hi_X0 1 (by decide) (by decide +kernel) rfl dX3_spread_66 ?_
                refine lv_icmp_ge (tgt := 92) hx hb dX3_spread_69 (by decide) (fun c_69 => ?_) (fun c_69 => ?_)
                · skip
                  have n_69 : (zT S t) ≤ i := (nI_leI (by omega) (by omega)).mp c_69
                  refine lv_aload_n hx hb dX3_spread_92 rfl (lv_at hl 3 rfl) ?_
                  refine lv_aload_n hx hb dX3_spread_93 rfl (lv_at hl 2 rfl) ?_
                  refine m_getN C w hq2 (index := 89) (host := "BeadBench") (T := TX0) (N := 5) rfl hi_X0 1 (by decide) (by decide +kernel) rfl dX3_spread_94 ?_
                  refine m_callV C w hl.1 (As := [.int (nI (zT S t))]) (rest := []) (c_counted l D y S0 M2 F h0 A tr f2 g2 (wRC (wBf S (some (rowT S t)) (sC S (rowT S t))) (va_up (sC S) (rowT S t) (fun i => sC S (rowT S t) (if i < nn then i else i % nn)))) (hC2.rc _) (nI (zT S t)) (nI_ok (by omega))) gX3_spread_X3_counted rfl hC2.1.1 (T := TX3) (N := 7) rfl (show (_ = _ ∧ _ ≠ _ ∧ _ ≠ _ ∧ _ = some 1) by decide +kernel) ⟨Nat.le_of_ble_eq_true rfl, Nat.le_of_ble_eq_true rfl⟩ rfl (Nat.le_of_ble_eq_true rfl) dX3_spread_97 ⟨Nat.le_of_ble_eq_true rfl, Nat.le_of_ble_eq_true rfl⟩ (fun v M1 H locs hq w => ?_)
                  obtain ⟨rfl, hC9⟩ := hq
                  refine W.eq (g2 := F0 m 100 ls [.int (nI (zT S t))]) rfl ?_
                  exact m_iret C w dX3_spread_100 (by omega) (by omega) (⟨by rw [hm0]; unfold spr1; rw [if_neg (by omega), if_neg (by have c9 := Int32.not_lt.mpr c_50; simp [c_42, c9])], by
                    rw [hm0]
                    unfold spr1
                    rw [if_neg (by omega), if_neg (by have c9 := Int32.not_lt.mpr c_50; simp [c_42, c9]), kep_row h2, en, cN_nI (by omega)]
                    exact ⟨A, tr, f2, g2, hC9, ⟨fun r x hr2 hx => by
                      have hx : x < sZ S r := hx
                      show f2 (r + 1) x = nu (sK S r) ((va_up (sC S) (rowT S t) (fun i => sC S (rowT S t) (if i < nn then i else i % nn))) r x) ∧ g2 (r + 1) x = th A (sK S r) ((va_up (sC S) (rowT S t) (fun i => sC S (rowT S t) (if i < nn then i else i % nn))) r x)
                      by_cases e : r = rowT S t
                      · subst e
                        rw [show (va_up (sC S) (rowT S t) (fun i => sC S (rowT S t) (if i < nn then i else i % nn))) (rowT S t) x = sC S (rowT S t) (if x < nn then x else x % nn) by simp [va_up]]
                        by_cases h9 : x < nn
                        · rw [if_pos h9, ((hd x).1 h9).1, ((hd x).1 h9).2]
                          exact hR1.1 (rowT S t) x hr hx
                        · have hxm := Nat.mod_lt x (show 0 < nn by omega)
                          rw [if_neg h9, ((hd x).2 (by omega) (by omega)).1, ((hd x).2 (by omega) (by omega)).2]
                          exact hR1.2 (rowT S t) (x % nn) rfl (show _ < sZ S (rowT S t) by omega)
                      · rw [show (va_up (sC S) (rowT S t) (fun i => sC S (rowT S t) (if i < nn then i else i % nn))) r = sC S r by simp [va_up, e], (hf _ (fun h => e (Nat.succ.inj h))).1, (hf _ (fun h => e (Nat.succ.inj h))).2]
                        exact hR1.1 r x hr2 hx, fun r x hr2 hx => by
                      rw [(hf 0 (Ne.symm (Nat.succ_ne_zero _))).1, (hf 0 (Ne.symm (Nat.succ_ne_zero _))).2]
                      exact hR1.2 r x hr2 hx⟩⟩⟩)
                · skip
                  have n_69 : ¬ (zT S t) ≤ i := fun h => absurd ((nI_leI (by omega) (by omega)).mpr h) c_69
                  refine lv_aload_n hx hb dX3_spread_72 rfl (lv_at hl 2 rfl) ?_
                  refine lv_iload hx hb dX3_spread_73 (lv_at hl 0 rfl) ?_
                  refine lv_aload_n hx hb dX3_spread_75 rfl (lv_at hl 3 rfl) ?_
                  refine m_get C w hC2.1.1 (index := 22) (T := TX3) (N := 7) rfl hi_X3 2 (by decide) (by decide +kernel) rfl dX3_spread_76 ?_
                  refine lv_iload hx hb dX3_spread_79 (lv_at hl 0 rfl) ?_
                  refine lv_iload_n hx hb dX3_spread_81 rfl (lv_at hl 1 rfl) ?_
                  refine m_topi (y := nI nn) en ?_
                  refine lv_irem hx hb dX3_spread_82 (nI_ne0 (by omega) (by omega)) ?_
                  refine m_topi (y := nI (i % nn)) (pk_rem (by omega) (by omega) (by omega)) ?_
                  have hml := Nat.mod_lt i (show 0 < nn by omega)
                  refine m_callV C w hl.1 (As := [.int (nI i), .ref (xB A), .int (nI (i % nn))]) (rest := []) (c_Hold_copy l D y S0 M2 F (tr t) (sH S t) (zT S t) 0 (xn A (rowT S t + 1)) (xt A (rowT S t + 1)) hq2 (xB A) 0 64 0 (xn A 0) (xt A 0) hC2.1.2.2.2.1 (f2 (rowT S t + 1)) (f2 0) (g2 (rowT S t + 1)) (g2 0) hn2 ht2 (hC2.2.1.1 0 (Nat.zero_le _)) (hC2.2.1.2.1 0 (Nat.zero_le _)) i (i % nn) (by omega) (by omega) (by omega) (by omega) (fun z hz => hC2.1.th (hC2.2.1.2.2 0 (i % nn) z (Nat.zero_le _) (by rw [zz_0]; omega) hz))) gX3_spread_X0_copyPlace rfl hq2 (T := TX0) (N := 5) rfl (show (_ = _ ∧ _ ≠ _ ∧ _ ≠ _ ∧ _ = some 3) by decide +kernel) ⟨Nat.le_of_ble_eq_true rfl, Nat.le_of_ble_eq_true rfl⟩ rfl (Nat.le_of_ble_eq_true rfl) dX3_spread_83 ⟨Nat.le_of_ble_eq_true rfl, Nat.le_of_ble_eq_true rfl⟩ (fun v M1 H locs hq w => ?_)
                  obtain ⟨rfl, hM1⟩ := hq
                  have hC3 := hC2.copy (a := rowT S t + 1) (b := 0) (i := i) (j := i % nn) hr (Nat.zero_le _) (by rw [zz_s]; show i < sZ S (rowT S t); omega) (by rw [zz_0]; omega)
                  rw [show zz (wBf S (some (rowT S t)) (sC S (rowT S t))) (rowT S t + 1) = zT S t from (zz_s _ _).trans hzT.symm, ← hM1] at hC3
                  refine W.eq (g2 := F0 m 86 ls []) rfl ?_
                  refine lv_iinc (v := nI (i + 1)) (lv' := [(5, .int (nI (i + 1))), (2, .int n1), (3, .ref (tr t)), (0, .ref h0)]) hx hb dX3_spread_86 hl (k := 0) rfl (by first | exact nI_1 _ | exact nI_add _ _ | rfl) (by decide) rfl (fun ls hl => ?_)
                  refine lv_goto (tgt := 63) hx hb dX3_spread_89 (by decide) ?_
                  exact ih_lp (zT S t - (i + 1)) (by omega) (i + 1) _ _ M1 ⟨by omega, by omega⟩ hC3 (fun j hj => ⟨(up2_r hj).trans (hf j hj).1, (up2_r hj).trans (hf j hj).2⟩) (fun x => by
                      by_cases e : x = i
                      · rw [e, up2_s, up2_s, (hf 0 (Ne.symm (Nat.succ_ne_zero _))).1, (hf 0 (Ne.symm (Nat.succ_ne_zero _))).2]; exact ⟨fun h => absurd h (by omega), fun _ _ => ⟨rfl, rfl⟩⟩
                      · rw [up2_o (Or.inr e), up2_o (Or.inr e)]; exact ⟨(hd x).1, fun h1 h2 => (hd x).2 h1 (by omega)⟩) _ _ ls rfl w (lv_sub hl [0, 1, 2, 3] rfl)
            exact lp _ nn f1 g1 M1 ⟨Nat.le_refl _, by omega⟩ hC1 (fun _ _ => ⟨rfl, rfl⟩) (fun x => ⟨fun _ => ⟨rfl, rfl⟩, fun h1 h2 => absurd h2 (by omega)⟩) _ _ ls rfl w (lv_sub hl [0, 5, 2, 3] rfl)
          · skip
            refine lv_aload_n hx hb dX3_spread_53 rfl (lv_at hl 2 rfl) ?_
            refine lv_bipush (v := (-4)) hx hb dX3_spread_54 (by decide) ?_
            refine m_callV C w hl.1 (As := [.int (-4)]) (rest := []) (c_counted l D y S0 M1 F h0 A tr f1 g1 (wBf S (some (rowT S t)) (sC S (rowT S t))) hC1 (-4) (fun _ => ⟨4, by decide, by decide⟩)) gX3_spread_X3_counted rfl hC1.1.1 (T := TX3) (N := 7) rfl (show (_ = _ ∧ _ ≠ _ ∧ _ ≠ _ ∧ _ = some 1) by decide +kernel) ⟨Nat.le_of_ble_eq_true rfl, Nat.le_of_ble_eq_true rfl⟩ rfl (Nat.le_of_ble_eq_true rfl) dX3_spread_56 ⟨Nat.le_of_ble_eq_true rfl, Nat.le_of_ble_eq_true rfl⟩ (fun v M1 H locs hq w => ?_)
            obtain ⟨rfl, hC9⟩ := hq
            refine W.eq (g2 := F0 m 59 ls [.int (-4)]) rfl ?_
            exact m_iret C w dX3_spread_59 (by omega) (by omega) (⟨by rw [hm0]; unfold spr1; rw [if_neg (by omega), if_pos (by first | (have c9 := Int32.not_le.mp c_50; simp [c9]) | simp [c_42])], by rw [hm0]; unfold spr1; rw [if_neg (by omega), if_pos (by first | (have c9 := Int32.not_le.mp c_50; simp [c9]) | simp [c_42]), kep_row h2]; exact ⟨A, tr, f1, g1, hC9, hR1⟩⟩)
      · skip
        exact absurd (fR_0.mpr h2) c_30
    · skip
      rw [kep_no h2] at hC1 hR1 hI1
      obtain ⟨tk, na, ta, hq1, -, hrow⟩ := hC1.1.tray hI1 ht
      have hq1 : M1 (tr t) = some (eO 0 (hF (sH S t) (zT S t) tk na ta)) := hq1
      refine lv_aload_n hx hb dX3_spread_22 rfl (lv_at hl 0 rfl) ?_
      refine m_callV C w hl.1 (As := []) (rest := []) (c_Hold_refusal l D y S0 M1 F (tr t) (sH S t) (zT S t) tk na ta hq1 hk hz) gX3_spread_X0_refusal rfl hq1 (T := TX0) (N := 5) rfl (show (_ = _ ∧ _ ≠ _ ∧ _ ≠ _ ∧ _ = some 0) by decide +kernel) ⟨Nat.le_of_ble_eq_true rfl, Nat.le_of_ble_eq_true rfl⟩ rfl (Nat.le_of_ble_eq_true rfl) dX3_spread_23 ⟨Nat.le_of_ble_eq_true rfl, Nat.le_of_ble_eq_true rfl⟩ (fun v M1 H locs hq w => ?_)
      obtain ⟨rfl, hM1⟩ := hq
      rw [hM1] at w
      clear hM1 M1
      refine W.eq (g2 := F0 m 26 ls [.int (fR (sH S t))]) rfl ?_
      refine lv_istore (lv' := [(4, .int (fR (sH S t))), (3, .ref (tr t)), (0, .ref h0), (1, .int t1), (2, .int n1)]) hx hb dX3_spread_26 hl (by decide) rfl (fun ls hl => ?_)
      refine lv_iload hx hb dX3_spread_28 (lv_at hl 0 rfl) ?_
      refine lv_if_eq (tgt := 40) hx hb dX3_spread_30 (by decide) (fun c_30 => ?_) (fun c_30 => ?_)
      · skip
        exact absurd (fR_0.mp c_30) h2
      · skip
        refine lv_aload_n hx hb dX3_spread_33 rfl (lv_at hl 2 rfl) ?_
        refine lv_iload hx hb dX3_spread_34 (lv_at hl 0 rfl) ?_
        refine m_callV C w hl.1 (As := [.int (fR (sH S t))]) (rest := []) (c_counted l D y S0 M1 F h0 A tr f1 g1 (wBf S none (sF S)) hC1 (fR (sH S t)) fR_ok) gX3_spread_X3_counted rfl hC1.1.1 (T := TX3) (N := 7) rfl (show (_ = _ ∧ _ ≠ _ ∧ _ ≠ _ ∧ _ = some 1) by decide +kernel) ⟨Nat.le_of_ble_eq_true rfl, Nat.le_of_ble_eq_true rfl⟩ rfl (Nat.le_of_ble_eq_true rfl) dX3_spread_36 ⟨Nat.le_of_ble_eq_true rfl, Nat.le_of_ble_eq_true rfl⟩ (fun v M1 H locs hq w => ?_)
        obtain ⟨rfl, hC9⟩ := hq
        refine W.eq (g2 := F0 m 39 ls [.int (fR (sH S t))]) rfl ?_
        exact m_iret C w dX3_spread_39 (by omega) (by omega) (⟨by rw [hm0]; unfold spr1; rw [if_pos (by omega)], by rw [hm0]; unfold spr1; rw [if_pos (by omega), kep_no h2]; exact ⟨A, tr, f1, g1, hC9, hR1⟩⟩)
  · skip
    have n_4 : (inP t1 12) = false := bI_f c_4
    refine lv_bipush (v := (-6)) hx hb dX3_spread_7 (by decide) ?_
    exact m_iret C w dX3_spread_9 (by omega) (by omega) (⟨by rw [(show sp_spread S t1 n1 = (-6, S) by unfold sp_spread; rw [if_pos (by first | simp [n_4])])], by rw [(show sp_spread S t1 n1 = (-6, S) by unfold sp_spread; rw [if_pos (by first | simp [n_4])])]; exact ⟨A, tr, f, g, hC, hR⟩⟩)
set_option maxRecDepth 100000 in
set_option maxHeartbeats 4000000 in
theorem c_undo_n (l : Launch) (D : va_G) (y : mY) (S0 : Nat) (M F : mp) (h0 : Nat) (A : Ad) (tr : Nat → Nat) (f : Nat → Nat → Int64) (g : Nat → Nat → Option Nat) (S : St) (hC : CW y h0 A tr f g S M) (c0 : Nat) (hI : Inv c0 S) (hR : CR A f g S) (hB : sB S = none) : ct l yX3_undo wsX3_undo 1 23 0 0 D y S0 M F [.ref h0] (fun v M' => v = some (.int (sp_undo S ).1) ∧ RC y h0 (sp_undo S ).2 M') := by
  refine ct_of cX3_undo 3 (some .int) [(0, .ref h0)] (by decide +kernel) rfl (Nat.le_of_ble_eq_true rfl) rfl ?_
  intro p e s m below meth c ls C hnm hl w
  have hx := C.1
  have hb := C.2.1
  have hi_X0 : ∀ w ∈ u_ws RX0 TX0 5, w ∈ wsX3_undo := by decide +kernel
  have hi_X3 : ∀ w ∈ u_ws RX3 TX3 7, w ∈ wsX3_undo := by decide +kernel
  have hb1 : M h0 = some (eO 2 [.ref (xN A), .ref (xT A), .ref (xB A), .null, .ref (xY A), .int (nI (sI S)), .int (nI (sP S))]) := by rw [hC.1.1]; show some (eO 2 [_, _, _, va_rf ((sB S).map (xr A)), _, _, _]) = _; rw [hB]; rfl
  refine lv_aload_n hx hb dX3_undo_0 rfl (lv_at hl 0 rfl) ?_
  refine m_get C w hb1 (index := 25) (T := TX3) (N := 7) rfl hi_X3 3 (by decide) (by decide +kernel) rfl dX3_undo_1 ?_
  refine lv_astore_nN (lv' := [(1, .null), (0, .ref h0)]) hx hb dX3_undo_4 rfl hl (by decide) rfl (fun ls hl => ?_)
  refine lv_aload_n hx hb dX3_undo_5 rfl (lv_at hl 1 rfl) ?_
  refine lv_null hx hb dX3_undo_6 ?_
  refine m_put C w hb1 (v := .null) (index := 25) (T := TX3) (N := 7) rfl hi_X3 tyX3 tyX3_ok nmX3 3 (by decide) (by decide +kernel) rfl (tyX3_ok 3 (by decide)) rfl rfl (Nat.le_of_ble_eq_true rfl) dX3_undo_7 (fun H locs w => ?_)
  obtain ⟨M1, e_M1⟩ : ∃ z, z = mu M h0 (eO 2 (bF A (wBf S none (sF S)))) := ⟨_, rfl⟩
  have w : mS D S0 M1 F s H locs := by rw [e_M1]; exact w
  have hC1 : CW y h0 A tr f g (wBf S none (sF S)) M1 := by rw [e_M1]; exact hC.ben _ ⟨rfl, rfl, rfl, rfl, rfl, rfl, rfl, rfl, rfl⟩
  refine lv_aload_nN hx hb dX3_undo_10 rfl (lv_at hl 0 rfl) ?_
  refine lv_ifnonnullN hx hb dX3_undo_11 ?_
  refine lv_iconst (v := (-1)) hx hb dX3_undo_14 (by decide) ?_
  exact m_iret C w dX3_undo_15 (by omega) (by omega) (⟨by unfold sp_undo; rw [hB], by
    unfold sp_undo
    rw [hB]
    refine ⟨A, tr, f, g, ?_, hR⟩
    have e : wBf S none (sF S) = S := by rw [← hB]; rfl
    rw [e] at hC1
    exact hC1⟩)
set_option maxRecDepth 100000 in
set_option maxHeartbeats 4000000 in
theorem c_undo_s (l : Launch) (D : va_G) (y : mY) (S0 : Nat) (M F : mp) (h0 : Nat) (A : Ad) (tr : Nat → Nat) (f : Nat → Nat → Int64) (g : Nat → Nat → Option Nat) (S : St) (hC : CW y h0 A tr f g S M) (c0 : Nat) (hI : Inv c0 S) (hR : CR A f g S) (r : Nat) (hB : sB S = some r) : ct l yX3_undo wsX3_undo 1 23 0 0 D y S0 M F [.ref h0] (fun v M' => v = some (.int (sp_undo S ).1) ∧ RC y h0 (sp_undo S ).2 M') := by
  refine ct_of cX3_undo 3 (some .int) [(0, .ref h0)] (by decide +kernel) rfl (Nat.le_of_ble_eq_true rfl) rfl ?_
  intro p e s m below meth c ls C hnm hl w
  have hx := C.1
  have hb := C.2.1
  have hi_X0 : ∀ w ∈ u_ws RX0 TX0 5, w ∈ wsX3_undo := by decide +kernel
  have hi_X3 : ∀ w ∈ u_ws RX3 TX3 7, w ∈ wsX3_undo := by decide +kernel
  have hb1 : M h0 = some (eO 2 [.ref (xN A), .ref (xT A), .ref (xB A), .ref (xr A r), .ref (xY A), .int (nI (sI S)), .int (nI (sP S))]) := by rw [hC.1.1]; show some (eO 2 [_, _, _, va_rf ((sB S).map (xr A)), _, _, _]) = _; rw [hB]; rfl
  have hr : r < sN S := (hI.2.2.2.2.2.2.2.1 r hB).1
  have hz64 : sZ S r ≤ 64 := (hI.2.2.2.1 r hr).2.2.1
  refine lv_aload_n hx hb dX3_undo_0 rfl (lv_at hl 0 rfl) ?_
  refine m_get C w hb1 (index := 25) (T := TX3) (N := 7) rfl hi_X3 3 (by decide) (by decide +kernel) rfl dX3_undo_1 ?_
  refine lv_astore_n (lv' := [(1, .ref (xr A r)), (0, .ref h0)]) hx hb dX3_undo_4 rfl hl (by decide) rfl (fun ls hl => ?_)
  refine lv_aload_n hx hb dX3_undo_5 rfl (lv_at hl 1 rfl) ?_
  refine lv_null hx hb dX3_undo_6 ?_
  refine m_put C w hb1 (v := .null) (index := 25) (T := TX3) (N := 7) rfl hi_X3 tyX3 tyX3_ok nmX3 3 (by decide) (by decide +kernel) rfl (tyX3_ok 3 (by decide)) rfl rfl (Nat.le_of_ble_eq_true rfl) dX3_undo_7 (fun H locs w => ?_)
  obtain ⟨M1, e_M1⟩ : ∃ z, z = mu M h0 (eO 2 (bF A (wBf S none (sF S)))) := ⟨_, rfl⟩
  have w : mS D S0 M1 F s H locs := by rw [e_M1]; exact w
  have hC1 : CW y h0 A tr f g (wBf S none (sF S)) M1 := by rw [e_M1]; exact hC.ben _ ⟨rfl, rfl, rfl, rfl, rfl, rfl, rfl, rfl, rfl⟩
  refine lv_aload_n hx hb dX3_undo_10 rfl (lv_at hl 0 rfl) ?_
  refine lv_ifnonnull (tgt := 16) hx hb dX3_undo_11 (by decide) ?_
  refine lv_iconst (v := 0) hx hb dX3_undo_16 (by decide) ?_
  refine lv_istore_n (lv' := [(2, .int 0), (1, .ref (xr A r)), (0, .ref h0)]) hx hb dX3_undo_17 rfl hl (by decide) rfl (fun ls hl => ?_)
  have lp : ∀ (kf : Nat) (i : Nat) (f2 : Nat → Nat → Int64) (g2 : Nat → Nat → Option Nat) (M2 : mp), (i ≤ sZ S r) → (CW y h0 A tr f2 g2 (wBf S none (sF S)) M2) → (∀ j, j ≠ r + 1 → f2 j = f j ∧ g2 j = g j) → (∀ x, x < i → f2 (r + 1) x = f 0 x ∧ g2 (r + 1) x = g 0 x) →  ∀ (H : Heap) (locs : List Loc) (ls : Array Slot), sZ S r - i = kf → mS D S0 M2 F s H locs → lv_has ls 3 [(2, .int (nI i)), (1, .ref (xr A r)), (0, .ref h0)] → W p l e { frames := 1, cells := 0, slots := 0, locals := 23 } s m ([.ref h0] : List Value).toArray below meth c H locs 0 0 (MQ below (mQ D S0 F (fun v M' => v = some (.int (sp_undo S ).1) ∧ RC y h0 (sp_undo S ).2 M')) ([.ref h0] : List Value).toArray s 0 0 (fun q => S0 ≤ q)) (F0 m 18 ls []) := by
    clear w hl
    intro kf
    induction kf using Nat.strongRecOn with
    | _ kf ih_lp =>
      intro i f2 g2 M2 hi hC2 hf hd H locs ls hkf w hl
      have hq2 : M2 (xr A r) = some (eO 0 (hF (sK S r) (sZ S r) 0 (xn A (r + 1)) (xt A (r + 1)))) := hC2.1.2.2.2.2.2.1 r hr
      have hn2 : M2 (xn A (r + 1)) = some (eL y (sZ S r) (f2 (r + 1))) := hC2.2.1.1 (r + 1) hr
      have ht2 : M2 (xt A (r + 1)) = some (eT y (sZ S r) (g2 (r + 1))) := hC2.2.1.2.1 (r + 1) hr
      refine lv_iload_n hx hb dX3_undo_18 rfl (lv_at hl 0 rfl) ?_
      refine lv_aload_n hx hb dX3_undo_19 rfl (lv_at hl 1 rfl) ?_
      refine m_getN C w hq2 (index := 89) (host := "BeadBench") (T := TX0) (N := 5) rfl hi_X0 1 (by decide) (by decide +kernel) rfl dX3_undo_20 ?_
      refine lv_icmp_ge (tgt := 42) hx hb dX3_undo_23 (by decide) (fun c_23 => ?_) (fun c_23 => ?_)
      · skip
        have n_23 : (sZ S r) ≤ i := (nI_leI (by omega) (by omega)).mp c_23
        refine lv_aload_n hx hb dX3_undo_42 rfl (lv_at hl 1 rfl) ?_
        refine m_getN C w hq2 (index := 89) (host := "BeadBench") (T := TX0) (N := 5) rfl hi_X0 1 (by decide) (by decide +kernel) rfl dX3_undo_43 ?_
        exact m_iret C w dX3_undo_46 (by omega) (by omega) (⟨by unfold sp_undo; rw [hB], by
          unfold sp_undo
          rw [hB]
          exact ⟨A, tr, f2, g2, hC2, fun r2 x hr2 hx => by
            have hx : x < sZ S r2 := hx
            show f2 (r2 + 1) x = nu (sK S r2) ((va_up (sC S) r (sF S)) r2 x) ∧ g2 (r2 + 1) x = th A (sK S r2) ((va_up (sC S) r (sF S)) r2 x)
            by_cases e : r2 = r
            · rw [e] at hx ⊢
              rw [show (va_up (sC S) r (sF S)) r x = sF S x by simp [va_up], (hd x (by omega)).1, (hd x (by omega)).2]
              exact hR.2 r x hB hx
            · rw [show (va_up (sC S) r (sF S)) r2 = sC S r2 by simp [va_up, e], (hf _ (fun h => e (Nat.succ.inj h))).1, (hf _ (fun h => e (Nat.succ.inj h))).2]
              exact hR.1 r2 x hr2 hx, fun r2 x hr2 hx => by cases hr2⟩⟩)
      · skip
        have n_23 : ¬ (sZ S r) ≤ i := fun h => absurd ((nI_leI (by omega) (by omega)).mpr h) c_23
        refine lv_aload_n hx hb dX3_undo_26 rfl (lv_at hl 1 rfl) ?_
        refine lv_iload_n hx hb dX3_undo_27 rfl (lv_at hl 0 rfl) ?_
        refine lv_aload_n hx hb dX3_undo_28 rfl (lv_at hl 2 rfl) ?_
        refine m_get C w hC2.1.1 (index := 22) (T := TX3) (N := 7) rfl hi_X3 2 (by decide) (by decide +kernel) rfl dX3_undo_29 ?_
        refine lv_iload_n hx hb dX3_undo_32 rfl (lv_at hl 0 rfl) ?_
        refine m_callV C w hl.1 (As := [.int (nI i), .ref (xB A), .int (nI i)]) (rest := []) (c_Hold_copy l D y S0 M2 F (xr A r) (sK S r) (sZ S r) 0 (xn A (r + 1)) (xt A (r + 1)) hq2 (xB A) 0 64 0 (xn A 0) (xt A 0) hC2.1.2.2.2.1 (f2 (r + 1)) (f2 0) (g2 (r + 1)) (g2 0) hn2 ht2 (hC2.2.1.1 0 (Nat.zero_le _)) (hC2.2.1.2.1 0 (Nat.zero_le _)) i i (by omega) (by omega) (by omega) (by omega) (fun z hz => hC2.1.th (hC2.2.1.2.2 0 i z (Nat.zero_le _) (by rw [zz_0]; omega) hz))) gX3_undo_X0_copyPlace rfl hq2 (T := TX0) (N := 5) rfl (show (_ = _ ∧ _ ≠ _ ∧ _ ≠ _ ∧ _ = some 3) by decide +kernel) ⟨Nat.le_of_ble_eq_true rfl, Nat.le_of_ble_eq_true rfl⟩ rfl (Nat.le_of_ble_eq_true rfl) dX3_undo_33 ⟨Nat.le_of_ble_eq_true rfl, Nat.le_of_ble_eq_true rfl⟩ (fun v M1 H locs hq w => ?_)
        obtain ⟨rfl, hM1⟩ := hq
        have hC3 := hC2.copy (a := r + 1) (b := 0) (i := i) (j := i) hr (Nat.zero_le _) (by rw [zz_s]; show i < sZ S r; omega) (by rw [zz_0]; omega)
        rw [show zz (wBf S none (sF S)) (r + 1) = sZ S r from zz_s _ _, ← hM1] at hC3
        refine W.eq (g2 := F0 m 36 ls []) rfl ?_
        refine lv_iinc (v := nI (i + 1)) (lv' := [(2, .int (nI (i + 1))), (1, .ref (xr A r)), (0, .ref h0)]) hx hb dX3_undo_36 hl (k := 0) rfl (by first | exact nI_1 _ | exact nI_add _ _ | rfl) (by decide) rfl (fun ls hl => ?_)
        refine lv_goto (tgt := 18) hx hb dX3_undo_39 (by decide) ?_
        exact ih_lp (sZ S r - (i + 1)) (by omega) (i + 1) _ _ M1 (by omega) hC3 (fun j hj => ⟨(up2_r hj).trans (hf j hj).1, (up2_r hj).trans (hf j hj).2⟩) (fun x hx => by
            by_cases e : x = i
            · rw [e, up2_s, up2_s, (hf 0 (Ne.symm (Nat.succ_ne_zero _))).1, (hf 0 (Ne.symm (Nat.succ_ne_zero _))).2]; exact ⟨rfl, rfl⟩
            · rw [up2_o (Or.inr e), up2_o (Or.inr e)]; exact hd x (by omega)) _ _ ls rfl w (lv_sub hl [0, 1, 2] rfl)
  exact lp _ 0 f g M1 (by omega) hC1 (fun _ _ => ⟨rfl, rfl⟩) (fun x hx => by omega) _ _ ls rfl w (lv_sub hl [0, 1, 2] rfl)
theorem c_undo (l : Launch) (D : va_G) (y : mY) (S0 : Nat) (M F : mp) (h0 : Nat) (A : Ad) (tr : Nat → Nat) (f : Nat → Nat → Int64) (g : Nat → Nat → Option Nat) (S : St) (hC : CW y h0 A tr f g S M) (c0 : Nat) (hI : Inv c0 S) (hR : CR A f g S) : ct l yX3_undo wsX3_undo 1 23 0 0 D y S0 M F [.ref h0] (fun v M' => v = some (.int (sp_undo S ).1) ∧ RC y h0 (sp_undo S ).2 M') := by
  cases hB : sB S with
  | none => exact c_undo_n l D y S0 M F h0 A tr f g S hC c0 hI hR hB
  | some r => exact c_undo_s l D y S0 M F h0 A tr f g S hC c0 hI hR r hB
end
section
theorem lt_s1 {z : Nat} {x : Int32} (hz : z < 2 ^ 30) : nI z < x ↔ nI (z + 1) ≤ x := by
  rw [Int32.lt_iff_toInt_lt, Int32.le_iff_toInt_le, nI_toInt (by omega), nI_toInt (by omega)]
  omega
theorem nI_min {a b : Nat} (ha : a < 2 ^ 31) (hb : b < 2 ^ 31) : (if nI b < nI a then nI b else nI a) = nI (min a b) := by
  by_cases h : b < a
  · rw [if_pos ((nI_ltI hb ha).mpr h), Nat.min_eq_right (Nat.le_of_lt h)]
  · rw [if_neg (fun q => h ((nI_ltI hb ha).mp q)), Nat.min_eq_left (by omega)]
theorem th_inj {c : Nat} {y : mY} {h0 : Nat} {A : Ad} {tr : Nat → Nat} {f : Nat → Nat → Int64} {g : Nat → Nat → Option Nat} {S : St} {M : mp} (hI : Inv c S) (hC : CW y h0 A tr f g S M) {ka kb : Nat} {x z : Int64} (ha : 2 ≤ ka) (hb : 2 ≤ kb) (hu : ¬ ((isN ka || isN kb) = true ∧ ka ≠ kb)) (hx : val S ka x) (hz : val S kb z) : (nu ka x = nu kb z ∧ th A ka x = th A kb z) ↔ x = z := by
  constructor
  · intro ⟨h1, h2⟩
    by_cases e : ka ≤ 9
    · have ek : ka = kb := Classical.byContradiction fun q => hu ⟨by simp [isN]; omega, q⟩
      subst ek
      unfold nu at h1
      rw [if_pos e, if_pos e] at h1
      exact h1
    · have e2 : ¬ kb ≤ 9 := fun h => by
        by_cases ek : ka = kb
        · omega
        · exact hu ⟨by simp [isN]; omega, ek⟩
      have hbd := hI.2.2.1
      have hN := hI.1
      have hP := hI.2.1
      unfold th at h2
      rw [if_neg e, if_neg e2] at h2
      have cls : ∀ p r, 1 ≤ p → p ≤ sP S → r < sN S → xp A p ≠ xr A r := fun p r p1 p2 hr => m_ne (hC.1.2.2.2.2.2.2.1 p p1 p2) (hC.1.2.2.2.2.2.1 r hr) (by simp)
      rcases hx with q | rfl | ⟨-, -, p, p1, p2, rfl⟩ | ⟨-, r, hr, -, rfl⟩
      · exact absurd q e
      · rcases hz with q | rfl | ⟨-, -, p', p1', p2', rfl⟩ | ⟨-, r', hr', -, rfl⟩
        · exact absurd q e2
        · rfl
        · rw [if_pos rfl, if_neg (lN_ne (by omega) p1'), if_neg (lN_nn (by omega))] at h2; cases h2
        · rw [if_pos rfl, if_neg (neg_ne (by omega)), if_pos (neg_lt (by omega))] at h2; cases h2
      · rw [if_neg (lN_ne (by omega) p1), if_neg (lN_nn (by omega)), lN_pN (by omega)] at h2
        rcases hz with q | rfl | ⟨-, -, p', p1', p2', rfl⟩ | ⟨-, r', hr', -, rfl⟩
        · exact absurd q e2
        · rw [if_pos rfl] at h2; cases h2
        · rw [if_neg (lN_ne (by omega) p1'), if_neg (lN_nn (by omega)), lN_pN (by omega)] at h2
          rw [hC.2.2.2.2.2.2 p p' p1 p2 p1' p2' (Option.some.inj h2)]
        · rw [if_neg (neg_ne (by omega)), if_pos (neg_lt (by omega)), neg_rN (by omega)] at h2
          exact absurd (Option.some.inj h2) (cls p r' p1 p2 hr')
      · rw [if_neg (neg_ne (by omega)), if_pos (neg_lt (by omega)), neg_rN (by omega)] at h2
        rcases hz with q | rfl | ⟨-, -, p', p1', p2', rfl⟩ | ⟨-, r', hr', -, rfl⟩
        · exact absurd q e2
        · rw [if_pos rfl] at h2; cases h2
        · rw [if_neg (lN_ne (by omega) p1'), if_neg (lN_nn (by omega)), lN_pN (by omega)] at h2
          exact absurd (Option.some.inj h2).symm (cls p' r p1' p2' hr)
        · rw [if_neg (neg_ne (by omega)), if_pos (neg_lt (by omega)), neg_rN (by omega)] at h2
          rw [hC.2.2.2.2.2.1 r r' hr hr' (Option.some.inj h2)]
  · rintro rfl
    exact kin_nu ha hb hu A x
set_option maxRecDepth 100000 in
set_option maxHeartbeats 4000000 in
theorem c_match (l : Launch) (D : va_G) (y : mY) (S0 : Nat) (M F : mp) (h0 : Nat) (A : Ad) (tr : Nat → Nat) (f : Nat → Nat → Int64) (g : Nat → Nat → Option Nat) (S : St) (hC : CW y h0 A tr f g S M) (c0 : Nat) (hI : Inv c0 S) (hR : CR A f g S) (a1 p1 b1 q1 n1 : Int32) : ct l yX3_match wsX3_match 2 42 0 0 D y S0 M F [.ref h0, .int a1, .int p1, .int b1, .int q1, .int n1] (fun v M' => v = some (.int (sp_match S a1 p1 b1 q1 n1)) ∧ M' = M) := by
  refine ct_of cX3_match 11 (some .int) [(0, .ref h0), (1, .int a1), (2, .int p1), (3, .int b1), (4, .int q1), (5, .int n1)] (by decide +kernel) rfl (Nat.le_of_ble_eq_true rfl) rfl ?_
  intro p e s m below meth c ls C hnm hl w
  have hx := C.1
  have hb := C.2.1
  have hi_X0 : ∀ w ∈ u_ws RX0 TX0 5, w ∈ wsX3_match := by decide +kernel
  have hi_X3 : ∀ w ∈ u_ws RX3 TX3 7, w ∈ wsX3_match := by decide +kernel
  refine lv_iload_n hx hb dX3_match_0 rfl (lv_at hl 1 rfl) ?_
  refine m_callS C w hl.1 (As := [.int a1]) (rest := []) (c_isTray l D y S0 M F a1) ggX3_match_X3_isTray rfl (by decide +kernel) (by decide +kernel) (by decide +kernel) (show (_ ≠ _ ∧ _ ≠ _ ∧ _ = some 1) by decide +kernel) ⟨Nat.le_of_ble_eq_true rfl, Nat.le_of_ble_eq_true rfl⟩ rfl (Nat.le_of_ble_eq_true rfl) dX3_match_1 ⟨Nat.le_of_ble_eq_true rfl, Nat.le_of_ble_eq_true rfl⟩ (fun v M1 H locs hq w => ?_)
  obtain ⟨rfl, hM1⟩ := hq
  rw [hM1] at w
  clear hM1 M1
  refine W.eq (g2 := F0 m 4 ls [.int (bI (inP a1 12))]) rfl ?_
  refine lv_if_eq (tgt := 14) hx hb dX3_match_4 (by decide) (fun c_4 => ?_) (fun c_4 => ?_)
  · skip
    have n_4 : (inP a1 12) = false := bI_f c_4
    refine lv_bipush (v := (-6)) hx hb dX3_match_14 (by decide) ?_
    exact m_iret C w dX3_match_16 (by omega) (by omega) (⟨by unfold sp_match; rw [if_pos (by first | simp [n_4, n_11] | simp [n_4])], rfl⟩)
  · skip
    have n_4 : (inP a1 12) = true := bI_t c_4
    refine lv_iload_n hx hb dX3_match_7 rfl (lv_at hl 3 rfl) ?_
    refine m_callS C w hl.1 (As := [.int b1]) (rest := []) (c_isTray l D y S0 M F b1) ggX3_match_X3_isTray rfl (by decide +kernel) (by decide +kernel) (by decide +kernel) (show (_ ≠ _ ∧ _ ≠ _ ∧ _ = some 1) by decide +kernel) ⟨Nat.le_of_ble_eq_true rfl, Nat.le_of_ble_eq_true rfl⟩ rfl (Nat.le_of_ble_eq_true rfl) dX3_match_8 ⟨Nat.le_of_ble_eq_true rfl, Nat.le_of_ble_eq_true rfl⟩ (fun v M1 H locs hq w => ?_)
    obtain ⟨rfl, hM1⟩ := hq
    rw [hM1] at w
    clear hM1 M1
    refine W.eq (g2 := F0 m 11 ls [.int (bI (inP b1 12))]) rfl ?_
    refine lv_if_ne (tgt := 17) hx hb dX3_match_11 (by decide) (fun c_11 => ?_) (fun c_11 => ?_)
    · skip
      have n_11 : (inP b1 12) = true := bI_t c_11
      obtain ⟨ta, hta, ea⟩ := inP_t (by decide) n_4
      obtain ⟨tb, htb, eb⟩ := inP_t (by decide) n_11
      obtain ⟨tka, naa, taa, hqa, -, hra⟩ := hC.1.tray hI hta
      obtain ⟨tkb, nab, tab, hqb, -, hrb⟩ := hC.1.tray hI htb
      have hka : sH S ta < 14 := by have := (hI.2.2.2.2.2.2.1 ta hta).1; omega
      have hkb : sH S tb < 14 := by have := (hI.2.2.2.2.2.2.1 tb htb).1; omega
      have hza := zT_le hI hta
      have hzb := zT_le hI htb
      have hm0 : sp_match S a1 p1 b1 q1 n1 = mat1 S ta p1 tb q1 n1 := by unfold sp_match; rw [if_neg (by simp [n_4, n_11]), ea, eb, cN_nI (by omega), cN_nI (by omega)]
      refine lv_aload_n hx hb dX3_match_17 rfl (lv_at hl 0 rfl) ?_
      refine m_get C w hC.1.1 (index := 18) (T := TX3) (N := 7) rfl hi_X3 1 (by decide) (by decide +kernel) rfl dX3_match_18 ?_
      refine lv_iload_n hx hb dX3_match_21 rfl (lv_at hl 1 rfl) ?_
      refine m_topi (y := nI ta) ea ?_
      refine m_hald C w hC.1.2.2.1 ta rfl (by omega) (by omega) dX3_match_22 ?_
      refine lv_astore (lv' := [(6, .ref (tr ta)), (0, .ref h0), (1, .int a1), (2, .int p1), (3, .int b1), (4, .int q1), (5, .int n1)]) hx hb dX3_match_23 hl (by decide) rfl (fun ls hl => ?_)
      refine lv_aload_n hx hb dX3_match_25 rfl (lv_at hl 1 rfl) ?_
      refine m_get C w hC.1.1 (index := 18) (T := TX3) (N := 7) rfl hi_X3 1 (by decide) (by decide +kernel) rfl dX3_match_26 ?_
      refine lv_iload_n hx hb dX3_match_29 rfl (lv_at hl 4 rfl) ?_
      refine m_topi (y := nI tb) eb ?_
      refine m_hald C w hC.1.2.2.1 tb rfl (by omega) (by omega) dX3_match_30 ?_
      refine lv_astore (lv' := [(7, .ref (tr tb)), (6, .ref (tr ta)), (0, .ref h0), (1, .int a1), (2, .int p1), (3, .int b1), (4, .int q1), (5, .int n1)]) hx hb dX3_match_31 hl (by decide) rfl (fun ls hl => ?_)
      refine lv_aload hx hb dX3_match_33 (lv_at hl 1 rfl) ?_
      refine lv_aload hx hb dX3_match_35 (lv_at hl 0 rfl) ?_
      refine m_callS C w hl.1 (As := [.ref (tr ta), .ref (tr tb)]) (rest := []) (c_pair l D y S0 M F (tr ta) (sH S ta) (zT S ta) tka naa taa hqa hka hza (tr tb) (sH S tb) (zT S tb) tkb nab tab hqb hkb hzb) ggX3_match_X3_refusalOfPair rfl (by decide +kernel) (by decide +kernel) (by decide +kernel) (show (_ ≠ _ ∧ _ ≠ _ ∧ _ = some 2) by decide +kernel) ⟨Nat.le_of_ble_eq_true rfl, Nat.le_of_ble_eq_true rfl⟩ rfl (Nat.le_of_ble_eq_true rfl) dX3_match_37 ⟨Nat.le_of_ble_eq_true rfl, Nat.le_of_ble_eq_true rfl⟩ (fun v M1 H locs hq w => ?_)
      obtain ⟨rfl, hM1⟩ := hq
      rw [hM1] at w
      clear hM1 M1
      refine W.eq (g2 := F0 m 40 ls [.int (unlK (sH S ta) (sH S tb))]) rfl ?_
      refine lv_istore (lv' := [(8, .int (unlK (sH S ta) (sH S tb))), (7, .ref (tr tb)), (6, .ref (tr ta)), (0, .ref h0), (1, .int a1), (2, .int p1), (3, .int b1), (4, .int q1), (5, .int n1)]) hx hb dX3_match_40 hl (by decide) rfl (fun ls hl => ?_)
      refine lv_iload hx hb dX3_match_42 (lv_at hl 0 rfl) ?_
      refine lv_if_eq (tgt := 50) hx hb dX3_match_44 (by decide) (fun c_44 => ?_) (fun c_44 => ?_)
      · skip
        refine lv_iload hx hb dX3_match_50 (lv_at hl 8 rfl) ?_
        refine lv_if_lt (tgt := 83) hx hb dX3_match_52 (by decide) (fun c_52 => ?_) (fun c_52 => ?_)
        · skip
          refine lv_bipush (v := (-4)) hx hb dX3_match_83 (by decide) ?_
          exact m_iret C w dX3_match_85 (by omega) (by omega) (⟨by
            rw [hm0]
            unfold mat1
            rw [if_neg (show ¬ ¬ unl S ta tb = 0 from fun h => h c_44), if_pos ?_]
            unfold inP
            rw [show decide (nI (zT S ta + 1) ≤ p1) = decide (nI (zT S ta) < p1) from decide_eq_decide.mpr (lt_s1 (by omega)).symm, show decide (nI (zT S tb + 1) ≤ q1) = decide (nI (zT S tb) < q1) from decide_eq_decide.mpr (lt_s1 (by omega)).symm]
            first | (have c9 := Int32.not_le.mp c_80; simp [c9]) | simp [c_70] | simp [c_65] | simp [c_56] | simp [c_52], rfl⟩)
        · skip
          refine lv_iload_n hx hb dX3_match_55 rfl (lv_at hl 5 rfl) ?_
          refine lv_if_lt (tgt := 83) hx hb dX3_match_56 (by decide) (fun c_56 => ?_) (fun c_56 => ?_)
          · skip
            refine lv_bipush (v := (-4)) hx hb dX3_match_83 (by decide) ?_
            exact m_iret C w dX3_match_85 (by omega) (by omega) (⟨by
              rw [hm0]
              unfold mat1
              rw [if_neg (show ¬ ¬ unl S ta tb = 0 from fun h => h c_44), if_pos ?_]
              unfold inP
              rw [show decide (nI (zT S ta + 1) ≤ p1) = decide (nI (zT S ta) < p1) from decide_eq_decide.mpr (lt_s1 (by omega)).symm, show decide (nI (zT S tb + 1) ≤ q1) = decide (nI (zT S tb) < q1) from decide_eq_decide.mpr (lt_s1 (by omega)).symm]
              first | (have c9 := Int32.not_le.mp c_80; simp [c9]) | simp [c_70] | simp [c_65] | simp [c_56] | simp [c_52], rfl⟩)
          · skip
            refine lv_iload_n hx hb dX3_match_59 rfl (lv_at hl 5 rfl) ?_
            refine lv_aload hx hb dX3_match_60 (lv_at hl 2 rfl) ?_
            refine m_getN C w hqa (index := 89) (host := "BeadBench") (T := TX0) (N := 5) rfl hi_X0 1 (by decide) (by decide +kernel) rfl dX3_match_62 ?_
            refine lv_icmp_gt (tgt := 83) hx hb dX3_match_65 (by decide) (fun c_65 => ?_) (fun c_65 => ?_)
            · skip
              refine lv_bipush (v := (-4)) hx hb dX3_match_83 (by decide) ?_
              exact m_iret C w dX3_match_85 (by omega) (by omega) (⟨by
                rw [hm0]
                unfold mat1
                rw [if_neg (show ¬ ¬ unl S ta tb = 0 from fun h => h c_44), if_pos ?_]
                unfold inP
                rw [show decide (nI (zT S ta + 1) ≤ p1) = decide (nI (zT S ta) < p1) from decide_eq_decide.mpr (lt_s1 (by omega)).symm, show decide (nI (zT S tb + 1) ≤ q1) = decide (nI (zT S tb) < q1) from decide_eq_decide.mpr (lt_s1 (by omega)).symm]
                first | (have c9 := Int32.not_le.mp c_80; simp [c9]) | simp [c_70] | simp [c_65] | simp [c_56] | simp [c_52], rfl⟩)
            · skip
              refine lv_iload hx hb dX3_match_68 (lv_at hl 7 rfl) ?_
              refine lv_if_lt (tgt := 83) hx hb dX3_match_70 (by decide) (fun c_70 => ?_) (fun c_70 => ?_)
              · skip
                refine lv_bipush (v := (-4)) hx hb dX3_match_83 (by decide) ?_
                exact m_iret C w dX3_match_85 (by omega) (by omega) (⟨by
                  rw [hm0]
                  unfold mat1
                  rw [if_neg (show ¬ ¬ unl S ta tb = 0 from fun h => h c_44), if_pos ?_]
                  unfold inP
                  rw [show decide (nI (zT S ta + 1) ≤ p1) = decide (nI (zT S ta) < p1) from decide_eq_decide.mpr (lt_s1 (by omega)).symm, show decide (nI (zT S tb + 1) ≤ q1) = decide (nI (zT S tb) < q1) from decide_eq_decide.mpr (lt_s1 (by omega)).symm]
                  first | (have c9 := Int32.not_le.mp c_80; simp [c9]) | simp [c_70] | simp [c_65] | simp [c_56] | simp [c_52], rfl⟩)
              · skip
                refine lv_iload hx hb dX3_match_73 (lv_at hl 7 rfl) ?_
                refine lv_aload hx hb dX3_match_75 (lv_at hl 1 rfl) ?_
                refine m_getN C w hqb (index := 89) (host := "BeadBench") (T := TX0) (N := 5) rfl hi_X0 1 (by decide) (by decide +kernel) rfl dX3_match_77 ?_
                refine lv_icmp_le (tgt := 86) hx hb dX3_match_80 (by decide) (fun c_80 => ?_) (fun c_80 => ?_)
                · skip
                  obtain ⟨h2a, h2b, hcm⟩ := unlK_0 c_44
                  obtain ⟨hra1, -, eka, -, enaa, etaa⟩ := hra h2a
                  obtain ⟨hrb1, -, ekb, -, enab, etab⟩ := hrb h2b
                  have hzA : zT S ta = sZ S (rowT S ta) := by unfold zT; rw [if_pos h2a]
                  have hzB : zT S tb = sZ S (rowT S tb) := by unfold zT; rw [if_pos h2b]
                  obtain ⟨pp, hpl, ep⟩ := nI_of2 (M := nI (zT S ta)) (n := zT S ta) (nI_toInt (by omega)) c_56 (Int32.not_lt.mp c_65)
                  obtain ⟨qq, hql, eq⟩ := nI_of2 (M := nI (zT S tb)) (n := zT S tb) (nI_toInt (by omega)) c_70 c_80
                  obtain ⟨nn, hnl, en⟩ := nI_of c_52
                  have hnA : M naa = some (eL y (zT S ta) (f (rowT S ta + 1))) := by rw [enaa, hzA]; exact hC.2.1.1 _ hra1
                  have htA : M taa = some (eT y (zT S ta) (g (rowT S ta + 1))) := by rw [etaa, hzA]; exact hC.2.1.2.1 _ hra1
                  have hnB : M nab = some (eL y (zT S tb) (f (rowT S tb + 1))) := by rw [enab, hzB]; exact hC.2.1.1 _ hrb1
                  have htB : M tab = some (eT y (zT S tb) (g (rowT S tb + 1))) := by rw [etab, hzB]; exact hC.2.1.2.1 _ hrb1
                  have hal : ∀ i, pp + i < zT S ta → qq + i < zT S tb → (decide (f (rowT S ta + 1) (pp + i) = f (rowT S tb + 1) (qq + i)) && decide (g (rowT S ta + 1) (pp + i) = g (rowT S tb + 1) (qq + i))) = decide (sC S (rowT S ta) (pp + i) = sC S (rowT S tb) (qq + i)) := by
                    intro i h1 h2
                    have q1 := hR.1 (rowT S ta) (pp + i) hra1 (by omega)
                    have q2 := hR.1 (rowT S tb) (qq + i) hrb1 (by omega)
                    rw [q1.1, q1.2, q2.1, q2.2, ← Bool.decide_and]
                    exact decide_eq_decide.mpr (th_inj hI hC (by omega) (by omega) (by rw [eka, ekb]; exact hcm) ((hI.2.2.2.1 _ hra1).2.2.2 _ (by omega)) ((hI.2.2.2.1 _ hrb1).2.2.2 _ (by omega)))
                  have hm : sp_match S a1 p1 b1 q1 n1 = nI (ld (fun j => decide (sC S (rowT S ta) (pp + j) = sC S (rowT S tb) (qq + j))) (min nn (min (zT S ta - pp) (zT S tb - qq)))) := by
                    rw [hm0]
                    unfold mat1
                    rw [if_neg (show ¬ ¬ unl S ta tb = 0 from fun h => h c_44), if_neg (by rw [ep, eq, en]; simp [inP_nI (show pp < zT S ta + 1 by omega) (by omega), inP_nI (show qq < zT S tb + 1 by omega) (by omega), nI_pos hnl]), ep, eq, en, cN_nI (by omega), cN_nI (by omega), cN_nI hnl]
                  refine lv_iload hx hb dX3_match_86 (lv_at hl 8 rfl) ?_
                  refine m_topi (y := nI nn) en ?_
                  refine lv_aload hx hb dX3_match_88 (lv_at hl 2 rfl) ?_
                  refine m_getN C w hqa (index := 89) (host := "BeadBench") (T := TX0) (N := 5) rfl hi_X0 1 (by decide) (by decide +kernel) rfl dX3_match_90 ?_
                  refine lv_iload_n hx hb dX3_match_93 rfl (lv_at hl 5 rfl) ?_
                  refine m_topi (y := nI pp) ep ?_
                  refine lv_isub hx hb dX3_match_94 ?_
                  refine m_topi (y := nI (zT S ta - pp)) (pk_sub (by omega)) ?_
                  refine lv_aload hx hb dX3_match_95 (lv_at hl 1 rfl) ?_
                  refine m_getN C w hqb (index := 89) (host := "BeadBench") (T := TX0) (N := 5) rfl hi_X0 1 (by decide) (by decide +kernel) rfl dX3_match_97 ?_
                  refine lv_iload hx hb dX3_match_100 (lv_at hl 7 rfl) ?_
                  refine m_topi (y := nI qq) eq ?_
                  refine lv_isub hx hb dX3_match_102 ?_
                  refine m_topi (y := nI (zT S tb - qq)) (pk_sub (by omega)) ?_
                  refine va_mmin hx hb (by rw [C.2.2.1]; exact hl.1.symm) C.2.2.2.1 (C.2.2.2.2.1 _ (by decide +kernel)) (C.2.2.2.2.1 _ (by decide +kernel)) (C.2.2.2.2.1 _ (by decide +kernel)) (C.2.2.2.2.1 _ (List.mem_of_getElem? (i := 5) rfl)) (Nat.le_of_ble_eq_true rfl) (Nat.le_of_ble_eq_true rfl) (Nat.le_of_ble_eq_true rfl) (Nat.le_of_ble_eq_true rfl) dX3_match_103 ?_
                  refine m_topi (y := nI (min (zT S ta - pp) (zT S tb - qq))) (nI_min (by omega) (by omega)) ?_
                  refine va_mmin hx hb (by rw [C.2.2.1]; exact hl.1.symm) C.2.2.2.1 (C.2.2.2.2.1 _ (by decide +kernel)) (C.2.2.2.2.1 _ (by decide +kernel)) (C.2.2.2.2.1 _ (by decide +kernel)) (C.2.2.2.2.1 _ (List.mem_of_getElem? (i := 5) rfl)) (Nat.le_of_ble_eq_true rfl) (Nat.le_of_ble_eq_true rfl) (Nat.le_of_ble_eq_true rfl) (Nat.le_of_ble_eq_true rfl) dX3_match_106 ?_
                  refine m_topi (y := nI (min nn (min (zT S ta - pp) (zT S tb - qq)))) (nI_min (by omega) (by omega)) ?_
                  refine lv_istore (lv' := [(9, .int (nI (min nn (min (zT S ta - pp) (zT S tb - qq))))), (8, .int (unlK (sH S ta) (sH S tb))), (7, .ref (tr tb)), (6, .ref (tr ta)), (0, .ref h0), (1, .int a1), (2, .int p1), (3, .int b1), (4, .int q1), (5, .int n1)]) hx hb dX3_match_109 hl (by decide) rfl (fun ls hl => ?_)
                  refine lv_iconst (v := 0) hx hb dX3_match_111 (by decide) ?_
                  refine lv_istore (lv' := [(10, .int 0), (9, .int (nI (min nn (min (zT S ta - pp) (zT S tb - qq))))), (8, .int (unlK (sH S ta) (sH S tb))), (7, .ref (tr tb)), (6, .ref (tr ta)), (0, .ref h0), (1, .int a1), (2, .int p1), (3, .int b1), (4, .int q1), (5, .int n1)]) hx hb dX3_match_112 hl (by decide) rfl (fun ls hl => ?_)
                  have lp : ∀ (kf : Nat) (i : Nat), (i ≤ min nn (min (zT S ta - pp) (zT S tb - qq))) → (∀ x, x < i → decide (sC S (rowT S ta) (pp + x) = sC S (rowT S tb) (qq + x)) = true) →  ∀ (H : Heap) (locs : List Loc) (ls : Array Slot), min nn (min (zT S ta - pp) (zT S tb - qq)) - i = kf → mS D S0 M F s H locs → lv_has ls 11 [(10, .int (nI i)), (9, .int (nI (min nn (min (zT S ta - pp) (zT S tb - qq))))), (6, .ref (tr ta)), (7, .ref (tr tb)), (2, .int p1), (4, .int q1), (0, .ref h0)] → W p l e { frames := 2, cells := 0, slots := 0, locals := 42 } s m ([.ref h0, .int a1, .int p1, .int b1, .int q1, .int n1] : List Value).toArray below meth c H locs 0 0 (MQ below (mQ D S0 F (fun v M' => v = some (.int (sp_match S a1 p1 b1 q1 n1)) ∧ M' = M)) ([.ref h0, .int a1, .int p1, .int b1, .int q1, .int n1] : List Value).toArray s 0 0 (fun q => S0 ≤ q)) (F0 m 114 ls []) := by
                    clear w hl
                    intro kf
                    induction kf using Nat.strongRecOn with
                    | _ kf ih_lp =>
                      intro i hi hK H locs ls hkf w hl
                      refine lv_iload hx hb dX3_match_114 (lv_at hl 0 rfl) ?_
                      refine lv_iload hx hb dX3_match_116 (lv_at hl 1 rfl) ?_
                      refine lv_icmp_ge (tgt := 146) hx hb dX3_match_118 (by decide) (fun c_118 => ?_) (fun c_118 => ?_)
                      · skip
                        have n_118 : (min nn (min (zT S ta - pp) (zT S tb - qq))) ≤ i := (nI_leI (by omega) (by omega)).mp c_118
                        refine lv_iload hx hb dX3_match_146 (lv_at hl 0 rfl) ?_
                        exact m_iret C w dX3_match_148 (by omega) (by omega) (⟨by rw [hm]; exact congrArg (fun z => some (Value.int (nI z))) (ld_eq (by omega) hK (by first | exact Or.inl (by omega) | exact Or.inr (by rw [← hal i (by omega) (by omega)]; exact n_137))).symm, rfl⟩)
                      · skip
                        have n_118 : ¬ (min nn (min (zT S ta - pp) (zT S tb - qq))) ≤ i := fun h => absurd ((nI_leI (by omega) (by omega)).mpr h) c_118
                        refine lv_aload hx hb dX3_match_121 (lv_at hl 2 rfl) ?_
                        refine lv_iload_n hx hb dX3_match_123 rfl (lv_at hl 4 rfl) ?_
                        refine m_topi (y := nI pp) ep ?_
                        refine lv_iload hx hb dX3_match_124 (lv_at hl 0 rfl) ?_
                        refine lv_iadd hx hb dX3_match_126 ?_
                        refine m_topi (y := nI (pp + i)) (by first | exact nI_add _ _ | exact nI_1 _) ?_
                        refine lv_aload hx hb dX3_match_127 (lv_at hl 3 rfl) ?_
                        refine lv_iload hx hb dX3_match_129 (lv_at hl 5 rfl) ?_
                        refine m_topi (y := nI qq) eq ?_
                        refine lv_iload hx hb dX3_match_131 (lv_at hl 0 rfl) ?_
                        refine lv_iadd hx hb dX3_match_133 ?_
                        refine m_topi (y := nI (qq + i)) (by first | exact nI_add _ _ | exact nI_1 _) ?_
                        refine m_callV C w hl.1 (As := [.int (nI (pp + i)), .ref (tr tb), .int (nI (qq + i))]) (rest := []) (c_Hold_alike l D y S0 M F (tr ta) (sH S ta) (zT S ta) tka naa taa hqa (tr tb) (sH S tb) (zT S tb) tkb nab tab hqb (f (rowT S ta + 1)) (f (rowT S tb + 1)) (g (rowT S ta + 1)) (g (rowT S tb + 1)) hnA htA hnB htB (pp + i) (qq + i) (by omega) (by omega) hza hzb) gX3_match_X0_isAlike rfl hqa (T := TX0) (N := 5) rfl (show (_ = _ ∧ _ ≠ _ ∧ _ ≠ _ ∧ _ = some 3) by decide +kernel) ⟨Nat.le_of_ble_eq_true rfl, Nat.le_of_ble_eq_true rfl⟩ rfl (Nat.le_of_ble_eq_true rfl) dX3_match_134 ⟨Nat.le_of_ble_eq_true rfl, Nat.le_of_ble_eq_true rfl⟩ (fun v M1 H locs hq w => ?_)
                        obtain ⟨rfl, hM1⟩ := hq
                        rw [hM1] at w
                        clear hM1 M1
                        refine W.eq (g2 := F0 m 137 ls [.int (bI (decide (f (rowT S ta + 1) (pp + i) = f (rowT S tb + 1) (qq + i)) && decide (g (rowT S ta + 1) (pp + i) = g (rowT S tb + 1) (qq + i))))]) rfl ?_
                        refine lv_if_eq (tgt := 146) hx hb dX3_match_137 (by decide) (fun c_137 => ?_) (fun c_137 => ?_)
                        · skip
                          have n_137 : (decide (f (rowT S ta + 1) (pp + i) = f (rowT S tb + 1) (qq + i)) && decide (g (rowT S ta + 1) (pp + i) = g (rowT S tb + 1) (qq + i))) = false := bI_f c_137
                          refine lv_iload hx hb dX3_match_146 (lv_at hl 0 rfl) ?_
                          exact m_iret C w dX3_match_148 (by omega) (by omega) (⟨by rw [hm]; exact congrArg (fun z => some (Value.int (nI z))) (ld_eq (by omega) hK (by first | exact Or.inl (by omega) | exact Or.inr (by rw [← hal i (by omega) (by omega)]; exact n_137))).symm, rfl⟩)
                        · skip
                          have n_137 : (decide (f (rowT S ta + 1) (pp + i) = f (rowT S tb + 1) (qq + i)) && decide (g (rowT S ta + 1) (pp + i) = g (rowT S tb + 1) (qq + i))) = true := bI_t c_137
                          refine lv_iinc (v := nI (i + 1)) (lv' := [(10, .int (nI (i + 1))), (9, .int (nI (min nn (min (zT S ta - pp) (zT S tb - qq))))), (6, .ref (tr ta)), (7, .ref (tr tb)), (2, .int p1), (4, .int q1), (0, .ref h0)]) hx hb dX3_match_140 hl (k := 0) rfl (by first | exact nI_1 _ | exact nI_add _ _ | rfl) (by decide) rfl (fun ls hl => ?_)
                          refine lv_goto (tgt := 114) hx hb dX3_match_143 (by decide) ?_
                          exact ih_lp (min nn (min (zT S ta - pp) (zT S tb - qq)) - (i + 1)) (by omega) (i + 1) (by omega) (fun x hx => by
                              by_cases e : x = i
                              · rw [e, ← hal i (by omega) (by omega)]; exact n_137
                              · exact hK x (by omega)) _ _ ls rfl w (lv_sub hl [0, 1, 2, 3, 4, 5, 6] rfl)
                  exact lp _ 0 (Nat.zero_le _) (fun x hx => by omega) _ _ ls rfl w (lv_sub hl [0, 1, 4, 3, 7, 9, 5] rfl)
                · skip
                  refine lv_bipush (v := (-4)) hx hb dX3_match_83 (by decide) ?_
                  exact m_iret C w dX3_match_85 (by omega) (by omega) (⟨by
                    rw [hm0]
                    unfold mat1
                    rw [if_neg (show ¬ ¬ unl S ta tb = 0 from fun h => h c_44), if_pos ?_]
                    unfold inP
                    rw [show decide (nI (zT S ta + 1) ≤ p1) = decide (nI (zT S ta) < p1) from decide_eq_decide.mpr (lt_s1 (by omega)).symm, show decide (nI (zT S tb + 1) ≤ q1) = decide (nI (zT S tb) < q1) from decide_eq_decide.mpr (lt_s1 (by omega)).symm]
                    first | (have c9 := Int32.not_le.mp c_80; simp [c9]) | simp [c_70] | simp [c_65] | simp [c_56] | simp [c_52], rfl⟩)
      · skip
        refine lv_iload hx hb dX3_match_47 (lv_at hl 0 rfl) ?_
        exact m_iret C w dX3_match_49 (by omega) (by omega) (⟨by rw [hm0]; unfold mat1; rw [if_pos (show ¬ unl S ta tb = 0 from c_44)]; rfl, rfl⟩)
    · skip
      have n_11 : (inP b1 12) = false := bI_f c_11
      refine lv_bipush (v := (-6)) hx hb dX3_match_14 (by decide) ?_
      exact m_iret C w dX3_match_16 (by omega) (by omega) (⟨by unfold sp_match; rw [if_pos (by first | simp [n_4, n_11] | simp [n_4])], rfl⟩)
end
section
/-! the class's world grows: new cells, a new row, a new piece, a tray that gets another holding -/
def mle (M M1 : mp) : Prop := ∀ a e, M a = some e → M1 a = some e
theorem mle_new {M : mp} {q : Nat} {e : va_E} (h : M q = none) : mle M (mu M q e) := fun a x hx => mu_k (m_fr hx h) hx
theorem mle.trans {M M1 M2 : mp} (h : mle M M1) (h2 : mle M1 M2) : mle M M2 := fun a e x => h2 a e (h a e x)
section GRW
variable {y : mY} {h0 : Nat} {A : Ad} {tr : Nat → Nat} {f : Nat → Nat → Int64} {g : Nat → Nat → Option Nat} {S : St} {M M1 : mp}
theorem CW.mono (h : CW y h0 A tr f g S M) (hm : mle M M1) : CW y h0 A tr f g S M1 := by
  obtain ⟨⟨h1, ⟨a2, b2, h2⟩, h3, h4, h5, h6, h7, h8⟩, ⟨k1, k2, k3⟩, h9⟩ := h
  refine ⟨⟨hm _ _ h1, ⟨a2, b2, hm _ _ h2⟩, hm _ _ h3, hm _ _ h4, hm _ _ h5, fun r hr => hm _ _ (h6 r hr), fun q q1 q2 => hm _ _ (h7 q q1 q2), fun t ht => ?_⟩, ⟨fun j hj => hm _ _ (k1 j hj), fun j hj => hm _ _ (k2 j hj), k3⟩, h9⟩
  rcases h8 t ht with q | ⟨q, a3, b3, q3⟩ | q
  · exact Or.inl q
  · exact Or.inr (Or.inl ⟨q, a3, b3, hm _ _ q3⟩)
  · exact Or.inr (Or.inr q)
abbrev adRow (A : Ad) (n q qL qT : Nat) : Ad := (xN A, xT A, xB A, xY A, va_up (xr A) n q, va_up (xn A) (n + 1) qL, va_up (xt A) (n + 1) qT, xp A)
abbrev adPc (A : Ad) (n q : Nat) : Ad := (xN A, xT A, xB A, xY A, xr A, xn A, xt A, va_up (xp A) n q)
def wRow (S : St) (k n : Nat) : St := mkS (sH S) (sO S) (sN S + 1) (va_up (sK S) (sN S) k) (va_up (sZ S) (sN S) n) (va_up (sC S) (sN S) (fun _ => 0)) (sP S) (sS S) (sL S) (sB S) (sF S) (sI S) (sT S)
theorem va_ups {α : Type} {f : Nat → α} {k : Nat} {v : α} : va_up f k v k = v := by simp [va_up]
theorem va_upo {α : Type} {f : Nat → α} {k j : Nat} {v : α} (h : j ≠ k) : va_up f k v j = f j := by simp [va_up, h]
theorem CW.row {c0 : Nat} (hI : Inv c0 S) (h : CW y h0 A tr f g S M) {k n q qL qT : Nat} (hq : M q = some (eO 0 (hF k n 0 qL qT))) (hL : M qL = some (eL y n (fun _ => 0))) (hT : M qT = some (eT y n (fun _ => none))) (dq : ∀ r, r < sN S → xr A r ≠ q) (dL : ∀ j, j ≤ sN S → xn A j ≠ qL) (dT : ∀ j, j ≤ sN S → xt A j ≠ qT) (dX : qT ≠ xT A) : CW y h0 (adRow A (sN S) q qL qT) tr (va_up f (sN S + 1) (fun _ => 0)) (va_up g (sN S + 1) (fun _ => none)) (wRow S k n) M := by
  obtain ⟨⟨h1, h2, h3, h4, h5, h6, h7, h8⟩, ⟨k1, k2, k3⟩, d1, d2, d3, d4, d5⟩ := h
  have n0 : ∀ j, j ≤ sN S → j ≠ sN S + 1 := fun j hj => by omega
  have ez : ∀ j, j ≤ sN S → zz (wRow S k n) j = zz S j := by
    intro j hj
    unfold zz
    by_cases e : j = 0
    · rw [if_pos e, if_pos e]
    · rw [if_neg e, if_neg e]
      exact va_upo (by omega)
  have ez2 : zz (wRow S k n) (sN S + 1) = n := (zz_s _ _).trans va_ups
  have th1 : ∀ z, isTh A S z → isTh (adRow A (sN S) q qL qT) (wRow S k n) z := by
    intro z hz
    rcases hz with ⟨r, hr, e⟩ | hz
    · exact Or.inl ⟨r, Nat.lt_succ_of_lt hr, by rw [e]; exact (va_upo (by omega)).symm⟩
    · exact Or.inr hz
  refine ⟨⟨?_, h2, h3, ?_, h5, fun r hr => ?_, h7, fun t ht => ?_⟩, ⟨fun j hj => ?_, fun j hj => ?_, fun j i z hj hi hz => ?_⟩, fun i j hi hj e => ?_, fun i j hi hj e => ?_, fun j hj => ?_, fun i j hi hj e => ?_, d5⟩
  · have : bF (adRow A (sN S) q qL qT) (wRow S k n) = bF A S := by
      show [_, _, _, va_rf ((sB S).map (va_up (xr A) (sN S) q)), _, _, _] = [_, _, _, va_rf ((sB S).map (xr A)), _, _, _]
      cases hb : sB S with
      | none => rfl
      | some r =>
        have hr := (hI.2.2.2.2.2.2.2.1 r hb).1
        show [_, _, _, Value.ref (va_up (xr A) (sN S) q r), _, _, _] = [_, _, _, Value.ref (xr A r), _, _, _]
        rw [va_upo (by omega)]
        rfl
    rw [this]
    exact h1
  · show M (xB A) = some (eO 0 (hF 0 64 0 (va_up (xn A) (sN S + 1) qL 0) (va_up (xt A) (sN S + 1) qT 0)))
    rw [va_upo (by omega), va_upo (by omega)]
    exact h4
  · have hr : r < sN S + 1 := hr
    show M (va_up (xr A) (sN S) q r) = some (eO 0 (hF (va_up (sK S) (sN S) k r) (va_up (sZ S) (sN S) n r) 0 (va_up (xn A) (sN S + 1) qL (r + 1)) (va_up (xt A) (sN S + 1) qT (r + 1))))
    by_cases e : r = sN S
    · rw [e, va_ups, va_ups, va_ups, va_ups, va_ups]
      exact hq
    · rw [va_upo e, va_upo e, va_upo e, va_upo (by omega), va_upo (by omega)]
      exact h6 r (by omega)
  · rcases h8 t ht with q9 | q9 | ⟨q9, r, hr, e1, e2, e3⟩
    · exact Or.inl q9
    · exact Or.inr (Or.inl q9)
    · exact Or.inr (Or.inr ⟨q9, r, Nat.lt_succ_of_lt hr, e1, (va_upo (by omega)).trans e2, e3.trans (va_upo (by omega)).symm⟩)
  · have hj : j ≤ sN S + 1 := hj
    show M (va_up (xn A) (sN S + 1) qL j) = some (eL y (zz (wRow S k n) j) (va_up f (sN S + 1) (fun _ => 0) j))
    by_cases e : j = sN S + 1
    · rw [e, va_ups, va_ups, ez2]; exact hL
    · rw [va_upo e, va_upo e, ez j (by omega)]; exact k1 j (by omega)
  · have hj : j ≤ sN S + 1 := hj
    show M (va_up (xt A) (sN S + 1) qT j) = some (eT y (zz (wRow S k n) j) (va_up g (sN S + 1) (fun _ => none) j))
    by_cases e : j = sN S + 1
    · rw [e, va_ups, va_ups, ez2]; exact hT
    · rw [va_upo e, va_upo e, ez j (by omega)]; exact k2 j (by omega)
  · have hj : j ≤ sN S + 1 := hj
    by_cases e : j = sN S + 1
    · rw [e, va_ups] at hz; cases hz
    · rw [va_upo e] at hz
      rw [ez j (by omega)] at hi
      exact th1 z (k3 j i z (by omega) hi hz)
  · have hi : i ≤ sN S + 1 := hi
    have hj : j ≤ sN S + 1 := hj
    have e : va_up (xn A) (sN S + 1) qL i = va_up (xn A) (sN S + 1) qL j := e
    by_cases ei : i = sN S + 1 <;> by_cases ej : j = sN S + 1
    · omega
    · rw [ei, va_ups, va_upo ej] at e; exact absurd e.symm (dL j (by omega))
    · rw [ej, va_ups, va_upo ei] at e; exact absurd e (dL i (by omega))
    · rw [va_upo ei, va_upo ej] at e; exact d1 i j (by omega) (by omega) e
  · have hi : i ≤ sN S + 1 := hi
    have hj : j ≤ sN S + 1 := hj
    have e : va_up (xt A) (sN S + 1) qT i = va_up (xt A) (sN S + 1) qT j := e
    by_cases ei : i = sN S + 1 <;> by_cases ej : j = sN S + 1
    · omega
    · rw [ei, va_ups, va_upo ej] at e; exact absurd e.symm (dT j (by omega))
    · rw [ej, va_ups, va_upo ei] at e; exact absurd e (dT i (by omega))
    · rw [va_upo ei, va_upo ej] at e; exact d2 i j (by omega) (by omega) e
  · have hj : j ≤ sN S + 1 := hj
    show va_up (xt A) (sN S + 1) qT j ≠ xT A
    by_cases ej : j = sN S + 1
    · rw [ej, va_ups]; exact dX
    · rw [va_upo ej]; exact d3 j (by omega)
  · have hi : i < sN S + 1 := hi
    have hj : j < sN S + 1 := hj
    have e : va_up (xr A) (sN S) q i = va_up (xr A) (sN S) q j := e
    by_cases ei : i = sN S <;> by_cases ej : j = sN S
    · omega
    · rw [ei, va_ups, va_upo ej] at e; exact absurd e.symm (dq j (by omega))
    · rw [ej, va_ups, va_upo ei] at e; exact absurd e (dq i (by omega))
    · rw [va_upo ei, va_upo ej] at e; exact d4 i j (by omega) (by omega) e
/-- a thing's address doesn't change by a new row or a new piece -/
theorem th_row {c0 : Nat} (hI : Inv c0 S) {k : Nat} {x : Int64} (hv : val S k x) (n q qL qT : Nat) (hn : sN S ≤ n) : th (adRow A n q qL qT) k x = th A k x := by
  have hbd := hI.2.2.1
  have hN := hI.1
  have hP := hI.2.1
  unfold th
  rcases hv with q1 | rfl | ⟨-, -, p, p1, p2, rfl⟩ | ⟨-, r, hr, -, rfl⟩
  · rw [if_pos q1, if_pos q1]
  · rw [if_pos rfl, if_pos rfl]
  · rw [if_neg (lN_nn (by omega)), if_neg (lN_nn (by omega))]
  · rw [if_pos (neg_lt (by omega)), if_pos (neg_lt (by omega)), neg_rN (by omega)]
    show (if k ≤ 9 then none else if _ then none else some (va_up (xr A) n q r)) = _
    rw [va_upo (by omega)]
theorem th_pc {c0 : Nat} (hI : Inv c0 S) {k : Nat} {x : Int64} (hv : val S k x) (n q : Nat) (hn : sP S < n) : th (adPc A n q) k x = th A k x := by
  have hbd := hI.2.2.1
  have hN := hI.1
  have hP := hI.2.1
  unfold th
  rcases hv with q1 | rfl | ⟨-, -, p, p1, p2, rfl⟩ | ⟨-, r, hr, -, rfl⟩
  · rw [if_pos q1, if_pos q1]
  · rw [if_pos rfl, if_pos rfl]
  · rw [if_neg (lN_nn (by omega)), if_neg (lN_nn (by omega)), lN_pN (by omega)]
    show (if k ≤ 9 then none else if _ then none else some (va_up (xp A) n q p)) = _
    rw [va_upo (by omega)]
  · rw [if_pos (neg_lt (by omega)), if_pos (neg_lt (by omega))]
theorem CR.row {c0 : Nat} (hI : Inv c0 S) (h : CR A f g S) (k n q qL qT : Nat) : CR (adRow A (sN S) q qL qT) (va_up f (sN S + 1) (fun _ => 0)) (va_up g (sN S + 1) (fun _ => none)) (wRow S k n) := by
  refine ⟨fun r i hr hi => ?_, fun r i hr hi => ?_⟩
  · have hr : r < sN S + 1 := hr
    have hi : i < va_up (sZ S) (sN S) n r := hi
    show va_up f (sN S + 1) (fun _ => 0) (r + 1) i = nu (va_up (sK S) (sN S) k r) (va_up (sC S) (sN S) (fun _ => 0) r i) ∧ va_up g (sN S + 1) (fun _ => none) (r + 1) i = th _ (va_up (sK S) (sN S) k r) (va_up (sC S) (sN S) (fun _ => 0) r i)
    by_cases e : r = sN S
    · rw [e, va_ups, va_ups, va_ups, va_ups]
      unfold nu th
      refine ⟨by split <;> rfl, ?_⟩
      split
      · rfl
      · rw [if_pos rfl]
    · rw [va_upo e] at hi
      have e1 : va_up f (sN S + 1) (fun _ => 0) (r + 1) = f (r + 1) := va_upo (by omega)
      have e2 : va_up g (sN S + 1) (fun _ => none) (r + 1) = g (r + 1) := va_upo (by omega)
      rw [e1, e2, va_upo e, va_upo e, th_row hI ((hI.2.2.2.1 r (by omega)).2.2.2 i hi) _ _ _ _ (Nat.le_refl _)]
      exact h.1 r i (by omega) hi
  · have hr' := hI.2.2.2.2.2.2.2.1 r hr
    have hi : i < va_up (sZ S) (sN S) n r := hi
    rw [va_upo (by omega)] at hi
    show va_up f (sN S + 1) (fun _ => 0) 0 i = nu (va_up (sK S) (sN S) k r) (sF S i) ∧ va_up g (sN S + 1) (fun _ => none) 0 i = th _ (va_up (sK S) (sN S) k r) (sF S i)
    have e1 : va_up f (sN S + 1) (fun _ => 0) 0 = f 0 := va_upo (by omega)
    have e2 : va_up g (sN S + 1) (fun _ => none) 0 = g 0 := va_upo (by omega)
    have e3 : va_up (sK S) (sN S) k r = sK S r := va_upo (by omega)
    rw [e1, e2, e3, th_row hI (hr'.2 i hi) _ _ _ _ (Nat.le_refl _)]
    exact h.2 r i hr hi
/-- a tray gets another holding -/
theorem CW.tray (h : CW y h0 A tr f g S M) {t z k : Nat} {x : Int32} (ht : t < 12) (hz : (k = 0 ∧ z = xN A) ∨ (k = 1 ∧ ∃ a b, M z = some (eO 0 (hF 1 0 x a b))) ∨ (2 ≤ k ∧ ∃ r, r < sN S ∧ x = nI r ∧ sK S r = k ∧ z = xr A r)) : CW y h0 A (va_up tr t z) f g (wTr S (va_up (sH S) t k) (va_up (sO S) t x)) (mu M (xT A) (eH y 12 (va_up (fun t => some (tr t)) t (some z)))) := by
  obtain ⟨⟨h1, ⟨a2, b2, h2⟩, h3, h4, h5, h6, h7, h8⟩, ⟨k1, k2, k3⟩, h9⟩ := h
  have ef : va_up (fun t => some (tr t)) t (some z) = fun j => some (va_up tr t z j) := by
    funext j
    by_cases e : j = t
    · rw [e, va_ups, va_ups]
    · rw [va_upo e, va_upo e]
  have hO : ∀ {q ci : Nat} {fs : List Value}, M q = some (eO ci fs) → mu M (xT A) (eH y 12 (va_up (fun t => some (tr t)) t (some z))) q = some (eO ci fs) := fun hq => mu_k (m_ne hq h3 ne_OA) hq
  refine ⟨⟨hO h1, ⟨a2, b2, hO h2⟩, by rw [ef]; exact mu_s, hO h4, mu_k (m_ne h5 h3 ne_IH) h5, fun r hr => hO (h6 r hr), fun q q1 q2 => hO (h7 q q1 q2), fun j hj => ?_⟩, ⟨fun j hj => mu_k (m_ne (k1 j hj) h3 ne_LH) (k1 j hj), fun j hj => mu_k (h9.2.2.1 j hj) (k2 j hj), k3⟩, h9⟩
  show (va_up (sH S) t k j = 0 ∧ va_up tr t z j = xN A) ∨ (va_up (sH S) t k j = 1 ∧ ∃ a b, mu M (xT A) (eH y 12 (va_up (fun t => some (tr t)) t (some z))) (va_up tr t z j) = some (eO 0 (hF 1 0 (va_up (sO S) t x j) a b))) ∨ (2 ≤ va_up (sH S) t k j ∧ ∃ r, r < sN S ∧ va_up (sO S) t x j = nI r ∧ sK S r = va_up (sH S) t k j ∧ va_up tr t z j = xr A r)
  by_cases e : j = t
  · rw [e, va_ups, va_ups, va_ups]
    rcases hz with q | ⟨q, a, b, q3⟩ | q
    · exact Or.inl q
    · exact Or.inr (Or.inl ⟨q, a, b, hO q3⟩)
    · exact Or.inr (Or.inr q)
  · rw [va_upo e, va_upo e, va_upo e]
    rcases h8 j hj with q | ⟨q, a, b, q3⟩ | q
    · exact Or.inl q
    · exact Or.inr (Or.inl ⟨q, a, b, hO q3⟩)
    · exact Or.inr (Or.inr q)
/-- a new piece -/
theorem CW.piece {c0 : Nat} (hI : Inv c0 S) (h : CW y h0 A tr f g S M) {q j : Nat} (hq : M q = some (eO 1 [.int (nI (j + 1)), .int (nI (sP S + 1)), .int 0])) (dq : ∀ k, 1 ≤ k → k ≤ sP S → xp A k ≠ q) : CW y h0 (adPc A (sP S + 1) q) tr f g (wPc S (sP S + 1) (va_up (sS S) (sP S + 1) j)) (mu M h0 (eO 2 (bF A (wPc S (sP S + 1) (va_up (sS S) (sP S + 1) j))))) := by
  obtain ⟨⟨h1, ⟨a2, b2, h2⟩, h3, h4, h5, h6, h7, h8⟩, ⟨k1, k2, k3⟩, d1, d2, d3, d4, d5⟩ := h
  have th1 : ∀ z, isTh A S z → isTh (adPc A (sP S + 1) q) (wPc S (sP S + 1) (va_up (sS S) (sP S + 1) j)) z := by
    intro z hz
    rcases hz with hz | ⟨p, p1, p2, e⟩
    · exact Or.inl hz
    · exact Or.inr ⟨p, p1, Nat.le_succ_of_le p2, by rw [e]; exact (va_upo (by omega)).symm⟩
  refine ⟨⟨mu_s, ⟨a2, b2, mu_k (m_ne h2 h1 (by simp)) h2⟩, mu_k (m_ne h3 h1 (by simp)) h3, mu_k (m_ne h4 h1 (by simp)) h4, mu_k (m_ne h5 h1 (by simp)) h5, fun r hr => mu_k (m_ne (h6 r hr) h1 (by simp)) (h6 r hr), fun p p1 p2 => ?_, fun t ht => ?_⟩, ⟨fun j hj => mu_k (m_ne (k1 j hj) h1 (by simp)) (k1 j hj), fun j hj => mu_k (m_ne (k2 j hj) h1 (by simp)) (k2 j hj), fun a i z ha hi hz => th1 z (k3 a i z ha hi hz)⟩, d1, d2, d3, d4, fun a b a1 a2 b1 b2 e => ?_⟩
  · have p2 : p ≤ sP S + 1 := p2
    show mu M h0 _ (va_up (xp A) (sP S + 1) q p) = some (eO 1 [.int (nI (va_up (sS S) (sP S + 1) j p + 1)), .int (nI p), .int (sL S p)])
    by_cases e : p = sP S + 1
    · rw [e, va_ups, va_ups, hI.2.2.2.2.2.1 (sP S + 1) (by omega)]
      exact mu_k (m_ne hq h1 (by simp)) hq
    · rw [va_upo e, va_upo e]
      exact mu_k (m_ne (h7 p p1 (by omega)) h1 (by simp)) (h7 p p1 (by omega))
  · rcases h8 t ht with q | ⟨q, a3, b3, q3⟩ | q
    · exact Or.inl q
    · exact Or.inr (Or.inl ⟨q, a3, b3, mu_k (m_ne q3 h1 (by simp)) q3⟩)
    · exact Or.inr (Or.inr q)
  · have a2 : a ≤ sP S + 1 := a2
    have b2 : b ≤ sP S + 1 := b2
    have e : va_up (xp A) (sP S + 1) q a = va_up (xp A) (sP S + 1) q b := e
    by_cases ei : a = sP S + 1 <;> by_cases ej : b = sP S + 1
    · omega
    · rw [ei, va_ups, va_upo ej] at e; exact absurd e.symm (dq b b1 (by omega))
    · rw [ej, va_ups, va_upo ei] at e; exact absurd e (dq a a1 (by omega))
    · rw [va_upo ei, va_upo ej] at e; exact d5 a b a1 (by omega) b1 (by omega) e
theorem CR.piece {c0 : Nat} (hI : Inv c0 S) (h : CR A f g S) (q j : Nat) : CR (adPc A (sP S + 1) q) f g (wPc S (sP S + 1) (va_up (sS S) (sP S + 1) j)) := by
  refine ⟨fun r i hr hi => ?_, fun r i hr hi => ?_⟩
  · show f (r + 1) i = nu (sK S r) (sC S r i) ∧ g (r + 1) i = th (adPc A (sP S + 1) q) (sK S r) (sC S r i)
    rw [th_pc (A := A) hI ((hI.2.2.2.1 r hr).2.2.2 i hi) _ _ (by omega)]
    exact h.1 r i hr hi
  · show f 0 i = nu (sK S r) (sF S i) ∧ g 0 i = th (adPc A (sP S + 1) q) (sK S r) (sF S i)
    rw [th_pc (A := A) hI ((hI.2.2.2.2.2.2.2.1 r hr).2 i hi) _ _ (by omega)]
    exact h.2 r i hr hi
end GRW
end
section
/-! what holds of a bench stays -/
theorem Inv.up {c c' : Nat} {S : St} (h : Inv c S) (h1 : c ≤ c') (h2 : c' ≤ 512) : Inv c' S := by
  obtain ⟨a1, a2, -, a4⟩ := h
  exact ⟨Nat.le_trans a1 h1, Nat.le_trans a2 h1, h2, a4⟩
theorem val_row {S : St} {k : Nat} {x : Int64} (h : val S k x) (kk n : Nat) : val (wRow S kk n) k x := by
  rcases h with q | q | q | ⟨q, r, hr, e, ex⟩
  · exact Or.inl q
  · exact Or.inr (Or.inl q)
  · exact Or.inr (Or.inr (Or.inl q))
  · exact Or.inr (Or.inr (Or.inr ⟨q, r, Nat.lt_succ_of_lt hr, (va_upo (by omega)).trans e, ex⟩))
theorem val_pc {S : St} {k : Nat} {x : Int64} (h : val S k x) (so : Nat → Nat) : val (wPc S (sP S + 1) so) k x := by
  rcases h with q | q | ⟨q, q2, p, p1, p2, e⟩ | q
  · exact Or.inl q
  · exact Or.inr (Or.inl q)
  · exact Or.inr (Or.inr (Or.inl ⟨q, q2, p, p1, Nat.le_succ_of_le p2, e⟩))
  · exact Or.inr (Or.inr (Or.inr q))
theorem inv_row {c : Nat} {S : St} (h : Inv c S) (hc : c + 1 ≤ 512) {k n : Nat} (hk : 2 ≤ k) (hk2 : k ≤ 13) (hn : n ≤ 64) : Inv (c + 1) (wRow S k n) := by
  obtain ⟨h1, h2, h3, h4, h5, h6, h7, h8, h9⟩ := h
  refine ⟨Nat.succ_le_succ h1, Nat.le_succ_of_le h2, hc, fun r hr => ?_, h5, h6, fun t ht => ⟨(h7 t ht).1, fun q => ?_⟩, fun r hr => ?_, h9⟩
  · have hr : r < sN S + 1 := hr
    show 2 ≤ va_up (sK S) (sN S) k r ∧ va_up (sK S) (sN S) k r ≤ 13 ∧ va_up (sZ S) (sN S) n r ≤ 64 ∧ ∀ i, i < va_up (sZ S) (sN S) n r → val (wRow S k n) (va_up (sK S) (sN S) k r) (va_up (sC S) (sN S) (fun _ => 0) r i)
    by_cases e : r = sN S
    · rw [e, va_ups, va_ups, va_ups]
      exact ⟨hk, hk2, hn, fun _ _ => Or.inr (Or.inl rfl)⟩
    · rw [va_upo e, va_upo e, va_upo e]
      have q := h4 r (by omega)
      exact ⟨q.1, q.2.1, q.2.2.1, fun i hi => val_row (q.2.2.2 i hi) k n⟩
  · obtain ⟨r, hr, e1, e2⟩ := (h7 t ht).2 q
    exact ⟨r, Nat.lt_succ_of_lt hr, e1, (va_upo (by omega)).trans e2⟩
  · obtain ⟨q1, q2⟩ := h8 r hr
    refine ⟨Nat.lt_succ_of_lt q1, fun i hi => ?_⟩
    have hi : i < va_up (sZ S) (sN S) n r := hi
    show val (wRow S k n) (va_up (sK S) (sN S) k r) (sF S i)
    rw [va_upo (by omega)] at hi ⊢
    exact val_row (q2 i hi) k n
theorem inv_tr {c : Nat} {S : St} (h : Inv c S) {t k : Nat} {x : Int32} (hk : k ≤ 13) (hr : 2 ≤ k → ∃ r, r < sN S ∧ x = nI r ∧ sK S r = k) : Inv c (wTr S (va_up (sH S) t k) (va_up (sO S) t x)) := by
  obtain ⟨h1, h2, h3, h4, h5, h6, h7, h8, h9⟩ := h
  refine ⟨h1, h2, h3, h4, h5, h6, fun j hj => ?_, h8, h9⟩
  show va_up (sH S) t k j ≤ 13 ∧ (2 ≤ va_up (sH S) t k j → ∃ r, r < sN S ∧ va_up (sO S) t x j = nI r ∧ sK S r = va_up (sH S) t k j)
  by_cases e : j = t
  · rw [e, va_ups, va_ups]; exact ⟨hk, hr⟩
  · rw [va_upo e, va_upo e]; exact h7 j hj
theorem inv_pc {c : Nat} {S : St} (h : Inv c S) (hc : c + 1 ≤ 512) {j : Nat} (h1 : 1 ≤ j) (h2 : j ≤ 4) : Inv (c + 1) (wPc S (sP S + 1) (va_up (sS S) (sP S + 1) j)) := by
  obtain ⟨a1, a2, a3, a4, a5, a6, a7, a8, a9⟩ := h
  refine ⟨Nat.le_succ_of_le a1, Nat.succ_le_succ a2, hc, fun r hr => ?_, fun k k1 k2 => ?_, fun k hk => a6 k (Nat.lt_of_succ_lt hk), a7, fun r hr => ⟨(a8 r hr).1, fun i hi => val_pc ((a8 r hr).2 i hi) _⟩, a9⟩
  · have q := a4 r hr
    exact ⟨q.1, q.2.1, q.2.2.1, fun i hi => val_pc (q.2.2.2 i hi) _⟩
  · have k2 : k ≤ sP S + 1 := k2
    show 1 ≤ va_up (sS S) (sP S + 1) j k ∧ va_up (sS S) (sP S + 1) j k ≤ 4
    by_cases e : k = sP S + 1
    · rw [e, va_ups]; exact ⟨h1, h2⟩
    · rw [va_upo e]; exact a5 k k1 (by omega)
theorem inv_rc {c : Nat} {S : St} (h : Inv c S) {cc : Nat → Nat → Int64} (hv : ∀ r i, r < sN S → i < sZ S r → val S (sK S r) (cc r i)) : Inv c (wRC S cc) := by
  obtain ⟨h1, h2, h3, h4, h5, h6, h7, h8, h9⟩ := h
  exact ⟨h1, h2, h3, fun r hr => ⟨(h4 r hr).1, (h4 r hr).2.1, (h4 r hr).2.2.1, fun i hi => hv r i hr hi⟩, h5, h6, h7, h8, h9⟩
/-- one row's contents change -/
theorem inv_rc1 {c : Nat} {S : St} (h : Inv c S) {r : Nat} {z : Nat → Int64} (hv : ∀ i, i < sZ S r → val S (sK S r) (z i)) : Inv c (wRC S (va_up (sC S) r z)) := by
  refine inv_rc h (fun q i hq hi => ?_)
  by_cases e : q = r
  · rw [e, va_ups]; rw [e] at hi; exact hv i hi
  · rw [va_upo e]; exact (h.2.2.2.1 q hq).2.2.2 i hi
theorem inv_po {c : Nat} {S : St} (h : Inv c S) {p : Nat} (hp : p ≤ sP S) (z : Int32) : Inv c (wPo S (va_up (sL S) p z)) := by
  obtain ⟨h1, h2, h3, h4, h5, h6, h7, h8, h9⟩ := h
  exact ⟨h1, h2, h3, h4, h5, fun k hk => (va_upo (Nat.ne_of_gt (Nat.lt_of_le_of_lt hp hk))).trans (h6 k hk), h7, h8, h9⟩
theorem inv_ct {c : Nat} {S : St} (h : Inv c S) (t : Nat → Int32) : Inv c (wCt S t) := h
theorem inv_tell {c : Nat} {S : St} (h : Inv c S) (x : Int32) : Inv c (tell S x) := inv_ct h _
theorem inv_bn {c : Nat} {S : St} (h : Inv c S) (b : Nat → Int64) : Inv c (wBf S none b) := by
  obtain ⟨h1, h2, h3, h4, h5, h6, h7, h8, h9⟩ := h
  exact ⟨h1, h2, h3, h4, h5, h6, h7, fun r hr => (by cases hr), h9⟩
theorem val_gs {S : St} {c : Nat} (hI : Inv c S) {ka kb : Nat} {x : Int64} (hv : val S ka x) (hg : gs S kb x = true) (ha : 2 ≤ ka) (hb : 2 ≤ kb ∧ kb ≤ 13) (hu : ¬ ((isN ka || isN kb) = true ∧ ka ≠ kb)) : val S kb x := by
  by_cases e : ka = kb
  · rw [← e]; exact hv
  · have h1 : ¬ ka ≤ 9 := fun h => hu ⟨by simp [isN]; omega, e⟩
    have h2 : ¬ kb ≤ 9 := fun h => hu ⟨by simp [isN]; omega, e⟩
    have hn : isN kb = false := by
      cases hh : isN kb with
      | false => rfl
      | true => exact absurd ⟨by simp [hh], e⟩ hu
    have hbd := hI.2.2.1
    have hN := hI.1
    have hP := hI.2.1
    rcases hv with q | q | ⟨-, -, p, p1, p2, rfl⟩ | ⟨-, r, hr, e2, rfl⟩
    · exact absurd q h1
    · exact Or.inr (Or.inl q)
    · refine Or.inr (Or.inr (Or.inl ⟨by omega, ?_, p, p1, p2, rfl⟩))
      refine Classical.byContradiction fun q => ?_
      have e13 : kb = 13 := by omega
      unfold gs at hg
      rw [hn, e13] at hg
      have a1 := lN_nn (p := p) (by omega)
      have a2 := lN_ne (p := p) (by omega) p1
      simp [a1, a2] at hg
    · refine Or.inr (Or.inr (Or.inr ⟨?_, r, hr, e2, rfl⟩))
      refine Classical.byContradiction fun q => ?_
      unfold gs at hg
      rw [hn] at hg
      have a1 := neg_lt (r := r) (by omega)
      have a2 := neg_ne (r := r) (by omega)
      simp [a1, a2, q] at hg
theorem md5_lt (v : Int32) : md5 v < 5 := by
  unfold md5
  omega
theorem isN_t {k : Nat} (h : isN k = true) : 2 ≤ k ∧ k ≤ 9 := by
  unfold isN at h
  simp at h
  exact h
theorem isN_f {k : Nat} (h : isN k = false) (h2 : 2 ≤ k) : 10 ≤ k := by
  unfold isN at h
  simp at h
  omega
theorem inv_thg {c : Nat} {S : St} (h : Inv c S) (hc : c + 1 ≤ 512) {k : Nat} (hk : 2 ≤ k) (hk2 : k ≤ 13) (v : Int32) : Inv (c + 1) (thg S k v).2 ∧ val (thg S k v).2 k (thg S k v).1 := by
  have hu := h.up (Nat.le_succ c) hc
  unfold thg
  by_cases h1 : isN k = true
  · rw [if_pos h1]
    exact ⟨hu, Or.inl (isN_t h1).2⟩
  · rw [if_neg h1]
    have h10 := isN_f (by simpa using h1) hk
    by_cases h2 : k = 13
    · rw [if_pos h2]
      refine ⟨hu, ?_⟩
      show val S k (if _ then _ else _)
      by_cases h3 : (inP v 12 && decide (sH S (cN v) = 6)) = true
      · rw [if_pos h3]
        simp only [Bool.and_eq_true, decide_eq_true_eq] at h3
        obtain ⟨t, ht, rfl⟩ := inP_t (by decide) h3.1
        rw [cN_nI (by omega)] at h3 ⊢
        obtain ⟨r, hr, e1, e2⟩ := (h.2.2.2.2.2.2.1 t ht).2 (by omega)
        have hb1 := h.1
        rw [e1, nI_l (by omega)]
        exact Or.inr (Or.inr (Or.inr ⟨h2, r, hr, by omega, rfl⟩))
      · rw [if_neg h3]
        exact Or.inr (Or.inl rfl)
    · rw [if_neg h2]
      unfold mkP
      by_cases h3 : md5 v = 0
      · rw [if_pos h3]
        exact ⟨hu, Or.inr (Or.inl rfl)⟩
      · rw [if_neg h3]
        have h5 := md5_lt v
        exact ⟨inv_pc h hc (by omega) (by omega), Or.inr (Or.inr (Or.inl ⟨by omega, by omega, sP S + 1, by omega, Nat.le_refl _, rfl⟩))⟩
theorem thg_H (S : St) (k : Nat) (v : Int32) : sH (thg S k v).2 = sH S ∧ sO (thg S k v).2 = sO S ∧ sN (thg S k v).2 = sN S ∧ sK (thg S k v).2 = sK S ∧ sZ (thg S k v).2 = sZ S ∧ sC (thg S k v).2 = sC S := by
  unfold thg
  by_cases h1 : isN k = true
  · rw [if_pos h1]; exact ⟨rfl, rfl, rfl, rfl, rfl, rfl⟩
  · rw [if_neg h1]
    by_cases h2 : k = 13
    · rw [if_pos h2]; exact ⟨rfl, rfl, rfl, rfl, rfl, rfl⟩
    · rw [if_neg h2]
      unfold mkP
      by_cases h3 : md5 v = 0
      · rw [if_pos h3]; exact ⟨rfl, rfl, rfl, rfl, rfl, rfl⟩
      · rw [if_neg h3]; exact ⟨rfl, rfl, rfl, rfl, rfl, rfl⟩
/-! the calls keep it -/
theorem inv_lay {c : Nat} {S : St} (h : Inv c S) (hc : c + 1 ≤ 512) (t k n : Int32) : Inv (c + 1) (sp_lay S t k n).2 := by
  unfold sp_lay
  by_cases h1 : (inP t 12 && (kin k && inP n 65)) = true
  · rw [if_pos h1]
    simp only [Bool.and_eq_true] at h1
    obtain ⟨j, hj, rfl⟩ := inP_t (by decide) h1.2.2
    have hk := h1.2.1
    unfold kin at hk
    simp only [Bool.and_eq_true, Bool.not_eq_true', decide_eq_false_iff_not] at hk
    obtain ⟨kk, hkk, rfl⟩ := nI_of2 (M := 13) (n := 13) rfl (fun q => hk.1 (Int32.lt_trans q (by decide))) (Int32.not_lt.mp hk.2)
    have h2 : ¬ kk < 2 := fun q => hk.1 ((nI_ltI (b := 2) (by omega) (by decide)).mpr q)
    have e1 : cN (nI kk) = kk := cN_nI (by omega)
    have e2 : cN (nI j) = j := cN_nI (by omega)
    rw [e1, e2]
    refine inv_tr (S := wRow S kk j) (inv_row h hc (by omega) hkk (by omega)) hkk (fun _ => ⟨sN S, Nat.lt_succ_self _, rfl, va_ups⟩)
  · rw [if_neg h1]
    exact h.up (Nat.le_succ c) hc
theorem inv_ticket {c : Nat} {S : St} (h : Inv c S) (hc : c + 1 ≤ 512) (t k n : Int32) : Inv (c + 1) (sp_ticket S t k n).2 := by
  unfold sp_ticket
  by_cases h1 : (inP t 12 && inP k 2) = true
  · rw [if_pos h1]
    simp only [Bool.and_eq_true] at h1
    obtain ⟨j, hj, rfl⟩ := inP_t (by decide) h1.2
    rw [cN_nI (n := j) (by omega)]
    exact inv_tr (h.up (Nat.le_succ c) hc) (by omega) (fun q => by omega)
  · rw [if_neg h1]
    exact h.up (Nat.le_succ c) hc
theorem inv_share {c : Nat} {S : St} (h : Inv c S) (hc : c + 1 ≤ 512) (a t : Int32) : Inv (c + 1) (sp_share S a t).2 := by
  unfold sp_share
  by_cases h1 : (inP a 12 && inP t 12) = true
  · rw [if_pos h1]
    simp only [Bool.and_eq_true] at h1
    obtain ⟨j, hj, rfl⟩ := inP_t (by decide) h1.1
    rw [cN_nI (n := j) (by omega)]
    have q := h.2.2.2.2.2.2.1 j hj
    exact inv_tr (h.up (Nat.le_succ c) hc) q.1 q.2
  · rw [if_neg h1]
    exact h.up (Nat.le_succ c) hc
theorem inv_put {c : Nat} {S : St} (h : Inv c S) (hc : c + 1 ≤ 512) (t i v : Int32) : Inv (c + 1) (sp_put S t i v).2 := by
  have hu := h.up (Nat.le_succ c) hc
  unfold sp_put
  by_cases h1 : inP t 12 = false
  · rw [if_pos h1]; exact hu
  · rw [if_neg h1]
    obtain ⟨tt, ht, rfl⟩ := inP_t (i := t) (n := 12) (by decide) (by simpa using h1)
    rw [cN_nI (n := tt) (by omega)]
    by_cases h2 : sH S tt < 2
    · rw [if_pos h2]; exact hu
    · rw [if_neg h2]
      have hk := h.2.2.2.2.2.2.1 tt ht
      obtain ⟨g1, g2⟩ := inv_thg h hc (k := sH S tt) (by omega) hk.1 v
      have e := thg_H S (sH S tt) v
      unfold put1
      by_cases h3 : inP i (zT (thg S (sH S tt) v).2 tt) = false
      · rw [if_pos h3]; exact g1
      · rw [if_neg h3]
        by_cases h4 : gs (thg S (sH S tt) v).2 (sH (thg S (sH S tt) v).2 tt) (thg S (sH S tt) v).1 = false
        · rw [if_pos h4]; exact g1
        · rw [if_neg h4]
          refine inv_rc1 g1 (fun j hj => ?_)
          have hr := rowT_eq g1 ht (by rw [e.1]; omega)
          by_cases ej : j = cN i
          · rw [ej, va_ups, hr.2, e.1]; exact g2
          · rw [va_upo ej]; exact (g1.2.2.2.1 _ hr.1).2.2.2 j hj
theorem inv_movd {c : Nat} {S : St} (h : Inv c S) {a b : Nat} (ha : a < 12) (hb : b < 12) (p q n : Int32) : Inv c (movd S a p b q n).2 := by
  unfold movd
  by_cases h1 : ¬ unl S a b = 0
  · rw [if_pos h1]; exact h.fl (by omega)
  · rw [if_neg h1]
    by_cases h2 : (hpl p n (zT S a) && hpl q n (zT S b)) = false
    · rw [if_pos h2]; exact h.fl (by omega)
    · rw [if_neg h2]
      have h2 : (hpl p n (zT S a) && hpl q n (zT S b)) = true := by simpa using h2
      simp only [Bool.and_eq_true] at h2
      obtain ⟨pp, nn, rfl, rfl, hpn⟩ := hpl_t (zT_le h ha) h2.1
      obtain ⟨qq, n2, rfl, en, hqn⟩ := hpl_t (zT_le h hb) h2.2
      have hza := zT_le h ha
      have hzb := zT_le h hb
      obtain ⟨h2a, h2b, hcm⟩ := unlK_0 (show unlK (sH S a) (sH S b) = 0 from Classical.not_not.mp h1)
      have ra := rowT_eq h ha h2a
      have rb := rowT_eq h hb h2b
      have hzA : zT S a = sZ S (rowT S a) := by unfold zT; rw [if_pos h2a]
      rw [cN_nI (n := pp) (by omega), cN_nI (n := qq) (by omega), cN_nI (n := nn) (by omega)]
      have hK := ld_le (fun k => gs S (sH S b) (sC S (rowT S a) (pp + k))) nn
      refine Inv.fl (S := mvR S a pp b qq (mvK S a pp b nn)) ?_ (Nat.le_trans hK (by omega))
      refine inv_rc1 h (fun j hj => ?_)
      by_cases e : qq ≤ j ∧ j < qq + mvK S a pp b nn
      · rw [if_pos e]
        have hlt : j - qq < mvK S a pp b nn := by omega
        have hg := ld_all (P := fun k => gs S (sH S b) (sC S (rowT S a) (pp + k))) (n := nn) hlt
        have hKn : mvK S a pp b nn ≤ nn := hK
        rw [rb.2]
        refine val_gs h ((h.2.2.2.1 _ ra.1).2.2.2 (pp + (j - qq)) (by omega)) hg (by omega) ⟨h2b, (h.2.2.2.2.2.2.1 b hb).1⟩ (by rw [ra.2]; exact hcm)
      · rw [if_neg e]
        exact (h.2.2.2.1 _ rb.1).2.2.2 j hj
theorem inv_move {c : Nat} {S : St} (h : Inv c S) (hc : c + 1 ≤ 512) (a p b q n : Int32) : Inv (c + 1) (sp_move S a p b q n).2 := by
  have hu := h.up (Nat.le_succ c) hc
  unfold sp_move
  by_cases h1 : (inP a 12 && inP b 12) = false
  · rw [if_pos h1]; exact hu
  · rw [if_neg h1]
    have h1 : (inP a 12 && inP b 12) = true := by simpa using h1
    simp only [Bool.and_eq_true] at h1
    obtain ⟨ta, hta, rfl⟩ := inP_t (by decide) h1.1
    obtain ⟨tb, htb, rfl⟩ := inP_t (by decide) h1.2
    rw [cN_nI (n := ta) (by omega), cN_nI (n := tb) (by omega)]
    exact inv_tell (inv_movd (inv_kep hu htb) hta htb p q n) _
theorem inv_open {c : Nat} {S : St} (h : Inv c S) (hc : c + 1 ≤ 512) (t i n : Int32) : Inv (c + 1) (sp_open S t i n).2 := by
  unfold sp_open
  by_cases h1 : inP t 12 = false
  · rw [if_pos h1]; exact h.up (Nat.le_succ c) hc
  · rw [if_neg h1]; exact inv_move h hc _ _ _ _ _
theorem inv_close {c : Nat} {S : St} (h : Inv c S) (hc : c + 1 ≤ 512) (t i n : Int32) : Inv (c + 1) (sp_close S t i n).2 := by
  unfold sp_close
  by_cases h1 : inP t 12 = false
  · rw [if_pos h1]; exact h.up (Nat.le_succ c) hc
  · rw [if_neg h1]; exact inv_move h hc _ _ _ _ _
theorem inv_turn {c : Nat} {S : St} (h : Inv c S) (hc : c + 1 ≤ 512) (t k : Int32) : Inv (c + 1) (sp_turn S t k).2 := by
  have hu := h.up (Nat.le_succ c) hc
  unfold sp_turn
  by_cases h1 : inP t 12 = false
  · rw [if_pos h1]; exact hu
  · rw [if_neg h1]
    obtain ⟨tt, ht, rfl⟩ := inP_t (i := t) (n := 12) (by decide) (by simpa using h1)
    rw [cN_nI (n := tt) (by omega)]
    unfold turn1
    by_cases h2 : sH S tt < 2
    · rw [if_pos h2]; exact inv_tell (inv_kep hu ht) _
    · rw [if_neg h2, kep_row (by omega)]
      have hk := inv_kep hu ht
      rw [kep_row (by omega)] at hk
      have hr := rowT_eq hu ht (by omega)
      have hz : zT S tt = sZ S (rowT S tt) := by unfold zT; rw [if_pos (by omega)]
      refine inv_tell (inv_rc1 hk (fun j hj => ?_)) _
      have hj : j < sZ S (rowT S tt) := hj
      refine (hu.2.2.2.1 _ hr.1).2.2.2 _ ?_
      rw [tiK_eq k (by omega), hz]
      exact Nat.mod_lt _ (by omega)
theorem inv_spread {c : Nat} {S : St} (h : Inv c S) (hc : c + 1 ≤ 512) (t n : Int32) : Inv (c + 1) (sp_spread S t n).2 := by
  have hu := h.up (Nat.le_succ c) hc
  unfold sp_spread
  by_cases h1 : inP t 12 = false
  · rw [if_pos h1]; exact hu
  · rw [if_neg h1]
    obtain ⟨tt, ht, rfl⟩ := inP_t (i := t) (n := 12) (by decide) (by simpa using h1)
    rw [cN_nI (n := tt) (by omega)]
    unfold spr1
    by_cases h2 : sH S tt < 2
    · rw [if_pos h2]; exact inv_tell (inv_kep hu ht) _
    · rw [if_neg h2]
      by_cases h3 : (!decide (n < 1) && !decide (nI (zT S tt) < n)) = false
      · rw [if_pos h3]; exact inv_tell (inv_kep hu ht) _
      · rw [if_neg h3, kep_row (by omega)]
        have hk := inv_kep hu ht
        rw [kep_row (by omega)] at hk
        have hr := rowT_eq hu ht (by omega)
        refine inv_tell (inv_rc1 hk (fun j hj => ?_)) _
        have hj : j < sZ S (rowT S tt) := hj
        refine (hu.2.2.2.1 _ hr.1).2.2.2 _ ?_
        by_cases e : j < cN n
        · rw [if_pos e]; exact hj
        · rw [if_neg e]; exact Nat.lt_of_le_of_lt (Nat.mod_le _ _) hj
theorem inv_undo {c : Nat} {S : St} (h : Inv c S) (hc : c + 1 ≤ 512) : Inv (c + 1) (sp_undo S).2 := by
  have hu := h.up (Nat.le_succ c) hc
  unfold sp_undo
  cases hb : sB S with
  | none => exact hu
  | some r => exact inv_bn (inv_rc1 hu (hu.2.2.2.2.2.2.2.1 r hb).2) _
theorem inv_polish {c : Nat} {S : St} (h : Inv c S) (hc : c + 1 ≤ 512) (t i m : Int32) : Inv (c + 1) (sp_polish S t i m).2 := by
  have hu := h.up (Nat.le_succ c) hc
  unfold sp_polish
  by_cases h1 : inP t 12 = false
  · rw [if_pos h1]; exact hu
  · rw [if_neg h1]
    obtain ⟨tt, ht, rfl⟩ := inP_t (i := t) (n := 12) (by decide) (by simpa using h1)
    rw [cN_nI (n := tt) (by omega)]
    unfold pol1
    by_cases h2 : sH S tt < 2
    · rw [if_pos h2]; exact hu
    · rw [if_neg h2]
      by_cases h3 : (isN (sH S tt) || decide (sH S tt = 13)) = true
      · rw [if_pos h3]; exact hu
      · rw [if_neg h3]
        by_cases h4 : inP i (zT S tt) = false
        · rw [if_pos h4]; exact hu
        · rw [if_neg h4]
          by_cases h5 : atx S tt i = 0
          · rw [if_pos h5]; exact hu
          · rw [if_neg h5]
            refine inv_po hu ?_ _
            have hz : zT S tt = sZ S (rowT S tt) := by unfold zT; rw [if_pos (by omega)]
            have hr := rowT_eq hu ht (by omega)
            obtain ⟨j, hj, rfl⟩ := inP_t (by have := zT_le hu ht; omega) (show inP i (zT S tt) = true by simpa using h4)
            have hv := (hu.2.2.2.1 _ hr.1).2.2.2 j (by omega)
            have ea : atx S tt (nI j) = sC S (rowT S tt) j := by unfold atx; rw [cN_nI (by have := zT_le hu ht; omega)]
            rw [ea] at h5 ⊢
            simp only [Bool.or_eq_true, decide_eq_true_eq, not_or] at h3
            rcases hv with q | q | ⟨-, -, p, p1, p2, e⟩ | ⟨q, -⟩
            · exact absurd (by unfold isN; simp; omega) h3.1
            · exact absurd q h5
            · have := hu.2.1; have := hu.2.2.1
              rw [e, lN_pN (by omega)]; exact p2
            · omega
end
section
def mkPj (S : St) (j : Nat) : Int64 × St := if j = 0 then (0, S) else (lN (sP S + 1), wPc S (sP S + 1) (va_up (sS S) (sP S + 1) j))
theorem th_k {A : Ad} {k : Nat} (h : 10 ≤ k) (x : Int64) : th A k x = th A 10 x := by
  unfold th
  rw [if_neg (show ¬ k ≤ 9 by omega), if_neg (show ¬ 10 ≤ 9 by omega)]
theorem th_9 {A : Ad} {k : Nat} (h : k ≤ 9) (x : Int64) : th A k x = none := by
  unfold th
  rw [if_pos h]
theorem CR.set {A : Ad} {f : Nat → Nat → Int64} {g : Nat → Nat → Option Nat} {S : St} (h : CR A f g S) (r i : Nat) (x : Int64) : CR A (up2 f (r + 1) i (nu (sK S r) x)) (up2 g (r + 1) i (th A (sK S r) x)) (pRC S r i x) := by
  refine ⟨fun q j hq hj => ?_, fun q j hq hj => ?_⟩
  · show up2 f (r + 1) i (nu (sK S r) x) (q + 1) j = nu (sK S q) (va_up (sC S) r (va_up (sC S r) i x) q j) ∧ up2 g (r + 1) i (th A (sK S r) x) (q + 1) j = th A (sK S q) (va_up (sC S) r (va_up (sC S r) i x) q j)
    by_cases e : q = r
    · by_cases e2 : j = i
      · rw [e, e2, up2_s, up2_s, va_ups, va_ups]; exact ⟨rfl, rfl⟩
      · rw [up2_o (Or.inr e2), up2_o (Or.inr e2), e, va_ups, va_upo e2]; rw [e] at hq hj; exact h.1 r j hq hj
    · rw [up2_o (Or.inl (fun z => e (Nat.succ.inj z))), up2_o (Or.inl (fun z => e (Nat.succ.inj z))), va_upo e]; exact h.1 q j hq hj
  · rw [up2_r (Ne.symm (Nat.succ_ne_zero _)), up2_r (Ne.symm (Nat.succ_ne_zero _))]
    exact h.2 q j hq hj
set_option maxRecDepth 100000 in
set_option maxHeartbeats 4000000 in
theorem c_numberFor (l : Launch) (D : va_G) (y : mY) (S0 : Nat) (M F : mp) (k : Nat) (hk : k < 14) (v1 : Int32) : ct l yX3_numberFor wsX3_numberFor 0 0 0 0 D y S0 M F [.int (nI k), .int v1] (fun v M' => v = some (.long (nw k v1)) ∧ M' = M) := by
  refine ct_of cX3_numberFor 2 (some .long) [(0, .int (nI k)), (1, .int v1)] (by decide +kernel) rfl (Nat.le_of_ble_eq_true rfl) rfl ?_
  intro p e s m below meth c ls C hnm hl w
  have hx := C.1
  have hb := C.2.1
  refine lv_iload_n hx hb dX3_numberFor_0 rfl (lv_at hl 0 rfl) ?_
  have hkI : (nI k).toInt = (k : Int) := nI_toInt (by omega)
  by_cases kd : k < 2 ∨ 8 < k
  · refine lv_tableOut (tgt := 70) hx hb dX3_numberFor_1 (by rw [hkI]; omega) (by decide) ?_
    refine lv_iload_n hx hb dX3_numberFor_70 rfl (lv_at hl 1 rfl) ?_
    refine lv_i2l hx hb dX3_numberFor_71 rfl ?_
    exact m_lret C w dX3_numberFor_72 (by omega) (by omega) (⟨by unfold nw; rw [if_neg (by omega), if_neg (by omega), if_neg (by omega), if_neg (by omega), if_neg (by omega)], rfl⟩)
  rcases (show k = 2 ∨ k = 3 ∨ k = 4 ∨ k = 5 ∨ k = 6 ∨ k = 7 ∨ k = 8 by omega) with rfl | rfl | rfl | rfl | rfl | rfl | rfl
  · refine lv_tableIn (tgt := 44) (off := 43) hx hb dX3_numberFor_1 (by rw [hkI]; decide) (by rw [hkI]; decide) (by rw [hkI]; rfl) (by decide) ?_
    refine lv_iload_n hx hb dX3_numberFor_44 rfl (lv_at hl 1 rfl) ?_
    refine lv_if_eq (tgt := 52) hx hb dX3_numberFor_45 (by decide) (fun c_45 => ?_) (fun c_45 => ?_)
    · skip
      refine lv_lconst (v := 0) hx hb dX3_numberFor_52 (by decide) ?_
      exact m_lret C w dX3_numberFor_53 (by omega) (by omega) (⟨by simp [nw, c_45], rfl⟩)
    · skip
      refine lv_lconst (v := 1) hx hb dX3_numberFor_48 (by decide) ?_
      refine lv_goto (tgt := 53) hx hb dX3_numberFor_49 (by decide) ?_
      exact m_lret C w dX3_numberFor_53 (by omega) (by omega) (⟨by simp [nw, c_45], rfl⟩)
  · refine lv_tableIn (tgt := 54) (off := 53) hx hb dX3_numberFor_1 (by rw [hkI]; decide) (by rw [hkI]; decide) (by rw [hkI]; rfl) (by decide) ?_
    refine lv_iload_n hx hb dX3_numberFor_54 rfl (lv_at hl 1 rfl) ?_
    refine lv_i2b hx hb dX3_numberFor_55 rfl ?_
    refine lv_i2l hx hb dX3_numberFor_56 rfl ?_
    exact m_lret C w dX3_numberFor_57 (by omega) (by omega) (⟨by simp [nw], rfl⟩)
  · refine lv_tableIn (tgt := 58) (off := 57) hx hb dX3_numberFor_1 (by rw [hkI]; decide) (by rw [hkI]; decide) (by rw [hkI]; rfl) (by decide) ?_
    refine lv_iload_n hx hb dX3_numberFor_58 rfl (lv_at hl 1 rfl) ?_
    refine lv_i2c hx hb dX3_numberFor_59 rfl ?_
    refine lv_i2l hx hb dX3_numberFor_60 rfl ?_
    exact m_lret C w dX3_numberFor_61 (by omega) (by omega) (⟨by simp [nw], rfl⟩)
  · refine lv_tableIn (tgt := 62) (off := 61) hx hb dX3_numberFor_1 (by rw [hkI]; decide) (by rw [hkI]; decide) (by rw [hkI]; rfl) (by decide) ?_
    refine lv_iload_n hx hb dX3_numberFor_62 rfl (lv_at hl 1 rfl) ?_
    refine lv_i2s hx hb dX3_numberFor_63 rfl ?_
    refine lv_i2l hx hb dX3_numberFor_64 rfl ?_
    exact m_lret C w dX3_numberFor_65 (by omega) (by omega) (⟨by simp [nw], rfl⟩)
  · refine lv_tableIn (tgt := 70) (off := 69) hx hb dX3_numberFor_1 (by rw [hkI]; decide) (by rw [hkI]; decide) (by rw [hkI]; rfl) (by decide) ?_
    refine lv_iload_n hx hb dX3_numberFor_70 rfl (lv_at hl 1 rfl) ?_
    refine lv_i2l hx hb dX3_numberFor_71 rfl ?_
    exact m_lret C w dX3_numberFor_72 (by omega) (by omega) (⟨by simp [nw], rfl⟩)
  · refine lv_tableIn (tgt := 70) (off := 69) hx hb dX3_numberFor_1 (by rw [hkI]; decide) (by rw [hkI]; decide) (by rw [hkI]; rfl) (by decide) ?_
    refine lv_iload_n hx hb dX3_numberFor_70 rfl (lv_at hl 1 rfl) ?_
    refine lv_i2l hx hb dX3_numberFor_71 rfl ?_
    exact m_lret C w dX3_numberFor_72 (by omega) (by omega) (⟨by simp [nw], rfl⟩)
  · refine lv_tableIn (tgt := 66) (off := 65) hx hb dX3_numberFor_1 (by rw [hkI]; decide) (by rw [hkI]; decide) (by rw [hkI]; rfl) (by decide) ?_
    refine lv_iload_n hx hb dX3_numberFor_66 rfl (lv_at hl 1 rfl) ?_
    refine lv_i2f hx hb dX3_numberFor_67 ?_
    refine lv_f2l hx hb dX3_numberFor_68 ?_
    exact m_lret C w dX3_numberFor_69 (by omega) (by omega) (⟨by simp [nw], rfl⟩)
set_option maxRecDepth 100000 in
set_option maxHeartbeats 4000000 in
theorem c_newPiece (l : Launch) (D : va_G) (y : mY) (S0 : Nat) (M F : mp) (h0 : Nat) (A : Ad) (tr : Nat → Nat) (f : Nat → Nat → Int64) (g : Nat → Nat → Option Nat) (S : St) (hC : CW y h0 A tr f g S M) (c0 : Nat) (hI : Inv c0 S) (hR : CR A f g S) (j : Nat) (hj : j < 5) : ct l yX3_newPiece wsX3_newPiece 3 62 1 3 D y S0 M F [.ref h0, .int (nI j)] (fun v M' => ∃ A', v = some (va_rf (th A' 10 (mkPj S j).1)) ∧ CW y h0 A' tr f g (mkPj S j).2 M' ∧ CR A' f g (mkPj S j).2) := by
  refine ct_of cX3_newPiece 2 (some (.object "BeadBench$Piece")) [(0, .ref h0), (1, .int (nI j))] (by decide +kernel) rfl (Nat.le_of_ble_eq_true rfl) rfl ?_
  intro p e s m below meth c ls C hnm hl w
  have hx := C.1
  have hb := C.2.1
  have hi_X1 : ∀ w ∈ u_ws RX1 TX1 3, w ∈ wsX3_newPiece := by decide +kernel
  have hi_X3 : ∀ w ∈ u_ws RX3 TX3 7, w ∈ wsX3_newPiece := by decide +kernel
  refine lv_iload_n hx hb dX3_newPiece_0 rfl (lv_at hl 1 rfl) ?_
  refine lv_if_ne (tgt := 6) hx hb dX3_newPiece_1 (by decide) (fun c_1 => ?_) (fun c_1 => ?_)
  · skip
    have n_1 : ¬ j = 0 := fun h => absurd ((nI_eq (by omega) (by omega)).mpr h) c_1
    refine lv_aload_n hx hb dX3_newPiece_6 rfl (lv_at hl 0 rfl) ?_
    refine lv_dup hx hb dX3_newPiece_7 rfl ?_
    refine m_get C w hC.1.1 (index := 36) (T := TX3) (N := 7) rfl hi_X3 6 (by decide) (by decide +kernel) rfl dX3_newPiece_8 ?_
    refine lv_iconst (v := 1) hx hb dX3_newPiece_11 (by decide) ?_
    refine lv_iadd hx hb dX3_newPiece_12 ?_
    refine m_topi (y := nI ((sP S) + 1)) (by first | exact nI_add _ _ | exact nI_1 _) ?_
    refine m_put C w hC.1.1 (v := .int (nI ((sP S) + 1))) (index := 36) (T := TX3) (N := 7) rfl hi_X3 tyX3 tyX3_ok nmX3 6 (by decide) (by decide +kernel) rfl (tyX3_ok 6 (by decide)) rfl rfl (Nat.le_of_ble_eq_true rfl) dX3_newPiece_13 (fun H locs w => ?_)
    obtain ⟨M1, e_M1⟩ : ∃ z, z = mu M h0 (eO 2 [.ref (xN A), .ref (xT A), .ref (xB A), va_rf ((sB S).map (xr A)), .ref (xY A), .int (nI (sI S)), .int (nI ((sP S) + 1))]) := ⟨_, rfl⟩
    have w : mS D S0 M1 F s H locs := by rw [e_M1]; exact w
    have f1_h0 : M1 h0 = some (eO 2 [.ref (xN A), .ref (xT A), .ref (xB A), va_rf ((sB S).map (xr A)), .ref (xY A), .int (nI (sI S)), .int (nI ((sP S) + 1))]) := by rw [e_M1]; exact mu_s
    refine m_new C w 1 [.int 0, .int 0, .int 0] (T := TX1) (N := 3) rfl hi_X1 tyX1 tyX1_ok (by decide +kernel) (by decide +kernel) (by decide +kernel) (by intro j hj; rcases (show j = 0 ∨ j = 1 ∨ j = 2 by omega) with rfl | rfl | rfl <;> rfl) (Nat.le_of_ble_eq_true rfl) (Nat.le_of_ble_eq_true rfl) dX3_newPiece_16 (fun q H hMq hFq w => ?_)
    obtain ⟨M2, e_M2⟩ : ∃ z, z = mu M1 q (eO 1 [.int 0, .int 0, .int 0]) := ⟨_, rfl⟩
    have w : mS D S0 M2 F s H locs := by rw [e_M2]; exact w
    have f2_h0 : M2 h0 = some (eO 2 [.ref (xN A), .ref (xT A), .ref (xB A), va_rf ((sB S).map (xr A)), .ref (xY A), .int (nI (sI S)), .int (nI ((sP S) + 1))]) := by rw [e_M2]; exact mu_k (m_fr f1_h0 hMq) f1_h0
    have f2_q : M2 q = some (eO 1 [.int 0, .int 0, .int 0]) := by rw [e_M2]; exact mu_s
    refine lv_dup hx hb dX3_newPiece_19 rfl ?_
    refine lv_iconst (v := 2) hx hb dX3_newPiece_20 (by decide) ?_
    refine lv_iload_n hx hb dX3_newPiece_21 rfl (lv_at hl 1 rfl) ?_
    refine lv_iadd hx hb dX3_newPiece_22 ?_
    refine m_topi (y := nI (2 + j)) (by first | exact nI_add _ _ | exact nI_1 _) ?_
    refine lv_iconst (v := 1) hx hb dX3_newPiece_23 (by decide) ?_
    refine lv_isub hx hb dX3_newPiece_24 ?_
    refine m_topi (y := nI (j + 1)) (by rw [show (1 : Int32) = nI 1 from rfl, pk_sub (by omega)]; congr 1; omega) ?_
    refine lv_aload_n hx hb dX3_newPiece_25 rfl (lv_at hl 0 rfl) ?_
    refine m_get C w f2_h0 (index := 36) (T := TX3) (N := 7) rfl hi_X3 6 (by decide) (by decide +kernel) rfl dX3_newPiece_26 ?_
    refine m_callI C w hl.1 (As := [.int (nI (j + 1)), .int (nI ((sP S) + 1))]) (rest := [.ref q]) (c_Piece_init l D y S0 M2 F q 0 0 0 f2_q (nI (j + 1)) (nI (sP S + 1))) ggX3_newPiece_X1_init rfl (by decide +kernel) (by decide +kernel) (by decide +kernel) rfl (show (_ ≠ _ ∧ _ ≠ _ ∧ _ = some 2) by decide +kernel) ⟨Nat.le_of_ble_eq_true rfl, Nat.le_of_ble_eq_true rfl⟩ rfl (Nat.le_of_ble_eq_true rfl) dX3_newPiece_29 ⟨Nat.le_of_ble_eq_true rfl, Nat.le_of_ble_eq_true rfl⟩ (fun v M1 H locs hq w => ?_)
    obtain ⟨rfl, hM3⟩ := hq
    obtain ⟨M3, e_M3⟩ : ∃ z, z = M1 := ⟨_, rfl⟩
    rw [← e_M3] at w hM3
    clear e_M3
    refine W.eq (g2 := F0 m 32 ls [.ref q]) rfl ?_
    exact m_aret (v := some q) C w dX3_newPiece_32 (by omega) (by omega) (by
      have hP5 := hI.2.1
      have hc5 := hI.2.2.1
      have nq : q ≠ h0 := fun e => by rw [e, e_M1, mu_s] at hMq; cases hMq
      have hq0 : M q = none := by rw [e_M1, mu_n nq] at hMq; exact hMq
      have hmj : mkPj S j = (lN (sP S + 1), wPc S (sP S + 1) (va_up (sS S) (sP S + 1) j)) := by unfold mkPj; rw [if_neg n_1]
      have e9 : M3 = mu (mu M q (eO 1 [.int (nI (j + 1)), .int (nI (sP S + 1)), .int 0])) h0 (eO 2 (bF A (wPc S (sP S + 1) (va_up (sS S) (sP S + 1) j)))) := by
        rw [hM3, e_M2, e_M1]
        funext a
        unfold mu
        by_cases a1 : a = q
        · rw [if_pos a1, if_neg (fun z => nq (a1.symm.trans z)), if_pos a1]
        · rw [if_neg a1, if_neg a1, if_neg a1]
          by_cases a2 : a = h0
          · rw [if_pos a2, if_pos a2]; rfl
          · rw [if_neg a2, if_neg a2]
      rw [hmj]
      refine ⟨adPc A (sP S + 1) q, ?_, ?_, hR.piece hI q j⟩
      · have h1 : th (adPc A (sP S + 1) q) 10 (lN (sP S + 1)) = some q := by
          unfold th
          rw [if_neg (by omega), if_neg (lN_ne (by omega) (by omega)), if_neg (lN_nn (by omega)), lN_pN (by omega)]
          exact congrArg some va_ups
        rw [h1]
      · rw [e9]
        exact (hC.mono (mle_new hq0)).piece hI mu_s (fun k k1 k2 => m_fr (hC.1.2.2.2.2.2.2.1 k k1 k2) hq0))
  · skip
    have n_1 : j = 0 := (nI_eq (by omega) (by omega)).mp (by first | exact c_1 | exact Classical.not_not.mp c_1)
    refine lv_null hx hb dX3_newPiece_4 ?_
    exact m_aret (v := none) C w dX3_newPiece_5 (by omega) (by omega) (by
      have hmj : mkPj S j = (0, S) := by unfold mkPj; rw [if_pos n_1]
      rw [hmj]
      exact ⟨A, rfl, hC, hR⟩)
set_option maxRecDepth 100000 in
set_option maxHeartbeats 4000000 in
theorem c_thingFor (l : Launch) (D : va_G) (y : mY) (S0 : Nat) (M F : mp) (h0 : Nat) (A : Ad) (tr : Nat → Nat) (f : Nat → Nat → Int64) (g : Nat → Nat → Option Nat) (S : St) (hC : CW y h0 A tr f g S M) (c0 : Nat) (hI : Inv c0 S) (hR : CR A f g S) (k : Nat) (hk2 : 2 ≤ k) (hk13 : k ≤ 13) (v1 : Int32) : ct l yX3_thingFor wsX3_thingFor 4 83 1 3 D y S0 M F [.ref h0, .int (nI k), .int v1] (fun v M' => ∃ A', v = some (va_rf (th A' k (thg S k v1).1)) ∧ CW y h0 A' tr f g (thg S k v1).2 M' ∧ CR A' f g (thg S k v1).2) := by
  refine ct_of cX3_thingFor 3 (some (.object "BeadBench$Thing")) [(0, .ref h0), (1, .int (nI k)), (2, .int v1)] (by decide +kernel) rfl (Nat.le_of_ble_eq_true rfl) rfl ?_
  intro p e s m below meth c ls C hnm hl w
  have hx := C.1
  have hb := C.2.1
  have hi_X0 : ∀ w ∈ u_ws RX0 TX0 5, w ∈ wsX3_thingFor := by decide +kernel
  have hi_X3 : ∀ w ∈ u_ws RX3 TX3 7, w ∈ wsX3_thingFor := by decide +kernel
  refine lv_iload_n hx hb dX3_thingFor_0 rfl (lv_at hl 1 rfl) ?_
  refine lv_bipush (v := 13) hx hb dX3_thingFor_1 (by decide) ?_
  refine lv_icmp_ne (tgt := 38) hx hb dX3_thingFor_3 (by decide) (fun c_3 => ?_) (fun c_3 => ?_)
  · skip
    have n_3 : ¬ k = 13 := fun h => absurd ((nI_eq (by omega) (by omega)).mpr h) c_3
    refine lv_iload_n hx hb dX3_thingFor_38 rfl (lv_at hl 1 rfl) ?_
    refine lv_bipush (v := 10) hx hb dX3_thingFor_39 (by decide) ?_
    refine lv_icmp_lt (tgt := 56) hx hb dX3_thingFor_41 (by decide) (fun c_41 => ?_) (fun c_41 => ?_)
    · skip
      have n_41 : k < 10 := (nI_ltI (by omega) (by omega)).mp c_41
      refine lv_null hx hb dX3_thingFor_56 ?_
      exact m_aret (v := none) C w dX3_thingFor_57 (by omega) (by omega) (by
        have hT : thg S k v1 = (nw k v1, S) := by
          unfold thg
          rw [if_pos (by unfold isN; simp; omega)]
        rw [hT]
        exact ⟨A, by rw [th_9 (by omega)], hC, hR⟩)
    · skip
      have n_41 : ¬ k < 10 := fun h => absurd ((nI_ltI (by omega) (by omega)).mpr h) c_41
      refine lv_aload_n hx hb dX3_thingFor_44 rfl (lv_at hl 0 rfl) ?_
      refine lv_iload_n hx hb dX3_thingFor_45 rfl (lv_at hl 2 rfl) ?_
      refine lv_iconst (v := 5) hx hb dX3_thingFor_46 (by decide) ?_
      refine m_callS C w hl.1 (As := [.int v1, .int 5]) (rest := [.ref h0]) (c_floorMod l D y S0 M F v1 5 (by omega) (by omega)) ggX3_thingFor_J9_floorMod_7cf53 rfl (by decide +kernel) (by decide +kernel) (by decide +kernel) (show (_ ≠ _ ∧ _ ≠ _ ∧ _ = some 2) by decide +kernel) ⟨Nat.le_of_ble_eq_true rfl, Nat.le_of_ble_eq_true rfl⟩ rfl (Nat.le_of_ble_eq_true rfl) dX3_thingFor_47 ⟨Nat.le_of_ble_eq_true rfl, Nat.le_of_ble_eq_true rfl⟩ (fun v M1 H locs hq w => ?_)
      obtain ⟨rfl, hM1⟩ := hq
      rw [hM1] at w
      clear hM1 M1
      refine W.eq (g2 := F0 m 50 ls [.int (nI (fmd v1 5)), .ref h0]) rfl ?_
      refine m_callV C w hl.1 (As := [.int (nI (fmd v1 5))]) (rest := []) (c_newPiece l D y S0 M F h0 A tr f g S hC c0 hI hR (fmd v1 5) (fmd_lt v1 (by omega))) gX3_thingFor_X3_newPiece rfl hC.1.1 (T := TX3) (N := 7) rfl (show (_ = _ ∧ _ ≠ _ ∧ _ ≠ _ ∧ _ = some 1) by decide +kernel) ⟨Nat.le_of_ble_eq_true rfl, Nat.le_of_ble_eq_true rfl⟩ rfl (Nat.le_of_ble_eq_true rfl) dX3_thingFor_50 ⟨Nat.le_of_ble_eq_true rfl, Nat.le_of_ble_eq_true rfl⟩ (fun v M1 H locs hq w => ?_)
      obtain ⟨A1, rfl, hC1, hR1⟩ := hq
      refine W.eq (g2 := F0 m 53 ls [va_rf (th A1 10 (mkPj S (fmd v1 5)).1)]) rfl ?_
      refine lv_goto (tgt := 57) hx hb dX3_thingFor_53 (by decide) ?_
      exact m_aret (v := th A1 10 (mkPj S (fmd v1 5)).1) C w dX3_thingFor_57 (by omega) (by omega) (by
        have hT : thg S k v1 = mkPj S (fmd v1 5) := by
          unfold thg
          rw [if_neg (by unfold isN; simp; omega), if_neg n_3]
          rfl
        rw [hT]
        exact ⟨A1, by rw [th_k (show 10 ≤ k by omega)], hC1, hR1⟩)
  · skip
    have n_3 : k = 13 := (nI_eq (by omega) (by omega)).mp (by first | exact c_3 | exact Classical.not_not.mp c_3)
    refine lv_iload_n hx hb dX3_thingFor_6 rfl (lv_at hl 2 rfl) ?_
    refine m_callS C w hl.1 (As := [.int v1]) (rest := []) (c_isTray l D y S0 M F v1) ggX3_thingFor_X3_isTray rfl (by decide +kernel) (by decide +kernel) (by decide +kernel) (show (_ ≠ _ ∧ _ ≠ _ ∧ _ = some 1) by decide +kernel) ⟨Nat.le_of_ble_eq_true rfl, Nat.le_of_ble_eq_true rfl⟩ rfl (Nat.le_of_ble_eq_true rfl) dX3_thingFor_7 ⟨Nat.le_of_ble_eq_true rfl, Nat.le_of_ble_eq_true rfl⟩ (fun v M1 H locs hq w => ?_)
    obtain ⟨rfl, hM1⟩ := hq
    rw [hM1] at w
    clear hM1 M1
    refine W.eq (g2 := F0 m 10 ls [.int (bI (inP v1 12))]) rfl ?_
    refine lv_if_eq (tgt := 36) hx hb dX3_thingFor_10 (by decide) (fun c_10 => ?_) (fun c_10 => ?_)
    · skip
      have n_10 : (inP v1 12) = false := bI_f c_10
      refine lv_null hx hb dX3_thingFor_36 ?_
      exact m_aret (v := none) C w dX3_thingFor_37 (by omega) (by omega) (by
        have hT : thg S k v1 = (0, S) := by
          unfold thg
          rw [if_neg (by rw [n_3]; decide), if_pos n_3, if_neg (by first | (rw [et, cN_nI (by omega)]; simp [n_24]; done) | (simp [n_10]; done))]
        rw [hT]
        refine ⟨A, ?_, hC, hR⟩
        have h1 : th A k 0 = none := by
          unfold th
          rw [if_neg (by omega), if_pos rfl]
        rw [h1])
    · skip
      have n_10 : (inP v1 12) = true := bI_t c_10
      obtain ⟨t, ht, et⟩ := inP_t (by decide) n_10
      obtain ⟨tk, na, ta, hq0, -, hrow⟩ := hC.1.tray hI ht
      have hk0 := (hI.2.2.2.2.2.2.1 t ht).1
      refine lv_aload_n hx hb dX3_thingFor_13 rfl (lv_at hl 0 rfl) ?_
      refine m_get C w hC.1.1 (index := 18) (T := TX3) (N := 7) rfl hi_X3 1 (by decide) (by decide +kernel) rfl dX3_thingFor_14 ?_
      refine lv_iload_n hx hb dX3_thingFor_17 rfl (lv_at hl 2 rfl) ?_
      refine m_topi (y := nI t) et ?_
      refine m_hald C w hC.1.2.2.1 t rfl (by omega) (by omega) dX3_thingFor_18 ?_
      refine m_getN C w hq0 (index := 43) (host := "BeadBench") (T := TX0) (N := 5) rfl hi_X0 0 (by decide) (by decide +kernel) rfl dX3_thingFor_19 ?_
      refine lv_bipush (v := 6) hx hb dX3_thingFor_22 (by decide) ?_
      refine lv_icmp_ne (tgt := 36) hx hb dX3_thingFor_24 (by decide) (fun c_24 => ?_) (fun c_24 => ?_)
      · skip
        have n_24 : ¬ (sH S t) = 6 := fun h => absurd ((nI_eq (by omega) (by omega)).mpr h) c_24
        refine lv_null hx hb dX3_thingFor_36 ?_
        exact m_aret (v := none) C w dX3_thingFor_37 (by omega) (by omega) (by
          have hT : thg S k v1 = (0, S) := by
            unfold thg
            rw [if_neg (by rw [n_3]; decide), if_pos n_3, if_neg (by first | (rw [et, cN_nI (by omega)]; simp [n_24]; done) | (simp [n_10]; done))]
          rw [hT]
          refine ⟨A, ?_, hC, hR⟩
          have h1 : th A k 0 = none := by
            unfold th
            rw [if_neg (by omega), if_pos rfl]
          rw [h1])
      · skip
        have n_24 : (sH S t) = 6 := (nI_eq (by omega) (by omega)).mp (by first | exact c_24 | exact Classical.not_not.mp c_24)
        refine lv_aload_n hx hb dX3_thingFor_27 rfl (lv_at hl 0 rfl) ?_
        refine m_get C w hC.1.1 (index := 18) (T := TX3) (N := 7) rfl hi_X3 1 (by decide) (by decide +kernel) rfl dX3_thingFor_28 ?_
        refine lv_iload_n hx hb dX3_thingFor_31 rfl (lv_at hl 2 rfl) ?_
        refine m_topi (y := nI t) et ?_
        refine m_hald C w hC.1.2.2.1 t rfl (by omega) (by omega) dX3_thingFor_32 ?_
        refine lv_goto (tgt := 37) hx hb dX3_thingFor_33 (by decide) ?_
        exact m_aret (v := some (tr t)) C w dX3_thingFor_37 (by omega) (by omega) (by
          have hb1 := hI.1
          have hb2 := hI.2.2.1
          obtain ⟨hr, e1, -, etr, -, -⟩ := hrow (by omega)
          have hT : thg S k v1 = (-1 - lN (rowT S t), S) := by
            unfold thg
            rw [if_neg (by rw [n_3]; decide), if_pos n_3, et, cN_nI (by omega), if_pos (by simp [inP_nI (show t < 12 by omega) (by decide), n_24]), e1, nI_l (by omega)]
          rw [hT]
          refine ⟨A, ?_, hC, hR⟩
          have h1 : th A k (-1 - lN (rowT S t)) = some (tr t) := by
            unfold th
            rw [if_neg (by omega), if_neg (neg_ne (by omega)), if_pos (neg_lt (by omega)), neg_rN (by omega), etr]
          rw [h1])
set_option maxRecDepth 100000 in
set_option maxHeartbeats 4000000 in
theorem c_put (l : Launch) (D : va_G) (y : mY) (S0 : Nat) (M F : mp) (h0 : Nat) (A : Ad) (tr : Nat → Nat) (f : Nat → Nat → Int64) (g : Nat → Nat → Option Nat) (S : St) (hC : CW y h0 A tr f g S M) (c0 : Nat) (hI : Inv c0 S) (hR : CR A f g S) (hc0 : c0 + 1 ≤ 512) (t1 i1 v1 : Int32) : ct l yX3_put wsX3_put 5 105 1 3 D y S0 M F [.ref h0, .int t1, .int i1, .int v1] (fun v M' => v = some (.int (sp_put S t1 i1 v1).1) ∧ RC y h0 (sp_put S t1 i1 v1).2 M') := by
  refine ct_of cX3_put 7 (some .int) [(0, .ref h0), (1, .int t1), (2, .int i1), (3, .int v1)] (by decide +kernel) rfl (Nat.le_of_ble_eq_true rfl) rfl ?_
  intro p e s m below meth c ls C hnm hl w
  have hx := C.1
  have hb := C.2.1
  have hi_X0 : ∀ w ∈ u_ws RX0 TX0 5, w ∈ wsX3_put := by decide +kernel
  have hi_X3 : ∀ w ∈ u_ws RX3 TX3 7, w ∈ wsX3_put := by decide +kernel
  refine lv_iload_n hx hb dX3_put_0 rfl (lv_at hl 1 rfl) ?_
  refine m_callS C w hl.1 (As := [.int t1]) (rest := []) (c_isTray l D y S0 M F t1) ggX3_put_X3_isTray rfl (by decide +kernel) (by decide +kernel) (by decide +kernel) (show (_ ≠ _ ∧ _ ≠ _ ∧ _ = some 1) by decide +kernel) ⟨Nat.le_of_ble_eq_true rfl, Nat.le_of_ble_eq_true rfl⟩ rfl (Nat.le_of_ble_eq_true rfl) dX3_put_1 ⟨Nat.le_of_ble_eq_true rfl, Nat.le_of_ble_eq_true rfl⟩ (fun v M1 H locs hq w => ?_)
  obtain ⟨rfl, hM1⟩ := hq
  rw [hM1] at w
  clear hM1 M1
  refine W.eq (g2 := F0 m 4 ls [.int (bI (inP t1 12))]) rfl ?_
  refine lv_if_ne (tgt := 10) hx hb dX3_put_4 (by decide) (fun c_4 => ?_) (fun c_4 => ?_)
  · skip
    have n_4 : (inP t1 12) = true := bI_t c_4
    obtain ⟨t, ht, et⟩ := inP_t (by decide) n_4
    obtain ⟨tk, na, ta, hq0, -, -⟩ := hC.1.tray hI ht
    have hk13 := (hI.2.2.2.2.2.2.1 t ht).1
    have hk : sH S t < 14 := by omega
    have hz := zT_le hI ht
    have hm0 : sp_put S t1 i1 v1 = if sH S t < 2 then (fR (sH S t), S) else put1 (thg S (sH S t) v1).2 t i1 (thg S (sH S t) v1).1 := by unfold sp_put; rw [if_neg (by simp [n_4]), et, cN_nI (by omega)]
    refine lv_aload_n hx hb dX3_put_10 rfl (lv_at hl 0 rfl) ?_
    refine m_get C w hC.1.1 (index := 18) (T := TX3) (N := 7) rfl hi_X3 1 (by decide) (by decide +kernel) rfl dX3_put_11 ?_
    refine lv_iload_n hx hb dX3_put_14 rfl (lv_at hl 1 rfl) ?_
    refine m_topi (y := nI t) et ?_
    refine m_hald C w hC.1.2.2.1 t rfl (by omega) (by omega) dX3_put_15 ?_
    refine lv_astore (lv' := [(4, .ref (tr t)), (0, .ref h0), (1, .int t1), (2, .int i1), (3, .int v1)]) hx hb dX3_put_16 hl (by decide) rfl (fun ls hl => ?_)
    refine lv_aload hx hb dX3_put_18 (lv_at hl 0 rfl) ?_
    refine m_callV C w hl.1 (As := []) (rest := []) (c_Hold_refusal l D y S0 M F (tr t) (sH S t) (zT S t) tk na ta hq0 hk hz) gX3_put_X0_refusal rfl hq0 (T := TX0) (N := 5) rfl (show (_ = _ ∧ _ ≠ _ ∧ _ ≠ _ ∧ _ = some 0) by decide +kernel) ⟨Nat.le_of_ble_eq_true rfl, Nat.le_of_ble_eq_true rfl⟩ rfl (Nat.le_of_ble_eq_true rfl) dX3_put_20 ⟨Nat.le_of_ble_eq_true rfl, Nat.le_of_ble_eq_true rfl⟩ (fun v M1 H locs hq w => ?_)
    obtain ⟨rfl, hM1⟩ := hq
    rw [hM1] at w
    clear hM1 M1
    refine W.eq (g2 := F0 m 23 ls [.int (fR (sH S t))]) rfl ?_
    refine lv_istore (lv' := [(5, .int (fR (sH S t))), (4, .ref (tr t)), (0, .ref h0), (1, .int t1), (2, .int i1), (3, .int v1)]) hx hb dX3_put_23 hl (by decide) rfl (fun ls hl => ?_)
    refine lv_iload hx hb dX3_put_25 (lv_at hl 0 rfl) ?_
    refine lv_if_eq (tgt := 33) hx hb dX3_put_27 (by decide) (fun c_27 => ?_) (fun c_27 => ?_)
    · skip
      have h2 : 2 ≤ sH S t := fR_0.mp c_27
      rw [if_neg (by omega)] at hm0
      refine lv_aload_n hx hb dX3_put_33 rfl (lv_at hl 2 rfl) ?_
      refine lv_aload hx hb dX3_put_34 (lv_at hl 1 rfl) ?_
      refine m_getN C w hq0 (index := 43) (host := "BeadBench") (T := TX0) (N := 5) rfl hi_X0 0 (by decide) (by decide +kernel) rfl dX3_put_36 ?_
      refine lv_iload_n hx hb dX3_put_39 rfl (lv_at hl 5 rfl) ?_
      refine m_callV C w hl.1 (As := [.int (nI (sH S t)), .int v1]) (rest := []) (c_thingFor l D y S0 M F h0 A tr f g S hC c0 hI hR (sH S t) h2 hk13 v1) gX3_put_X3_thingFor rfl hC.1.1 (T := TX3) (N := 7) rfl (show (_ = _ ∧ _ ≠ _ ∧ _ ≠ _ ∧ _ = some 2) by decide +kernel) ⟨Nat.le_of_ble_eq_true rfl, Nat.le_of_ble_eq_true rfl⟩ rfl (Nat.le_of_ble_eq_true rfl) dX3_put_40 ⟨Nat.le_of_ble_eq_true rfl, Nat.le_of_ble_eq_true rfl⟩ (fun v M1 H locs hq w => ?_)
      obtain ⟨A1, rfl, hC1, hR1⟩ := hq
      obtain ⟨hI1, hval⟩ := inv_thg hI hc0 h2 hk13 v1
      have hH := thg_H S (sH S t) v1
      have hx2 : isN (sH S t) = true → (thg S (sH S t) v1).1 = nw (sH S t) v1 := fun h => by unfold thg; rw [if_pos h]
      obtain ⟨S2, eS2⟩ : ∃ z, z = (thg S (sH S t) v1).2 := ⟨_, rfl⟩
      obtain ⟨x2, ex2⟩ : ∃ z, z = (thg S (sH S t) v1).1 := ⟨_, rfl⟩
      rw [← eS2, ← ex2] at hm0 hval
      rw [← eS2] at hC1 hR1 hI1 hH
      rw [← ex2] at hx2 ⊢
      obtain ⟨eH, eO2, eN, eK, eZ, eC⟩ := hH
      have h22 : 2 ≤ sH S2 t := by rw [eH]; exact h2
      obtain ⟨tk1, na1, ta1, hq1, -, hrow⟩ := hC1.1.tray hI1 ht
      obtain ⟨hr, -, ekd, etr, rfl, rfl⟩ := hrow h22
      rw [show sH S2 t = sH S t from congrFun eH t] at hq1 ekd
      have hz2 := zT_le hI1 ht
      have hzR : zT S2 t = sZ S2 (rowT S2 t) := by unfold zT; rw [if_pos h22]
      have hna : M1 (xn A1 (rowT S2 t + 1)) = some (eL y (zT S2 t) (f (rowT S2 t + 1))) := by rw [hzR]; exact hC1.2.1.1 _ hr
      have hta : M1 (xt A1 (rowT S2 t + 1)) = some (eT y (zT S2 t) (g (rowT S2 t + 1))) := by rw [hzR]; exact hC1.2.1.2.1 _ hr
      refine W.eq (g2 := F0 m 43 ls [va_rf (th A1 (sH S t) x2)]) rfl ?_
      refine mq_astore (lv' := [(6, va_rf (th A1 (sH S t) x2)), (5, .int (fR (sH S t))), (4, .ref (tr t)), (0, .ref h0), (1, .int t1), (2, .int i1), (3, .int v1)]) hx hb dX3_put_43 hl (by decide) rfl (fun ls hl => ?_)
      refine lv_aload hx hb dX3_put_45 (lv_at hl 2 rfl) ?_
      refine lv_iload_n hx hb dX3_put_47 rfl (lv_at hl 5 rfl) ?_
      refine m_callV C w hl.1 (As := [.int i1]) (rest := []) (c_Hold_hasPlace l D y S0 M1 F (tr t) (sH S t) (zT S2 t) tk1 (xn A1 (rowT S2 t + 1)) (xt A1 (rowT S2 t + 1)) hq1 hk hz2 i1) gX3_put_X0_hasPlace rfl hq1 (T := TX0) (N := 5) rfl (show (_ = _ ∧ _ ≠ _ ∧ _ ≠ _ ∧ _ = some 1) by decide +kernel) ⟨Nat.le_of_ble_eq_true rfl, Nat.le_of_ble_eq_true rfl⟩ rfl (Nat.le_of_ble_eq_true rfl) dX3_put_48 ⟨Nat.le_of_ble_eq_true rfl, Nat.le_of_ble_eq_true rfl⟩ (fun v M1 H locs hq w => ?_)
      obtain ⟨rfl, hM1⟩ := hq
      rw [hM1] at w
      clear hM1 M1
      refine W.eq (g2 := F0 m 51 ls [.int (bI (inP i1 (zT S2 t)))]) rfl ?_
      refine lv_if_ne (tgt := 57) hx hb dX3_put_51 (by decide) (fun c_51 => ?_) (fun c_51 => ?_)
      · skip
        have n_51 : (inP i1 (zT S2 t)) = true := bI_t c_51
        obtain ⟨i, hi, ei⟩ := inP_t (by omega) n_51
        refine lv_aload hx hb dX3_put_57 (lv_at hl 2 rfl) ?_
        refine mq_aload hx hb dX3_put_59 (lv_at hl 0 rfl) ?_
        refine m_callV C w hl.1 (As := [va_rf (th A1 (sH S t) x2)]) (rest := []) (c_Hold_accepts l D y S0 M1 F (tr t) (sH S t) (zT S2 t) tk1 (xn A1 (rowT S2 t + 1)) (xt A1 (rowT S2 t + 1)) hq1 hk hz2 (th A1 (sH S t) x2) _ (th_srt hI1 hC1.1 hval)) gX3_put_X0_accepts rfl hq1 (T := TX0) (N := 5) rfl (show (_ = _ ∧ _ ≠ _ ∧ _ ≠ _ ∧ _ = some 1) by decide +kernel) ⟨Nat.le_of_ble_eq_true rfl, Nat.le_of_ble_eq_true rfl⟩ rfl (Nat.le_of_ble_eq_true rfl) dX3_put_61 ⟨Nat.le_of_ble_eq_true rfl, Nat.le_of_ble_eq_true rfl⟩ (fun v M1 H locs hq w => ?_)
        obtain ⟨rfl, hM1⟩ := hq
        rw [hM1] at w
        clear hM1 M1
        refine W.eq (g2 := F0 m 64 ls [.int (bI (acc (sH S t) (srt S2 (sH S t) x2)))]) rfl ?_
        refine lv_if_ne (tgt := 70) hx hb dX3_put_64 (by decide) (fun c_64 => ?_) (fun c_64 => ?_)
        · skip
          have n_64 : (acc (sH S t) (srt S2 (sH S t) x2)) = true := bI_t c_64
          refine lv_aload hx hb dX3_put_70 (lv_at hl 2 rfl) ?_
          refine m_getN C w hq1 (index := 61) (host := "BeadBench") (T := TX0) (N := 5) rfl hi_X0 3 (by decide) (by decide +kernel) rfl dX3_put_72 ?_
          refine lv_iload_n hx hb dX3_put_75 rfl (lv_at hl 5 rfl) ?_
          refine m_topi (y := nI i) ei ?_
          refine lv_aload hx hb dX3_put_76 (lv_at hl 2 rfl) ?_
          refine m_callV C w hl.1 (As := []) (rest := [.int (nI i), .ref (xn A1 (rowT S2 t + 1))]) (c_Hold_isN l D y S0 M1 F (tr t) (sH S t) (zT S2 t) tk1 (xn A1 (rowT S2 t + 1)) (xt A1 (rowT S2 t + 1)) hq1 hk hz2) gX3_put_X0_isOfNumbers rfl hq1 (T := TX0) (N := 5) rfl (show (_ = _ ∧ _ ≠ _ ∧ _ ≠ _ ∧ _ = some 0) by decide +kernel) ⟨Nat.le_of_ble_eq_true rfl, Nat.le_of_ble_eq_true rfl⟩ rfl (Nat.le_of_ble_eq_true rfl) dX3_put_78 ⟨Nat.le_of_ble_eq_true rfl, Nat.le_of_ble_eq_true rfl⟩ (fun v M1 H locs hq w => ?_)
          obtain ⟨rfl, hM1⟩ := hq
          rw [hM1] at w
          clear hM1 M1
          refine W.eq (g2 := F0 m 81 ls [.int (bI (isN (sH S t))), .int (nI i), .ref (xn A1 (rowT S2 t + 1))]) rfl ?_
          refine lv_if_eq (tgt := 96) hx hb dX3_put_81 (by decide) (fun c_81 => ?_) (fun c_81 => ?_)
          · skip
            have n_81 : (isN (sH S t)) = false := bI_f c_81
            refine lv_lconst (v := 0) hx hb dX3_put_96 (by decide) ?_
            obtain ⟨vx, evx⟩ : ∃ z : Int64, z = 0 := ⟨_, rfl⟩
            refine m_topl (y := vx) evx.symm ?_
            have hvx : vx = nu (sH S t) x2 := by rw [evx]; unfold nu; rw [if_neg (by have := isN_f n_81 h2; omega)]
            refine m_last C w hna i rfl (by omega) (by omega) dX3_put_97 (fun H locs w => ?_)
            obtain ⟨M2, e_M2⟩ : ∃ z, z = mu M1 (xn A1 (rowT S2 t + 1)) (eL y (zT S2 t) (va_up (f (rowT S2 t + 1)) i vx)) := ⟨_, rfl⟩
            have w : mS D S0 M2 F s H locs := by rw [e_M2]; exact w
            have hq2 : M2 (tr t) = some (eO 0 (hF (sH S t) (zT S2 t) tk1 (xn A1 (rowT S2 t + 1)) (xt A1 (rowT S2 t + 1)))) := by rw [e_M2]; exact mu_k (m_ne hq1 hna ne_OA) hq1
            have hta2 : M2 (xt A1 (rowT S2 t + 1)) = some (eT y (zT S2 t) (g (rowT S2 t + 1))) := by rw [e_M2]; exact mu_k (m_ne hta hna ne_TL) hta
            refine lv_aload hx hb dX3_put_98 (lv_at hl 2 rfl) ?_
            refine m_getN C w hq2 (index := 73) (host := "BeadBench") (T := TX0) (N := 5) rfl hi_X0 4 (by decide) (by decide +kernel) rfl dX3_put_100 ?_
            refine lv_iload_n hx hb dX3_put_103 rfl (lv_at hl 5 rfl) ?_
            refine m_topi (y := nI i) ei ?_
            refine mq_aload hx hb dX3_put_104 (lv_at hl 0 rfl) ?_
            have hth : ∀ z, th A1 (sH S t) x2 = some z → isTh A1 S2 z := fun z hz => th_ok hI1 hC1.1 hval z hz
            refine m_tast C w hta2 (v := th A1 (sH S t) x2) (fun z hz => ?_) i rfl (by omega) (by omega) dX3_put_106 (fun H locs w => ?_)
            · rw [e_M2]
              rcases hC1.1.th (hth z hz) with ⟨vs, q⟩ | ⟨vs, q⟩
              · exact Or.inl ⟨vs, mu_k (m_ne q hna ne_OA) q⟩
              · exact Or.inr ⟨vs, mu_k (m_ne q hna ne_OA) q⟩
            have hC4 := hC1.set (a := rowT S2 t + 1) (i := i) (x := vx) (v := th A1 (sH S t) x2) hr (by rw [zz_s]; omega) hth
            rw [show zz S2 (rowT S2 t + 1) = zT S2 t from (zz_s _ _).trans hzR.symm, ← e_M2] at hC4
            refine lv_iconst (v := 1) hx hb dX3_put_107 (by decide) ?_
            exact m_iret C w dX3_put_108 (by omega) (by omega) (⟨by rw [hm0, (show put1 S2 t i1 x2 = (1, pRC S2 (rowT S2 t) i x2) by unfold put1; rw [if_neg (by rw [n_51]; decide), if_neg (by rw [congrFun eH t, ← acc_gs hI1 hval ⟨h2, hk13⟩ h2 (fun q => q.2 rfl), n_64]; decide), ei, cN_nI (by omega)])], by rw [hm0, (show put1 S2 t i1 x2 = (1, pRC S2 (rowT S2 t) i x2) by unfold put1; rw [if_neg (by rw [n_51]; decide), if_neg (by rw [congrFun eH t, ← acc_gs hI1 hval ⟨h2, hk13⟩ h2 (fun q => q.2 rfl), n_64]; decide), ei, cN_nI (by omega)])]; exact ⟨A1, tr, _, _, hC4, by rw [hvx, ← ekd]; exact hR1.set (rowT S2 t) i x2⟩⟩)
          · skip
            have n_81 : (isN (sH S t)) = true := bI_t c_81
            refine lv_aload hx hb dX3_put_84 (lv_at hl 2 rfl) ?_
            refine m_getN C w hq1 (index := 43) (host := "BeadBench") (T := TX0) (N := 5) rfl hi_X0 0 (by decide) (by decide +kernel) rfl dX3_put_86 ?_
            refine lv_iload_n hx hb dX3_put_89 rfl (lv_at hl 6 rfl) ?_
            refine m_callS C w hl.1 (As := [.int (nI (sH S t)), .int v1]) (rest := [.int (nI i), .ref (xn A1 (rowT S2 t + 1))]) (c_numberFor l D y S0 M1 F (sH S t) hk v1) ggX3_put_X3_numberFor rfl (by decide +kernel) (by decide +kernel) (by decide +kernel) (show (_ ≠ _ ∧ _ ≠ _ ∧ _ = some 2) by decide +kernel) ⟨Nat.le_of_ble_eq_true rfl, Nat.le_of_ble_eq_true rfl⟩ rfl (Nat.le_of_ble_eq_true rfl) dX3_put_90 ⟨Nat.le_of_ble_eq_true rfl, Nat.le_of_ble_eq_true rfl⟩ (fun v M1 H locs hq w => ?_)
            obtain ⟨rfl, hM1⟩ := hq
            rw [hM1] at w
            clear hM1 M1
            refine W.eq (g2 := F0 m 93 ls [.long (nw (sH S t) v1), .int (nI i), .ref (xn A1 (rowT S2 t + 1))]) rfl ?_
            refine lv_goto (tgt := 97) hx hb dX3_put_93 (by decide) ?_
            obtain ⟨vx, evx⟩ : ∃ z : Int64, z = nw (sH S t) v1 := ⟨_, rfl⟩
            refine m_topl (y := vx) evx.symm ?_
            have hvx : vx = nu (sH S t) x2 := by rw [evx]; unfold nu; rw [if_pos (isN_t n_81).2]; exact (hx2 n_81).symm
            refine m_last C w hna i rfl (by omega) (by omega) dX3_put_97 (fun H locs w => ?_)
            obtain ⟨M2, e_M2⟩ : ∃ z, z = mu M1 (xn A1 (rowT S2 t + 1)) (eL y (zT S2 t) (va_up (f (rowT S2 t + 1)) i vx)) := ⟨_, rfl⟩
            have w : mS D S0 M2 F s H locs := by rw [e_M2]; exact w
            have hq2 : M2 (tr t) = some (eO 0 (hF (sH S t) (zT S2 t) tk1 (xn A1 (rowT S2 t + 1)) (xt A1 (rowT S2 t + 1)))) := by rw [e_M2]; exact mu_k (m_ne hq1 hna ne_OA) hq1
            have hta2 : M2 (xt A1 (rowT S2 t + 1)) = some (eT y (zT S2 t) (g (rowT S2 t + 1))) := by rw [e_M2]; exact mu_k (m_ne hta hna ne_TL) hta
            refine lv_aload hx hb dX3_put_98 (lv_at hl 2 rfl) ?_
            refine m_getN C w hq2 (index := 73) (host := "BeadBench") (T := TX0) (N := 5) rfl hi_X0 4 (by decide) (by decide +kernel) rfl dX3_put_100 ?_
            refine lv_iload_n hx hb dX3_put_103 rfl (lv_at hl 5 rfl) ?_
            refine m_topi (y := nI i) ei ?_
            refine mq_aload hx hb dX3_put_104 (lv_at hl 0 rfl) ?_
            have hth : ∀ z, th A1 (sH S t) x2 = some z → isTh A1 S2 z := fun z hz => th_ok hI1 hC1.1 hval z hz
            refine m_tast C w hta2 (v := th A1 (sH S t) x2) (fun z hz => ?_) i rfl (by omega) (by omega) dX3_put_106 (fun H locs w => ?_)
            · rw [e_M2]
              rcases hC1.1.th (hth z hz) with ⟨vs, q⟩ | ⟨vs, q⟩
              · exact Or.inl ⟨vs, mu_k (m_ne q hna ne_OA) q⟩
              · exact Or.inr ⟨vs, mu_k (m_ne q hna ne_OA) q⟩
            have hC4 := hC1.set (a := rowT S2 t + 1) (i := i) (x := vx) (v := th A1 (sH S t) x2) hr (by rw [zz_s]; omega) hth
            rw [show zz S2 (rowT S2 t + 1) = zT S2 t from (zz_s _ _).trans hzR.symm, ← e_M2] at hC4
            refine lv_iconst (v := 1) hx hb dX3_put_107 (by decide) ?_
            exact m_iret C w dX3_put_108 (by omega) (by omega) (⟨by rw [hm0, (show put1 S2 t i1 x2 = (1, pRC S2 (rowT S2 t) i x2) by unfold put1; rw [if_neg (by rw [n_51]; decide), if_neg (by rw [congrFun eH t, ← acc_gs hI1 hval ⟨h2, hk13⟩ h2 (fun q => q.2 rfl), n_64]; decide), ei, cN_nI (by omega)])], by rw [hm0, (show put1 S2 t i1 x2 = (1, pRC S2 (rowT S2 t) i x2) by unfold put1; rw [if_neg (by rw [n_51]; decide), if_neg (by rw [congrFun eH t, ← acc_gs hI1 hval ⟨h2, hk13⟩ h2 (fun q => q.2 rfl), n_64]; decide), ei, cN_nI (by omega)])]; exact ⟨A1, tr, _, _, hC4, by rw [hvx, ← ekd]; exact hR1.set (rowT S2 t) i x2⟩⟩)
        · skip
          have n_64 : (acc (sH S t) (srt S2 (sH S t) x2)) = false := bI_f c_64
          refine lv_bipush (v := (-3)) hx hb dX3_put_67 (by decide) ?_
          exact m_iret C w dX3_put_69 (by omega) (by omega) (⟨by rw [hm0, (show put1 S2 t i1 x2 = (-3, S2) by unfold put1; rw [if_neg (by rw [n_51]; decide), if_pos (by rw [congrFun eH t, ← acc_gs hI1 hval ⟨h2, hk13⟩ h2 (fun q => q.2 rfl)]; exact n_64)])], by rw [hm0, (show put1 S2 t i1 x2 = (-3, S2) by unfold put1; rw [if_neg (by rw [n_51]; decide), if_pos (by rw [congrFun eH t, ← acc_gs hI1 hval ⟨h2, hk13⟩ h2 (fun q => q.2 rfl)]; exact n_64)])]; exact ⟨A1, tr, f, g, hC1, hR1⟩⟩)
      · skip
        have n_51 : (inP i1 (zT S2 t)) = false := bI_f c_51
        refine lv_bipush (v := (-4)) hx hb dX3_put_54 (by decide) ?_
        exact m_iret C w dX3_put_56 (by omega) (by omega) (⟨by rw [hm0, (show put1 S2 t i1 x2 = (-4, S2) by unfold put1; rw [if_pos n_51])], by rw [hm0, (show put1 S2 t i1 x2 = (-4, S2) by unfold put1; rw [if_pos n_51])]; exact ⟨A1, tr, f, g, hC1, hR1⟩⟩)
    · skip
      refine lv_iload hx hb dX3_put_30 (lv_at hl 0 rfl) ?_
      exact m_iret C w dX3_put_32 (by omega) (by omega) (⟨by rw [hm0, if_pos (by have := mt fR_0.mpr c_27; omega)], by rw [hm0, if_pos (by have := mt fR_0.mpr c_27; omega)]; exact ⟨A, tr, f, g, hC, hR⟩⟩)
  · skip
    have n_4 : (inP t1 12) = false := bI_f c_4
    refine lv_bipush (v := (-6)) hx hb dX3_put_7 (by decide) ?_
    exact m_iret C w dX3_put_9 (by omega) (by omega) (⟨by rw [(show sp_put S t1 i1 v1 = (-6, S) by unfold sp_put; rw [if_pos (by first | simp [n_4])])], by rw [(show sp_put S t1 i1 v1 = (-6, S) by unfold sp_put; rw [if_pos (by first | simp [n_4])])]; exact ⟨A, tr, f, g, hC, hR⟩⟩)
end
section
/-- behind a new Holding: the old cells stand, the new ones are there -/
theorem new_hold {y : mY} {M M1 M3 : mp} {q qL qT n : Nat} {e0 e1 : va_E} (hMq : M q = none) (e1' : M1 = mu M q e0) (hqL : M1 qL = none) (hqT : M1 qT = none) (nLT : qL ≠ qT) (hM3 : M3 = mu (mu (mu M1 q e1) qL (eL y n (fun _ => 0))) qT (eT y n (fun _ => none))) : mle M M3 ∧ M3 q = some e1 ∧ M3 qL = some (eL y n (fun _ => 0)) ∧ M3 qT = some (eT y n (fun _ => none)) ∧ M qL = none ∧ M qT = none := by
  have nL : qL ≠ q := fun e => by rw [e, e1', mu_s] at hqL; cases hqL
  have nT : qT ≠ q := fun e => by rw [e, e1', mu_s] at hqT; cases hqT
  have mL : M qL = none := by rw [e1', mu_n nL] at hqL; exact hqL
  have mT : M qT = none := by rw [e1', mu_n nT] at hqT; exact hqT
  refine ⟨fun a x hx => ?_, ?_, ?_, ?_, mL, mT⟩
  · rw [hM3, mu_n (m_fr hx mT), mu_n (m_fr hx mL), mu_n (m_fr hx hMq), e1', mu_n (m_fr hx hMq)]; exact hx
  · rw [hM3, mu_n (Ne.symm nT), mu_n (Ne.symm nL), mu_s]
  · rw [hM3, mu_n nLT, mu_s]
  · rw [hM3, mu_s]
theorem inP_2 {w : Int32} (h0 : ¬ w = 0) (h1 : ¬ w = 1) : inP w 2 = false := by
  cases h : inP w 2 with
  | false => rfl
  | true =>
    obtain ⟨j, hj, rfl⟩ := inP_t (by decide) h
    rcases (show j = 0 ∨ j = 1 by omega) with rfl | rfl
    · exact absurd rfl h0
    · exact absurd rfl h1
theorem th_cases {c : Nat} {S : St} {A : Ad} (hI : Inv c S) {k : Nat} {x : Int64} (hv : val S k x) : (th A k x = none ∧ (k ≤ 9 ∨ x = 0)) ∨ (∃ p, 1 ≤ p ∧ p ≤ sP S ∧ th A k x = some (xp A p) ∧ x = lN p ∧ 10 ≤ k) ∨ (∃ r, r < sN S ∧ th A k x = some (xr A r) ∧ x = -1 - lN r ∧ 10 ≤ k ∧ sK S r = 6 ∧ k = 13) := by
  have hbd := hI.2.2.1
  have hN := hI.1
  have hP := hI.2.1
  by_cases h9 : k ≤ 9
  · exact Or.inl ⟨th_9 h9 x, Or.inl h9⟩
  · rcases hv with q | q | ⟨-, -, p, p1, p2, e⟩ | ⟨k13, r, hr, e2, e⟩
    · exact absurd q h9
    · exact Or.inl ⟨by unfold th; rw [if_neg h9, if_pos q], Or.inr q⟩
    · exact Or.inr (Or.inl ⟨p, p1, p2, by rw [e]; unfold th; rw [if_neg h9, if_neg (lN_ne (by omega) p1), if_neg (lN_nn (by omega)), lN_pN (by omega)], e, by omega⟩)
    · exact Or.inr (Or.inr ⟨r, hr, by rw [e]; unfold th; rw [if_neg h9, if_neg (neg_ne (by omega)), if_pos (neg_lt (by omega)), neg_rN (by omega)], e, by omega, e2, k13⟩)
set_option maxRecDepth 100000 in
set_option maxHeartbeats 4000000 in
theorem c_lay (l : Launch) (D : va_G) (y : mY) (S0 : Nat) (M F : mp) (h0 : Nat) (A : Ad) (tr : Nat → Nat) (f : Nat → Nat → Int64) (g : Nat → Nat → Option Nat) (S : St) (hC : CW y h0 A tr f g S M) (c0 : Nat) (hI : Inv c0 S) (hR : CR A f g S) (t1 k1 n1 : Int32) : ct l yX3_lay wsX3_lay 3 63 3 133 D y S0 M F [.ref h0, .int t1, .int k1, .int n1] (fun v M' => v = some (.int (sp_lay S t1 k1 n1).1) ∧ RC y h0 (sp_lay S t1 k1 n1).2 M') := by
  refine ct_of cX3_lay 4 (some .int) [(0, .ref h0), (1, .int t1), (2, .int k1), (3, .int n1)] (by decide +kernel) rfl (Nat.le_of_ble_eq_true rfl) rfl ?_
  intro p e s m below meth c ls C hnm hl w
  have hx := C.1
  have hb := C.2.1
  have hi_X0 : ∀ w ∈ u_ws RX0 TX0 5, w ∈ wsX3_lay := by decide +kernel
  have hi_X3 : ∀ w ∈ u_ws RX3 TX3 7, w ∈ wsX3_lay := by decide +kernel
  refine lv_iload_n hx hb dX3_lay_0 rfl (lv_at hl 1 rfl) ?_
  refine m_callS C w hl.1 (As := [.int t1]) (rest := []) (c_isTray l D y S0 M F t1) ggX3_lay_X3_isTray rfl (by decide +kernel) (by decide +kernel) (by decide +kernel) (show (_ ≠ _ ∧ _ ≠ _ ∧ _ = some 1) by decide +kernel) ⟨Nat.le_of_ble_eq_true rfl, Nat.le_of_ble_eq_true rfl⟩ rfl (Nat.le_of_ble_eq_true rfl) dX3_lay_1 ⟨Nat.le_of_ble_eq_true rfl, Nat.le_of_ble_eq_true rfl⟩ (fun v M1 H locs hq w => ?_)
  obtain ⟨rfl, hM1⟩ := hq
  rw [hM1] at w
  clear hM1 M1
  refine W.eq (g2 := F0 m 4 ls [.int (bI (inP t1 12))]) rfl ?_
  refine lv_if_eq (tgt := 28) hx hb dX3_lay_4 (by decide) (fun c_4 => ?_) (fun c_4 => ?_)
  · skip
    have n_4 : (inP t1 12) = false := bI_f c_4
    refine lv_bipush (v := (-6)) hx hb dX3_lay_28 (by decide) ?_
    exact m_iret C w dX3_lay_30 (by omega) (by omega) (⟨by rw [(show sp_lay S t1 k1 n1 = (-6, S) by unfold sp_lay; rw [if_neg (by first | (simp [n_4]; done) | (simp [kin, c_9]; done) | (simp [kin, c_15]; done) | (simp [inP, c_19]; done) | (have c9 := (lt_s1 (z := 64) (by omega)).mp (Int32.not_le.mp c_25); simp [inP, c9]; done))])], by rw [(show sp_lay S t1 k1 n1 = (-6, S) by unfold sp_lay; rw [if_neg (by first | (simp [n_4]; done) | (simp [kin, c_9]; done) | (simp [kin, c_15]; done) | (simp [inP, c_19]; done) | (have c9 := (lt_s1 (z := 64) (by omega)).mp (Int32.not_le.mp c_25); simp [inP, c9]; done))])]; exact ⟨A, tr, f, g, hC, hR⟩⟩)
  · skip
    have n_4 : (inP t1 12) = true := bI_t c_4
    refine lv_iload_n hx hb dX3_lay_7 rfl (lv_at hl 2 rfl) ?_
    refine lv_iconst (v := 2) hx hb dX3_lay_8 (by decide) ?_
    refine lv_icmp_lt (tgt := 28) hx hb dX3_lay_9 (by decide) (fun c_9 => ?_) (fun c_9 => ?_)
    · skip
      refine lv_bipush (v := (-6)) hx hb dX3_lay_28 (by decide) ?_
      exact m_iret C w dX3_lay_30 (by omega) (by omega) (⟨by rw [(show sp_lay S t1 k1 n1 = (-6, S) by unfold sp_lay; rw [if_neg (by first | (simp [n_4]; done) | (simp [kin, c_9]; done) | (simp [kin, c_15]; done) | (simp [inP, c_19]; done) | (have c9 := (lt_s1 (z := 64) (by omega)).mp (Int32.not_le.mp c_25); simp [inP, c9]; done))])], by rw [(show sp_lay S t1 k1 n1 = (-6, S) by unfold sp_lay; rw [if_neg (by first | (simp [n_4]; done) | (simp [kin, c_9]; done) | (simp [kin, c_15]; done) | (simp [inP, c_19]; done) | (have c9 := (lt_s1 (z := 64) (by omega)).mp (Int32.not_le.mp c_25); simp [inP, c9]; done))])]; exact ⟨A, tr, f, g, hC, hR⟩⟩)
    · skip
      refine lv_iload_n hx hb dX3_lay_12 rfl (lv_at hl 2 rfl) ?_
      refine lv_bipush (v := 13) hx hb dX3_lay_13 (by decide) ?_
      refine lv_icmp_gt (tgt := 28) hx hb dX3_lay_15 (by decide) (fun c_15 => ?_) (fun c_15 => ?_)
      · skip
        refine lv_bipush (v := (-6)) hx hb dX3_lay_28 (by decide) ?_
        exact m_iret C w dX3_lay_30 (by omega) (by omega) (⟨by rw [(show sp_lay S t1 k1 n1 = (-6, S) by unfold sp_lay; rw [if_neg (by first | (simp [n_4]; done) | (simp [kin, c_9]; done) | (simp [kin, c_15]; done) | (simp [inP, c_19]; done) | (have c9 := (lt_s1 (z := 64) (by omega)).mp (Int32.not_le.mp c_25); simp [inP, c9]; done))])], by rw [(show sp_lay S t1 k1 n1 = (-6, S) by unfold sp_lay; rw [if_neg (by first | (simp [n_4]; done) | (simp [kin, c_9]; done) | (simp [kin, c_15]; done) | (simp [inP, c_19]; done) | (have c9 := (lt_s1 (z := 64) (by omega)).mp (Int32.not_le.mp c_25); simp [inP, c9]; done))])]; exact ⟨A, tr, f, g, hC, hR⟩⟩)
      · skip
        refine lv_iload_n hx hb dX3_lay_18 rfl (lv_at hl 3 rfl) ?_
        refine lv_if_lt (tgt := 28) hx hb dX3_lay_19 (by decide) (fun c_19 => ?_) (fun c_19 => ?_)
        · skip
          refine lv_bipush (v := (-6)) hx hb dX3_lay_28 (by decide) ?_
          exact m_iret C w dX3_lay_30 (by omega) (by omega) (⟨by rw [(show sp_lay S t1 k1 n1 = (-6, S) by unfold sp_lay; rw [if_neg (by first | (simp [n_4]; done) | (simp [kin, c_9]; done) | (simp [kin, c_15]; done) | (simp [inP, c_19]; done) | (have c9 := (lt_s1 (z := 64) (by omega)).mp (Int32.not_le.mp c_25); simp [inP, c9]; done))])], by rw [(show sp_lay S t1 k1 n1 = (-6, S) by unfold sp_lay; rw [if_neg (by first | (simp [n_4]; done) | (simp [kin, c_9]; done) | (simp [kin, c_15]; done) | (simp [inP, c_19]; done) | (have c9 := (lt_s1 (z := 64) (by omega)).mp (Int32.not_le.mp c_25); simp [inP, c9]; done))])]; exact ⟨A, tr, f, g, hC, hR⟩⟩)
        · skip
          refine lv_iload_n hx hb dX3_lay_22 rfl (lv_at hl 3 rfl) ?_
          refine lv_bipush (v := 64) hx hb dX3_lay_23 (by decide) ?_
          refine lv_icmp_le (tgt := 31) hx hb dX3_lay_25 (by decide) (fun c_25 => ?_) (fun c_25 => ?_)
          · skip
            obtain ⟨t, ht, et⟩ := inP_t (by decide) n_4
            obtain ⟨kk, hkk, ek⟩ := nI_of2 (M := 13) (n := 13) rfl (fun q => c_9 (Int32.lt_trans q (by decide))) (Int32.not_lt.mp c_15)
            have hk2 : 2 ≤ kk := Classical.byContradiction fun q => c_9 (by rw [ek]; exact (nI_ltI (b := 2) (by omega) (by decide)).mpr (by omega))
            obtain ⟨nn, hnn, en⟩ := nI_of2 (M := 64) (n := 64) rfl c_19 c_25
            have hm : sp_lay S t1 k1 n1 = (nI nn, wTr (wRow S kk nn) (va_up (sH S) t kk) (va_up (sO S) t (nI (sN S)))) := by
              unfold sp_lay
              rw [if_pos (by rw [n_4, en, inP_nI (show nn < 65 by omega) (by decide)]; unfold kin; simp [c_9, c_15]), et, ek, en, cN_nI (by omega), cN_nI (by omega), cN_nI (by omega)]
              rfl
            refine lv_aload_n hx hb dX3_lay_31 rfl (lv_at hl 0 rfl) ?_
            refine m_get C w hC.1.1 (index := 18) (T := TX3) (N := 7) rfl hi_X3 1 (by decide) (by decide +kernel) rfl dX3_lay_32 ?_
            refine lv_iload_n hx hb dX3_lay_35 rfl (lv_at hl 1 rfl) ?_
            refine m_topi (y := nI t) et ?_
            refine m_new C w 0 [.int 0, .int 0, .int 0, .null, .null] (T := TX0) (N := 5) rfl hi_X0 tyX0 tyX0_ok (by decide +kernel) (by decide +kernel) (by decide +kernel) (by intro j hj; rcases (show j = 0 ∨ j = 1 ∨ j = 2 ∨ j = 3 ∨ j = 4 by omega) with rfl | rfl | rfl | rfl | rfl <;> rfl) (Nat.le_of_ble_eq_true rfl) (Nat.le_of_ble_eq_true rfl) dX3_lay_36 (fun q H hMq hFq w => ?_)
            obtain ⟨M1, e_M1⟩ : ∃ z, z = mu M q (eO 0 [.int 0, .int 0, .int 0, .null, .null]) := ⟨_, rfl⟩
            have w : mS D S0 M1 F s H locs := by rw [e_M1]; exact w
            have f1_h0 : M1 h0 = some (eO 2 [.ref (xN A), .ref (xT A), .ref (xB A), va_rf ((sB S).map (xr A)), .ref (xY A), .int (nI (sI S)), .int (nI (sP S))]) := by rw [e_M1]; exact mu_k (m_fr hC.1.1 hMq) hC.1.1
            have f1_q : M1 q = some (eO 0 [.int 0, .int 0, .int 0, .null, .null]) := by rw [e_M1]; exact mu_s
            refine lv_dup hx hb dX3_lay_39 rfl ?_
            refine lv_iload_n hx hb dX3_lay_40 rfl (lv_at hl 2 rfl) ?_
            refine m_topi (y := nI kk) ek ?_
            refine lv_iload_n hx hb dX3_lay_41 rfl (lv_at hl 3 rfl) ?_
            refine m_topi (y := nI nn) en ?_
            refine lv_iconst (v := 0) hx hb dX3_lay_42 (by decide) ?_
            refine m_callI C w hl.1 (As := [.int (nI kk), .int (nI nn), .int 0]) (rest := [.ref q, .int (nI t), .ref (xT A)]) (c_Hold_init l D y S0 M1 F q nn (nI kk) 0 0 0 .null .null 0 f1_q hnn) ggX3_lay_X0_init rfl (by decide +kernel) (by decide +kernel) (by decide +kernel) rfl (show (_ ≠ _ ∧ _ ≠ _ ∧ _ = some 3) by decide +kernel) ⟨Nat.le_of_ble_eq_true rfl, Nat.le_of_ble_eq_true rfl⟩ rfl (Nat.le_of_ble_eq_true rfl) dX3_lay_43 ⟨Nat.le_of_ble_eq_true rfl, by show _ + 2 * nn ≤ 133; omega⟩ (fun v M1 H locs hq w => ?_)
            obtain ⟨rfl, qL, qT, hqL, hqT, -, -, nLT, hM3⟩ := hq
            obtain ⟨M3, e_M3⟩ : ∃ z, z = M1 := ⟨_, rfl⟩
            rw [← e_M3] at w hM3
            clear e_M3 M1
            obtain ⟨hle, hq3, hL3, hT3, mL, mT⟩ := new_hold hMq e_M1 hqL hqT nLT hM3
            have hCm := hC.mono hle
            refine W.eq (g2 := F0 m 46 ls [.ref q, .int (nI t), .ref (xT A)]) rfl ?_
            have hCr := hCm.row hI hq3 hL3 hT3 (fun r hr => m_fr (hC.1.2.2.2.2.2.1 r hr) hMq) (fun j hj => m_fr (hC.2.1.1 j hj) mL) (fun j hj => m_fr (hC.2.1.2.1 j hj) mT) (Ne.symm (m_fr hC.1.2.2.1 mT))
            refine m_hast C w hCm.1.2.2.1 hq3 t rfl (by omega) (by omega) dX3_lay_46 (fun H locs w => ?_)
            have hC4 := hCr.tray ht (Or.inr (Or.inr ⟨hk2, sN S, Nat.lt_succ_self _, rfl, va_ups, va_ups.symm⟩))
            refine lv_iload_n hx hb dX3_lay_47 rfl (lv_at hl 3 rfl) ?_
            refine m_topi (y := nI nn) en ?_
            exact m_iret C w dX3_lay_48 (by omega) (by omega) (⟨by rw [hm], by rw [hm]; exact ⟨(adRow A (sN S) q qL qT), _, _, _, hC4, hR.row hI kk nn q qL qT⟩⟩)
          · skip
            refine lv_bipush (v := (-6)) hx hb dX3_lay_28 (by decide) ?_
            exact m_iret C w dX3_lay_30 (by omega) (by omega) (⟨by rw [(show sp_lay S t1 k1 n1 = (-6, S) by unfold sp_lay; rw [if_neg (by first | (simp [n_4]; done) | (simp [kin, c_9]; done) | (simp [kin, c_15]; done) | (simp [inP, c_19]; done) | (have c9 := (lt_s1 (z := 64) (by omega)).mp (Int32.not_le.mp c_25); simp [inP, c9]; done))])], by rw [(show sp_lay S t1 k1 n1 = (-6, S) by unfold sp_lay; rw [if_neg (by first | (simp [n_4]; done) | (simp [kin, c_9]; done) | (simp [kin, c_15]; done) | (simp [inP, c_19]; done) | (have c9 := (lt_s1 (z := 64) (by omega)).mp (Int32.not_le.mp c_25); simp [inP, c9]; done))])]; exact ⟨A, tr, f, g, hC, hR⟩⟩)
set_option maxRecDepth 100000 in
set_option maxHeartbeats 4000000 in
theorem c_ticket (l : Launch) (D : va_G) (y : mY) (S0 : Nat) (M F : mp) (h0 : Nat) (A : Ad) (tr : Nat → Nat) (f : Nat → Nat → Int64) (g : Nat → Nat → Option Nat) (S : St) (hC : CW y h0 A tr f g S M) (c0 : Nat) (hI : Inv c0 S) (hR : CR A f g S) (t1 w1 n1 : Int32) : ct l yX3_ticket wsX3_ticket 3 63 3 5 D y S0 M F [.ref h0, .int t1, .int w1, .int n1] (fun v M' => v = some (.int (bI (sp_ticket S t1 w1 n1).1)) ∧ RC y h0 (sp_ticket S t1 w1 n1).2 M') := by
  refine ct_of cX3_ticket 4 (some .boolean) [(0, .ref h0), (1, .int t1), (2, .int w1), (3, .int n1)] (by decide +kernel) rfl (Nat.le_of_ble_eq_true rfl) rfl ?_
  intro p e s m below meth c ls C hnm hl w
  have hx := C.1
  have hb := C.2.1
  have hi_X0 : ∀ w ∈ u_ws RX0 TX0 5, w ∈ wsX3_ticket := by decide +kernel
  have hi_X3 : ∀ w ∈ u_ws RX3 TX3 7, w ∈ wsX3_ticket := by decide +kernel
  refine lv_iload_n hx hb dX3_ticket_0 rfl (lv_at hl 1 rfl) ?_
  refine m_callS C w hl.1 (As := [.int t1]) (rest := []) (c_isTray l D y S0 M F t1) ggX3_ticket_X3_isTray rfl (by decide +kernel) (by decide +kernel) (by decide +kernel) (show (_ ≠ _ ∧ _ ≠ _ ∧ _ = some 1) by decide +kernel) ⟨Nat.le_of_ble_eq_true rfl, Nat.le_of_ble_eq_true rfl⟩ rfl (Nat.le_of_ble_eq_true rfl) dX3_ticket_1 ⟨Nat.le_of_ble_eq_true rfl, Nat.le_of_ble_eq_true rfl⟩ (fun v M1 H locs hq w => ?_)
  obtain ⟨rfl, hM1⟩ := hq
  rw [hM1] at w
  clear hM1 M1
  refine W.eq (g2 := F0 m 4 ls [.int (bI (inP t1 12))]) rfl ?_
  refine lv_if_eq (tgt := 16) hx hb dX3_ticket_4 (by decide) (fun c_4 => ?_) (fun c_4 => ?_)
  · skip
    have n_4 : (inP t1 12) = false := bI_f c_4
    refine lv_iconst (v := 0) hx hb dX3_ticket_16 (by decide) ?_
    exact m_zret C w dX3_ticket_17 (by omega) (by omega) (by first | exact Or.inl rfl | exact Or.inr rfl) (⟨by rw [(show sp_ticket S t1 w1 n1 = (false, S) by unfold sp_ticket; rw [if_neg (by first | (simp [n_4]; done) | (simp [inP_2 c_8 c_13]; done))])]; rfl, by rw [(show sp_ticket S t1 w1 n1 = (false, S) by unfold sp_ticket; rw [if_neg (by first | (simp [n_4]; done) | (simp [inP_2 c_8 c_13]; done))])]; exact ⟨A, tr, f, g, hC, hR⟩⟩)
  · skip
    have n_4 : (inP t1 12) = true := bI_t c_4
    refine lv_iload_n hx hb dX3_ticket_7 rfl (lv_at hl 2 rfl) ?_
    refine lv_if_eq (tgt := 18) hx hb dX3_ticket_8 (by decide) (fun c_8 => ?_) (fun c_8 => ?_)
    · skip
      obtain ⟨t, ht, et⟩ := inP_t (by decide) n_4
      have hm : sp_ticket S t1 w1 n1 = (true, wTr S (va_up (sH S) t 0) (va_up (sO S) t 0)) := by unfold sp_ticket; rw [if_pos (by rw [n_4, c_8]; decide), et, c_8, cN_nI (by omega)]; rfl
      refine lv_aload_n hx hb dX3_ticket_18 rfl (lv_at hl 0 rfl) ?_
      refine m_get C w hC.1.1 (index := 18) (T := TX3) (N := 7) rfl hi_X3 1 (by decide) (by decide +kernel) rfl dX3_ticket_19 ?_
      refine lv_iload_n hx hb dX3_ticket_22 rfl (lv_at hl 1 rfl) ?_
      refine m_topi (y := nI t) et ?_
      refine lv_iload_n hx hb dX3_ticket_23 rfl (lv_at hl 2 rfl) ?_
      refine m_topi (y := 0) c_8 ?_
      refine lv_iconst (v := 1) hx hb dX3_ticket_24 (by decide) ?_
      refine lv_icmp_ne (tgt := 41) hx hb dX3_ticket_25 (by decide) (fun _ => ?_) (fun h => absurd h (by decide))
      refine lv_aload_n hx hb dX3_ticket_41 rfl (lv_at hl 0 rfl) ?_
      refine m_get C w hC.1.1 (index := 14) (T := TX3) (N := 7) rfl hi_X3 0 (by decide) (by decide +kernel) rfl dX3_ticket_42 ?_
      obtain ⟨a9, b9, hn9⟩ := hC.1.2.1
      refine m_hast C w hC.1.2.2.1 hn9 t rfl (by omega) (by omega) dX3_ticket_45 (fun H locs w => ?_)
      have hC4 := hC.tray (k := 0) (x := 0) ht (Or.inl ⟨rfl, rfl⟩)
      refine lv_iconst (v := 1) hx hb dX3_ticket_46 (by decide) ?_
      exact m_zret C w dX3_ticket_47 (by omega) (by omega) (by first | exact Or.inl rfl | exact Or.inr rfl) (⟨by rw [hm]; rfl, by rw [hm]; exact ⟨A, _, f, g, hC4, hR⟩⟩)
    · skip
      refine lv_iload_n hx hb dX3_ticket_11 rfl (lv_at hl 2 rfl) ?_
      refine lv_iconst (v := 1) hx hb dX3_ticket_12 (by decide) ?_
      refine lv_icmp_eq (tgt := 18) hx hb dX3_ticket_13 (by decide) (fun c_13 => ?_) (fun c_13 => ?_)
      · skip
        obtain ⟨t, ht, et⟩ := inP_t (by decide) n_4
        have hm : sp_ticket S t1 w1 n1 = (true, wTr S (va_up (sH S) t 1) (va_up (sO S) t n1)) := by unfold sp_ticket; rw [if_pos (by rw [n_4, c_13]; decide), et, c_13, cN_nI (by omega)]; rfl
        refine lv_aload_n hx hb dX3_ticket_18 rfl (lv_at hl 0 rfl) ?_
        refine m_get C w hC.1.1 (index := 18) (T := TX3) (N := 7) rfl hi_X3 1 (by decide) (by decide +kernel) rfl dX3_ticket_19 ?_
        refine lv_iload_n hx hb dX3_ticket_22 rfl (lv_at hl 1 rfl) ?_
        refine m_topi (y := nI t) et ?_
        refine lv_iload_n hx hb dX3_ticket_23 rfl (lv_at hl 2 rfl) ?_
        refine m_topi (y := 1) c_13 ?_
        refine lv_iconst (v := 1) hx hb dX3_ticket_24 (by decide) ?_
        refine lv_icmp_ne (tgt := 41) hx hb dX3_ticket_25 (by decide) (fun h => absurd h (by decide)) (fun _ => ?_)
        refine m_new C w 0 [.int 0, .int 0, .int 0, .null, .null] (T := TX0) (N := 5) rfl hi_X0 tyX0 tyX0_ok (by decide +kernel) (by decide +kernel) (by decide +kernel) (by intro j hj; rcases (show j = 0 ∨ j = 1 ∨ j = 2 ∨ j = 3 ∨ j = 4 by omega) with rfl | rfl | rfl | rfl | rfl <;> rfl) (Nat.le_of_ble_eq_true rfl) (Nat.le_of_ble_eq_true rfl) dX3_ticket_28 (fun q H hMq hFq w => ?_)
        obtain ⟨M1, e_M1⟩ : ∃ z, z = mu M q (eO 0 [.int 0, .int 0, .int 0, .null, .null]) := ⟨_, rfl⟩
        have w : mS D S0 M1 F s H locs := by rw [e_M1]; exact w
        have f1_h0 : M1 h0 = some (eO 2 [.ref (xN A), .ref (xT A), .ref (xB A), va_rf ((sB S).map (xr A)), .ref (xY A), .int (nI (sI S)), .int (nI (sP S))]) := by rw [e_M1]; exact mu_k (m_fr hC.1.1 hMq) hC.1.1
        have f1_q : M1 q = some (eO 0 [.int 0, .int 0, .int 0, .null, .null]) := by rw [e_M1]; exact mu_s
        refine lv_dup hx hb dX3_ticket_31 rfl ?_
        refine lv_iconst (v := 1) hx hb dX3_ticket_32 (by decide) ?_
        refine lv_iconst (v := 0) hx hb dX3_ticket_33 (by decide) ?_
        refine lv_iload_n hx hb dX3_ticket_34 rfl (lv_at hl 3 rfl) ?_
        refine m_callI C w hl.1 (As := [.int 1, .int 0, .int n1]) (rest := [.ref q, .int (nI t), .ref (xT A)]) (c_Hold_init l D y S0 M1 F q 0 1 0 0 0 .null .null n1 f1_q (by omega)) ggX3_ticket_X0_init rfl (by decide +kernel) (by decide +kernel) (by decide +kernel) rfl (show (_ ≠ _ ∧ _ ≠ _ ∧ _ = some 3) by decide +kernel) ⟨Nat.le_of_ble_eq_true rfl, Nat.le_of_ble_eq_true rfl⟩ rfl (Nat.le_of_ble_eq_true rfl) dX3_ticket_35 ⟨Nat.le_of_ble_eq_true rfl, Nat.le_of_ble_eq_true rfl⟩ (fun v M1 H locs hq w => ?_)
        obtain ⟨rfl, qL, qT, hqL, hqT, -, -, nLT, hM3⟩ := hq
        obtain ⟨M3, e_M3⟩ : ∃ z, z = M1 := ⟨_, rfl⟩
        rw [← e_M3] at w hM3
        clear e_M3 M1
        obtain ⟨hle, hq3, hL3, hT3, mL, mT⟩ := new_hold hMq e_M1 hqL hqT nLT hM3
        have hCm := hC.mono hle
        refine W.eq (g2 := F0 m 38 ls [.ref q, .int (nI t), .ref (xT A)]) rfl ?_
        refine lv_goto (tgt := 45) hx hb dX3_ticket_38 (by decide) ?_
        refine m_hast C w hCm.1.2.2.1 hq3 t rfl (by omega) (by omega) dX3_ticket_45 (fun H locs w => ?_)
        have hC4 := hCm.tray (k := 1) (x := n1) ht (Or.inr (Or.inl ⟨rfl, qL, qT, hq3⟩))
        refine lv_iconst (v := 1) hx hb dX3_ticket_46 (by decide) ?_
        exact m_zret C w dX3_ticket_47 (by omega) (by omega) (by first | exact Or.inl rfl | exact Or.inr rfl) (⟨by rw [hm]; rfl, by rw [hm]; exact ⟨A, _, f, g, hC4, hR⟩⟩)
      · skip
        refine lv_iconst (v := 0) hx hb dX3_ticket_16 (by decide) ?_
        exact m_zret C w dX3_ticket_17 (by omega) (by omega) (by first | exact Or.inl rfl | exact Or.inr rfl) (⟨by rw [(show sp_ticket S t1 w1 n1 = (false, S) by unfold sp_ticket; rw [if_neg (by first | (simp [n_4]; done) | (simp [inP_2 c_8 c_13]; done))])]; rfl, by rw [(show sp_ticket S t1 w1 n1 = (false, S) by unfold sp_ticket; rw [if_neg (by first | (simp [n_4]; done) | (simp [inP_2 c_8 c_13]; done))])]; exact ⟨A, tr, f, g, hC, hR⟩⟩)
set_option maxRecDepth 100000 in
set_option maxHeartbeats 4000000 in
theorem c_share (l : Launch) (D : va_G) (y : mY) (S0 : Nat) (M F : mp) (h0 : Nat) (A : Ad) (tr : Nat → Nat) (f : Nat → Nat → Int64) (g : Nat → Nat → Option Nat) (S : St) (hC : CW y h0 A tr f g S M) (c0 : Nat) (hI : Inv c0 S) (hR : CR A f g S) (a1 t1 : Int32) : ct l yX3_share wsX3_share 1 20 0 0 D y S0 M F [.ref h0, .int a1, .int t1] (fun v M' => v = some (.int (sp_share S a1 t1).1) ∧ RC y h0 (sp_share S a1 t1).2 M') := by
  refine ct_of cX3_share 3 (some .int) [(0, .ref h0), (1, .int a1), (2, .int t1)] (by decide +kernel) rfl (Nat.le_of_ble_eq_true rfl) rfl ?_
  intro p e s m below meth c ls C hnm hl w
  have hx := C.1
  have hb := C.2.1
  have hi_X0 : ∀ w ∈ u_ws RX0 TX0 5, w ∈ wsX3_share := by decide +kernel
  have hi_X3 : ∀ w ∈ u_ws RX3 TX3 7, w ∈ wsX3_share := by decide +kernel
  refine lv_iload_n hx hb dX3_share_0 rfl (lv_at hl 1 rfl) ?_
  refine m_callS C w hl.1 (As := [.int a1]) (rest := []) (c_isTray l D y S0 M F a1) ggX3_share_X3_isTray rfl (by decide +kernel) (by decide +kernel) (by decide +kernel) (show (_ ≠ _ ∧ _ ≠ _ ∧ _ = some 1) by decide +kernel) ⟨Nat.le_of_ble_eq_true rfl, Nat.le_of_ble_eq_true rfl⟩ rfl (Nat.le_of_ble_eq_true rfl) dX3_share_1 ⟨Nat.le_of_ble_eq_true rfl, Nat.le_of_ble_eq_true rfl⟩ (fun v M1 H locs hq w => ?_)
  obtain ⟨rfl, hM1⟩ := hq
  rw [hM1] at w
  clear hM1 M1
  refine W.eq (g2 := F0 m 4 ls [.int (bI (inP a1 12))]) rfl ?_
  refine lv_if_eq (tgt := 14) hx hb dX3_share_4 (by decide) (fun c_4 => ?_) (fun c_4 => ?_)
  · skip
    have n_4 : (inP a1 12) = false := bI_f c_4
    refine lv_bipush (v := (-6)) hx hb dX3_share_14 (by decide) ?_
    exact m_iret C w dX3_share_16 (by omega) (by omega) (⟨by rw [(show sp_share S a1 t1 = (-6, S) by unfold sp_share; rw [if_neg (by first | (simp [n_4, n_11]; done) | (simp [n_4]; done))])], by rw [(show sp_share S a1 t1 = (-6, S) by unfold sp_share; rw [if_neg (by first | (simp [n_4, n_11]; done) | (simp [n_4]; done))])]; exact ⟨A, tr, f, g, hC, hR⟩⟩)
  · skip
    have n_4 : (inP a1 12) = true := bI_t c_4
    refine lv_iload_n hx hb dX3_share_7 rfl (lv_at hl 2 rfl) ?_
    refine m_callS C w hl.1 (As := [.int t1]) (rest := []) (c_isTray l D y S0 M F t1) ggX3_share_X3_isTray rfl (by decide +kernel) (by decide +kernel) (by decide +kernel) (show (_ ≠ _ ∧ _ ≠ _ ∧ _ = some 1) by decide +kernel) ⟨Nat.le_of_ble_eq_true rfl, Nat.le_of_ble_eq_true rfl⟩ rfl (Nat.le_of_ble_eq_true rfl) dX3_share_8 ⟨Nat.le_of_ble_eq_true rfl, Nat.le_of_ble_eq_true rfl⟩ (fun v M1 H locs hq w => ?_)
    obtain ⟨rfl, hM1⟩ := hq
    rw [hM1] at w
    clear hM1 M1
    refine W.eq (g2 := F0 m 11 ls [.int (bI (inP t1 12))]) rfl ?_
    refine lv_if_ne (tgt := 17) hx hb dX3_share_11 (by decide) (fun c_11 => ?_) (fun c_11 => ?_)
    · skip
      have n_11 : (inP t1 12) = true := bI_t c_11
      obtain ⟨ta, hta, ea⟩ := inP_t (by decide) n_4
      obtain ⟨tb, htb, eb⟩ := inP_t (by decide) n_11
      obtain ⟨tk, na, tax, hq0, -, -⟩ := hC.1.tray hI hta
      have hm : sp_share S a1 t1 = (nI (sH S ta), wTr S (va_up (sH S) tb (sH S ta)) (va_up (sO S) tb (sO S ta))) := by unfold sp_share; rw [if_pos (by rw [n_4, n_11]; rfl), ea, eb, cN_nI (by omega), cN_nI (by omega)]
      refine lv_aload_n hx hb dX3_share_17 rfl (lv_at hl 0 rfl) ?_
      refine m_get C w hC.1.1 (index := 18) (T := TX3) (N := 7) rfl hi_X3 1 (by decide) (by decide +kernel) rfl dX3_share_18 ?_
      refine lv_iload_n hx hb dX3_share_21 rfl (lv_at hl 2 rfl) ?_
      refine m_topi (y := nI tb) eb ?_
      refine lv_aload_n hx hb dX3_share_22 rfl (lv_at hl 0 rfl) ?_
      refine m_get C w hC.1.1 (index := 18) (T := TX3) (N := 7) rfl hi_X3 1 (by decide) (by decide +kernel) rfl dX3_share_23 ?_
      refine lv_iload_n hx hb dX3_share_26 rfl (lv_at hl 1 rfl) ?_
      refine m_topi (y := nI ta) ea ?_
      refine m_hald C w hC.1.2.2.1 ta rfl (by omega) (by omega) dX3_share_27 ?_
      refine m_hast C w hC.1.2.2.1 hq0 tb rfl (by omega) (by omega) dX3_share_28 (fun H locs w => ?_)
      have hC4 := hC.tray (k := sH S ta) (x := sO S ta) htb (hC.1.2.2.2.2.2.2.2 ta hta)
      obtain ⟨M2, e_M2⟩ : ∃ z, z = mu M (xT A) (eH y 12 (va_up (fun t => some (tr t)) tb (some (tr ta)))) := ⟨_, rfl⟩
      rw [← e_M2] at hC4
      have w : mS D S0 M2 F s H locs := by rw [e_M2]; exact w
      have hq2 : M2 (tr ta) = some (eO 0 (hF (sH S ta) (zT S ta) tk na tax)) := by rw [e_M2]; exact mu_k (m_ne hq0 hC.1.2.2.1 ne_OA) hq0
      refine lv_aload_n hx hb dX3_share_29 rfl (lv_at hl 0 rfl) ?_
      refine m_get C w hC4.1.1 (index := 18) (T := TX3) (N := 7) rfl hi_X3 1 (by decide) (by decide +kernel) rfl dX3_share_30 ?_
      refine lv_iload_n hx hb dX3_share_33 rfl (lv_at hl 2 rfl) ?_
      refine m_topi (y := nI tb) eb ?_
      refine m_hald C w hC4.1.2.2.1 tb rfl (by omega) (by omega) dX3_share_34 ?_
      refine m_topq (y := some (tr ta)) (congrArg some va_ups) ?_
      refine m_getN C w hq2 (index := 43) (host := "BeadBench") (T := TX0) (N := 5) rfl hi_X0 0 (by decide) (by decide +kernel) rfl dX3_share_35 ?_
      exact m_iret C w dX3_share_38 (by omega) (by omega) (⟨by rw [hm], by rw [hm]; exact ⟨A, _, f, g, hC4, hR⟩⟩)
    · skip
      have n_11 : (inP t1 12) = false := bI_f c_11
      refine lv_bipush (v := (-6)) hx hb dX3_share_14 (by decide) ?_
      exact m_iret C w dX3_share_16 (by omega) (by omega) (⟨by rw [(show sp_share S a1 t1 = (-6, S) by unfold sp_share; rw [if_neg (by first | (simp [n_4, n_11]; done) | (simp [n_4]; done))])], by rw [(show sp_share S a1 t1 = (-6, S) by unfold sp_share; rw [if_neg (by first | (simp [n_4, n_11]; done) | (simp [n_4]; done))])]; exact ⟨A, tr, f, g, hC, hR⟩⟩)
set_option maxRecDepth 100000 in
set_option maxHeartbeats 4000000 in
theorem c_tray (l : Launch) (D : va_G) (y : mY) (S0 : Nat) (M F : mp) (h0 : Nat) (A : Ad) (tr : Nat → Nat) (f : Nat → Nat → Int64) (g : Nat → Nat → Option Nat) (S : St) (hC : CW y h0 A tr f g S M) (c0 : Nat) (hI : Inv c0 S) (hR : CR A f g S) (t1 w1 : Int32) : ct l yX3_tray wsX3_tray 1 20 0 0 D y S0 M F [.ref h0, .int t1, .int w1] (fun v M' => v = some (.int (sp_tray S t1 w1)) ∧ M' = M) := by
  refine ct_of cX3_tray 4 (some .int) [(0, .ref h0), (1, .int t1), (2, .int w1)] (by decide +kernel) rfl (Nat.le_of_ble_eq_true rfl) rfl ?_
  intro p e s m below meth c ls C hnm hl w
  have hx := C.1
  have hb := C.2.1
  have hi_X0 : ∀ w ∈ u_ws RX0 TX0 5, w ∈ wsX3_tray := by decide +kernel
  have hi_X3 : ∀ w ∈ u_ws RX3 TX3 7, w ∈ wsX3_tray := by decide +kernel
  refine lv_iload_n hx hb dX3_tray_0 rfl (lv_at hl 1 rfl) ?_
  refine m_callS C w hl.1 (As := [.int t1]) (rest := []) (c_isTray l D y S0 M F t1) ggX3_tray_X3_isTray rfl (by decide +kernel) (by decide +kernel) (by decide +kernel) (show (_ ≠ _ ∧ _ ≠ _ ∧ _ = some 1) by decide +kernel) ⟨Nat.le_of_ble_eq_true rfl, Nat.le_of_ble_eq_true rfl⟩ rfl (Nat.le_of_ble_eq_true rfl) dX3_tray_1 ⟨Nat.le_of_ble_eq_true rfl, Nat.le_of_ble_eq_true rfl⟩ (fun v M1 H locs hq w => ?_)
  obtain ⟨rfl, hM1⟩ := hq
  rw [hM1] at w
  clear hM1 M1
  refine W.eq (g2 := F0 m 4 ls [.int (bI (inP t1 12))]) rfl ?_
  refine lv_if_eq (tgt := 16) hx hb dX3_tray_4 (by decide) (fun c_4 => ?_) (fun c_4 => ?_)
  · skip
    have n_4 : (inP t1 12) = false := bI_f c_4
    refine lv_bipush (v := (-6)) hx hb dX3_tray_16 (by decide) ?_
    exact m_iret C w dX3_tray_18 (by omega) (by omega) (⟨by unfold sp_tray; rw [if_pos (by first | (simp [n_4]; done) | (simp [inP, c_8]; done) | (have c9 := (lt_s1 (z := 1) (by omega)).mp (Int32.not_le.mp c_13); simp [inP, c9]; done))], rfl⟩)
  · skip
    have n_4 : (inP t1 12) = true := bI_t c_4
    refine lv_iload_n hx hb dX3_tray_7 rfl (lv_at hl 2 rfl) ?_
    refine lv_if_lt (tgt := 16) hx hb dX3_tray_8 (by decide) (fun c_8 => ?_) (fun c_8 => ?_)
    · skip
      refine lv_bipush (v := (-6)) hx hb dX3_tray_16 (by decide) ?_
      exact m_iret C w dX3_tray_18 (by omega) (by omega) (⟨by unfold sp_tray; rw [if_pos (by first | (simp [n_4]; done) | (simp [inP, c_8]; done) | (have c9 := (lt_s1 (z := 1) (by omega)).mp (Int32.not_le.mp c_13); simp [inP, c9]; done))], rfl⟩)
    · skip
      refine lv_iload_n hx hb dX3_tray_11 rfl (lv_at hl 2 rfl) ?_
      refine lv_iconst (v := 1) hx hb dX3_tray_12 (by decide) ?_
      refine lv_icmp_le (tgt := 19) hx hb dX3_tray_13 (by decide) (fun c_13 => ?_) (fun c_13 => ?_)
      · skip
        obtain ⟨t, ht, et⟩ := inP_t (by decide) n_4
        obtain ⟨tk, na, ta, hq0, htk, -⟩ := hC.1.tray hI ht
        have hk13 := (hI.2.2.2.2.2.2.1 t ht).1
        have hw2 : inP w1 2 = true := by unfold inP; have c9 : ¬ nI 2 ≤ w1 := fun q => absurd ((lt_s1 (z := 1) (by omega)).mpr q) (Int32.not_lt.mpr c_13); simp [c_8, c9]
        have hm : sp_tray S t1 w1 = if w1 = 0 then nI (sH S t) else if sH S t = 1 then sO S t else nI (zT S t) := by unfold sp_tray; rw [if_neg (by rw [n_4, hw2]; decide), et, cN_nI (by omega)]
        refine lv_aload_n hx hb dX3_tray_19 rfl (lv_at hl 0 rfl) ?_
        refine m_get C w hC.1.1 (index := 18) (T := TX3) (N := 7) rfl hi_X3 1 (by decide) (by decide +kernel) rfl dX3_tray_20 ?_
        refine lv_iload_n hx hb dX3_tray_23 rfl (lv_at hl 1 rfl) ?_
        refine m_topi (y := nI t) et ?_
        refine m_hald C w hC.1.2.2.1 t rfl (by omega) (by omega) dX3_tray_24 ?_
        refine lv_astore_n (lv' := [(3, .ref (tr t)), (0, .ref h0), (1, .int t1), (2, .int w1)]) hx hb dX3_tray_25 rfl hl (by decide) rfl (fun ls hl => ?_)
        refine lv_iload_n hx hb dX3_tray_26 rfl (lv_at hl 3 rfl) ?_
        refine lv_if_ne (tgt := 35) hx hb dX3_tray_27 (by decide) (fun c_27 => ?_) (fun c_27 => ?_)
        · skip
          refine lv_aload_n hx hb dX3_tray_35 rfl (lv_at hl 0 rfl) ?_
          refine m_getN C w hq0 (index := 43) (host := "BeadBench") (T := TX0) (N := 5) rfl hi_X0 0 (by decide) (by decide +kernel) rfl dX3_tray_36 ?_
          refine lv_iconst (v := 1) hx hb dX3_tray_39 (by decide) ?_
          refine lv_icmp_ne (tgt := 50) hx hb dX3_tray_40 (by decide) (fun c_40 => ?_) (fun c_40 => ?_)
          · skip
            have n_40 : ¬ (sH S t) = 1 := fun h => absurd ((nI_eq (by omega) (by omega)).mpr h) c_40
            refine lv_aload_n hx hb dX3_tray_50 rfl (lv_at hl 0 rfl) ?_
            refine m_getN C w hq0 (index := 89) (host := "BeadBench") (T := TX0) (N := 5) rfl hi_X0 1 (by decide) (by decide +kernel) rfl dX3_tray_51 ?_
            exact m_iret C w dX3_tray_54 (by omega) (by omega) (⟨by rw [hm, if_neg c_27, if_neg n_40], rfl⟩)
          · skip
            have n_40 : (sH S t) = 1 := (nI_eq (by omega) (by omega)).mp (by first | exact c_40 | exact Classical.not_not.mp c_40)
            refine lv_aload_n hx hb dX3_tray_43 rfl (lv_at hl 0 rfl) ?_
            refine m_getN C w hq0 (index := 125) (host := "BeadBench") (T := TX0) (N := 5) rfl hi_X0 2 (by decide) (by decide +kernel) rfl dX3_tray_44 ?_
            refine lv_goto (tgt := 54) hx hb dX3_tray_47 (by decide) ?_
            exact m_iret C w dX3_tray_54 (by omega) (by omega) (⟨by rw [hm, if_neg c_27, if_pos n_40, htk n_40], rfl⟩)
        · skip
          refine lv_aload_n hx hb dX3_tray_30 rfl (lv_at hl 0 rfl) ?_
          refine m_getN C w hq0 (index := 43) (host := "BeadBench") (T := TX0) (N := 5) rfl hi_X0 0 (by decide) (by decide +kernel) rfl dX3_tray_31 ?_
          exact m_iret C w dX3_tray_34 (by omega) (by omega) (⟨by rw [hm, if_pos c_27], rfl⟩)
      · skip
        refine lv_bipush (v := (-6)) hx hb dX3_tray_16 (by decide) ?_
        exact m_iret C w dX3_tray_18 (by omega) (by omega) (⟨by unfold sp_tray; rw [if_pos (by first | (simp [n_4]; done) | (simp [inP, c_8]; done) | (have c9 := (lt_s1 (z := 1) (by omega)).mp (Int32.not_le.mp c_13); simp [inP, c9]; done))], rfl⟩)
set_option maxRecDepth 100000 in
set_option maxHeartbeats 4000000 in
theorem c_told (l : Launch) (D : va_G) (y : mY) (S0 : Nat) (M F : mp) (h0 : Nat) (A : Ad) (tr : Nat → Nat) (f : Nat → Nat → Int64) (g : Nat → Nat → Option Nat) (S : St) (hC : CW y h0 A tr f g S M) (c0 : Nat) (hI : Inv c0 S) (hR : CR A f g S) (w1 : Int32) : ct l yX3_told wsX3_told 0 0 0 0 D y S0 M F [.ref h0, .int w1] (fun v M' => v = some (.int (sp_told S w1)) ∧ M' = M) := by
  refine ct_of cX3_told 2 (some .int) [(0, .ref h0), (1, .int w1)] (by decide +kernel) rfl (Nat.le_of_ble_eq_true rfl) rfl ?_
  intro p e s m below meth c ls C hnm hl w
  have hx := C.1
  have hb := C.2.1
  have hi_X3 : ∀ w ∈ u_ws RX3 TX3 7, w ∈ wsX3_told := by decide +kernel
  refine lv_iload_n hx hb dX3_told_0 rfl (lv_at hl 1 rfl) ?_
  refine lv_if_ne (tgt := 9) hx hb dX3_told_1 (by decide) (fun c_1 => ?_) (fun c_1 => ?_)
  · skip
    refine lv_iload_n hx hb dX3_told_9 rfl (lv_at hl 1 rfl) ?_
    refine lv_iconst (v := 1) hx hb dX3_told_10 (by decide) ?_
    refine lv_icmp_lt (tgt := 32) hx hb dX3_told_11 (by decide) (fun c_11 => ?_) (fun c_11 => ?_)
    · skip
      refine lv_iload_n hx hb dX3_told_32 rfl (lv_at hl 1 rfl) ?_
      refine lv_bipush (v := 7) hx hb dX3_told_33 (by decide) ?_
      refine lv_icmp_ne (tgt := 45) hx hb dX3_told_35 (by decide) (fun c_35 => ?_) (fun c_35 => ?_)
      · skip
        refine lv_bipush (v := (-6)) hx hb dX3_told_45 (by decide) ?_
        exact m_iret C w dX3_told_47 (by omega) (by omega) (⟨by unfold sp_told; rw [if_neg c_1, if_neg (by first | (simp [c_11]; done) | (have c9 : (6 : Int32) < w1 := c_20; simp [c9]; done)), if_neg c_35], rfl⟩)
      · skip
        refine lv_aload_n hx hb dX3_told_38 rfl (lv_at hl 0 rfl) ?_
        refine m_get C w hC.1.1 (index := 36) (T := TX3) (N := 7) rfl hi_X3 6 (by decide) (by decide +kernel) rfl dX3_told_39 ?_
        refine lv_goto (tgt := 47) hx hb dX3_told_42 (by decide) ?_
        exact m_iret C w dX3_told_47 (by omega) (by omega) (⟨by unfold sp_told; rw [if_neg c_1, if_neg (by first | (simp [c_11]; done) | (have c9 : (6 : Int32) < w1 := c_20; simp [c9]; done)), if_pos c_35], rfl⟩)
    · skip
      refine lv_iload_n hx hb dX3_told_14 rfl (lv_at hl 1 rfl) ?_
      refine lv_aload_n hx hb dX3_told_15 rfl (lv_at hl 0 rfl) ?_
      refine m_get C w hC.1.1 (index := 28) (T := TX3) (N := 7) rfl hi_X3 4 (by decide) (by decide +kernel) rfl dX3_told_16 ?_
      refine m_alenI C w hC.1.2.2.2.2.1 dX3_told_19 ?_
      refine lv_icmp_gt (tgt := 32) hx hb dX3_told_20 (by decide) (fun c_20 => ?_) (fun c_20 => ?_)
      · skip
        refine lv_iload_n hx hb dX3_told_32 rfl (lv_at hl 1 rfl) ?_
        refine lv_bipush (v := 7) hx hb dX3_told_33 (by decide) ?_
        refine lv_icmp_ne (tgt := 45) hx hb dX3_told_35 (by decide) (fun c_35 => ?_) (fun c_35 => ?_)
        · skip
          refine lv_bipush (v := (-6)) hx hb dX3_told_45 (by decide) ?_
          exact m_iret C w dX3_told_47 (by omega) (by omega) (⟨by unfold sp_told; rw [if_neg c_1, if_neg (by first | (simp [c_11]; done) | (have c9 : (6 : Int32) < w1 := c_20; simp [c9]; done)), if_neg c_35], rfl⟩)
        · skip
          refine lv_aload_n hx hb dX3_told_38 rfl (lv_at hl 0 rfl) ?_
          refine m_get C w hC.1.1 (index := 36) (T := TX3) (N := 7) rfl hi_X3 6 (by decide) (by decide +kernel) rfl dX3_told_39 ?_
          refine lv_goto (tgt := 47) hx hb dX3_told_42 (by decide) ?_
          exact m_iret C w dX3_told_47 (by omega) (by omega) (⟨by unfold sp_told; rw [if_neg c_1, if_neg (by first | (simp [c_11]; done) | (have c9 : (6 : Int32) < w1 := c_20; simp [c9]; done)), if_pos c_35], rfl⟩)
      · skip
        obtain ⟨j, hj, ej⟩ := nI_of2 (M := 6) (n := 6) rfl (fun q => c_11 (Int32.lt_trans q (by decide))) (Int32.not_lt.mp c_20)
        have hj1 : 1 ≤ j := by
          rcases Nat.eq_zero_or_pos j with h | h
          · rw [ej, h] at c_11; exact absurd (show nI 0 < 1 by decide) c_11
          · exact h
        refine lv_aload_n hx hb dX3_told_23 rfl (lv_at hl 0 rfl) ?_
        refine m_get C w hC.1.1 (index := 28) (T := TX3) (N := 7) rfl hi_X3 4 (by decide) (by decide +kernel) rfl dX3_told_24 ?_
        refine lv_iload_n hx hb dX3_told_27 rfl (lv_at hl 1 rfl) ?_
        refine m_topi (y := nI j) ej ?_
        refine lv_iconst (v := 1) hx hb dX3_told_28 (by decide) ?_
        refine lv_isub hx hb dX3_told_29 ?_
        refine m_topi (y := nI (j - 1)) (by rw [show (1 : Int32) = nI 1 from rfl]; exact pk_sub hj1) ?_
        refine m_iald C w hC.1.2.2.2.2.1 (j - 1) rfl (by omega) (by omega) dX3_told_30 ?_
        exact m_iret C w dX3_told_31 (by omega) (by omega) (⟨by unfold sp_told; rw [if_neg c_1, if_pos (by have c9 : ¬ (6 : Int32) < w1 := c_20; simp [c_11, c9]), ej, cN_nI (by omega)], rfl⟩)
  · skip
    refine lv_aload_n hx hb dX3_told_4 rfl (lv_at hl 0 rfl) ?_
    refine m_get C w hC.1.1 (index := 32) (T := TX3) (N := 7) rfl hi_X3 5 (by decide) (by decide +kernel) rfl dX3_told_5 ?_
    exact m_iret C w dX3_told_8 (by omega) (by omega) (⟨by unfold sp_told; rw [if_pos c_1], rfl⟩)
end
section
theorem sumW_congr {f g : Nat → Int64} : ∀ {n : Nat}, (∀ i, i < n → f i = g i) → sumW f n = sumW g n := by
  intro n
  induction n with
  | zero => intro _; rfl
  | succ n ih =>
    intro h
    unfold sumW
    rw [ih (fun i hi => h i (by omega)), h n (by omega)]
theorem CW.pol {y : mY} {h0 : Nat} {A : Ad} {tr : Nat → Nat} {f : Nat → Nat → Int64} {g : Nat → Nat → Option Nat} {S : St} {M : mp} (h : CW y h0 A tr f g S M) {q : Nat} (q1 : 1 ≤ q) (q2 : q ≤ sP S) (z : Int32) : CW y h0 A tr f g (wPo S (va_up (sL S) q z)) (mu M (xp A q) (eO 1 [.int (nI (sS S q + 1)), .int (nI q), .int z])) := by
  obtain ⟨⟨h1, ⟨a2, b2, h2⟩, h3, h4, h5, h6, h7, h8⟩, ⟨k1, k2, k3⟩, d1, d2, d3, d4, d5⟩ := h
  have hq := h7 q q1 q2
  refine ⟨⟨mu_k (m_ne h1 hq (by simp)) h1, ⟨a2, b2, mu_k (m_ne h2 hq (by simp)) h2⟩, mu_k (m_ne h3 hq (by simp)) h3, mu_k (m_ne h4 hq (by simp)) h4, mu_k (m_ne h5 hq (by simp)) h5, fun r hr => mu_k (m_ne (h6 r hr) hq (by simp)) (h6 r hr), fun j j1 j2 => ?_, fun t ht => ?_⟩, ⟨fun j hj => mu_k (m_ne (k1 j hj) hq (by simp)) (k1 j hj), fun j hj => mu_k (m_ne (k2 j hj) hq (by simp)) (k2 j hj), k3⟩, d1, d2, d3, d4, d5⟩
  · show mu M (xp A q) _ (xp A j) = some (eO 1 [.int (nI (sS S j + 1)), .int (nI j), .int (va_up (sL S) q z j)])
    by_cases e : j = q
    · rw [e, va_ups]; exact mu_s
    · rw [va_upo e]; exact mu_k (fun e1 => e (d5 j q j1 j2 q1 q2 e1)) (h7 j j1 j2)
  · rcases h8 t ht with q9 | ⟨q9, a3, b3, q3⟩ | q9
    · exact Or.inl q9
    · exact Or.inr (Or.inl ⟨q9, a3, b3, mu_k (m_ne q3 hq (by simp)) q3⟩)
    · exact Or.inr (Or.inr q9)
set_option maxRecDepth 100000 in
set_option maxHeartbeats 4000000 in
theorem c_what (l : Launch) (D : va_G) (y : mY) (S0 : Nat) (M F : mp) (h0 : Nat) (A : Ad) (tr : Nat → Nat) (f : Nat → Nat → Int64) (g : Nat → Nat → Option Nat) (S : St) (hC : CW y h0 A tr f g S M) (c0 : Nat) (hI : Inv c0 S) (hR : CR A f g S) (t1 i1 : Int32) : ct l yX3_what wsX3_what 1 28 0 0 D y S0 M F [.ref h0, .int t1, .int i1] (fun v M' => v = some (.int (sp_what S t1 i1)) ∧ M' = M) := by
  refine ct_of cX3_what 6 (some .int) [(0, .ref h0), (1, .int t1), (2, .int i1)] (by decide +kernel) rfl (Nat.le_of_ble_eq_true rfl) rfl ?_
  intro p e s m below meth c ls C hnm hl w
  have hx := C.1
  have hb := C.2.1
  have hi_X0 : ∀ w ∈ u_ws RX0 TX0 5, w ∈ wsX3_what := by decide +kernel
  have hi_X3 : ∀ w ∈ u_ws RX3 TX3 7, w ∈ wsX3_what := by decide +kernel
  refine lv_iload_n hx hb dX3_what_0 rfl (lv_at hl 1 rfl) ?_
  refine m_callS C w hl.1 (As := [.int t1]) (rest := []) (c_isTray l D y S0 M F t1) ggX3_what_X3_isTray rfl (by decide +kernel) (by decide +kernel) (by decide +kernel) (show (_ ≠ _ ∧ _ ≠ _ ∧ _ = some 1) by decide +kernel) ⟨Nat.le_of_ble_eq_true rfl, Nat.le_of_ble_eq_true rfl⟩ rfl (Nat.le_of_ble_eq_true rfl) dX3_what_1 ⟨Nat.le_of_ble_eq_true rfl, Nat.le_of_ble_eq_true rfl⟩ (fun v M1 H locs hq w => ?_)
  obtain ⟨rfl, hM1⟩ := hq
  rw [hM1] at w
  clear hM1 M1
  refine W.eq (g2 := F0 m 4 ls [.int (bI (inP t1 12))]) rfl ?_
  refine lv_if_ne (tgt := 10) hx hb dX3_what_4 (by decide) (fun c_4 => ?_) (fun c_4 => ?_)
  · skip
    have n_4 : (inP t1 12) = true := bI_t c_4
    obtain ⟨t, ht, et⟩ := inP_t (by decide) n_4
    obtain ⟨tk, na, ta, hq0, -, hrow⟩ := hC.1.tray hI ht
    have hk13 := (hI.2.2.2.2.2.2.1 t ht).1
    have hk : sH S t < 14 := by omega
    have hz := zT_le hI ht
    have hb1 := hI.1
    have hb2 := hI.2.1
    have hb3 := hI.2.2.1
    have hm0 : sp_what S t1 i1 = wha1 S t i1 := by unfold sp_what; rw [if_neg (by simp [n_4]), et, cN_nI (by omega)]
    refine lv_aload_n hx hb dX3_what_10 rfl (lv_at hl 0 rfl) ?_
    refine m_get C w hC.1.1 (index := 18) (T := TX3) (N := 7) rfl hi_X3 1 (by decide) (by decide +kernel) rfl dX3_what_11 ?_
    refine lv_iload_n hx hb dX3_what_14 rfl (lv_at hl 1 rfl) ?_
    refine m_topi (y := nI t) et ?_
    refine m_hald C w hC.1.2.2.1 t rfl (by omega) (by omega) dX3_what_15 ?_
    refine lv_astore_n (lv' := [(3, .ref (tr t)), (0, .ref h0), (1, .int t1), (2, .int i1)]) hx hb dX3_what_16 rfl hl (by decide) rfl (fun ls hl => ?_)
    refine lv_aload_n hx hb dX3_what_17 rfl (lv_at hl 0 rfl) ?_
    refine m_callV C w hl.1 (As := []) (rest := []) (c_Hold_refusal l D y S0 M F (tr t) (sH S t) (zT S t) tk na ta hq0 hk hz) gX3_what_X0_refusal rfl hq0 (T := TX0) (N := 5) rfl (show (_ = _ ∧ _ ≠ _ ∧ _ ≠ _ ∧ _ = some 0) by decide +kernel) ⟨Nat.le_of_ble_eq_true rfl, Nat.le_of_ble_eq_true rfl⟩ rfl (Nat.le_of_ble_eq_true rfl) dX3_what_18 ⟨Nat.le_of_ble_eq_true rfl, Nat.le_of_ble_eq_true rfl⟩ (fun v M1 H locs hq w => ?_)
    obtain ⟨rfl, hM1⟩ := hq
    rw [hM1] at w
    clear hM1 M1
    refine W.eq (g2 := F0 m 21 ls [.int (fR (sH S t))]) rfl ?_
    refine lv_istore (lv' := [(4, .int (fR (sH S t))), (3, .ref (tr t)), (0, .ref h0), (1, .int t1), (2, .int i1)]) hx hb dX3_what_21 hl (by decide) rfl (fun ls hl => ?_)
    refine lv_iload hx hb dX3_what_23 (lv_at hl 0 rfl) ?_
    refine lv_if_eq (tgt := 31) hx hb dX3_what_25 (by decide) (fun c_25 => ?_) (fun c_25 => ?_)
    · skip
      have h2 : 2 ≤ sH S t := fR_0.mp c_25
      obtain ⟨hr, -, ekd, etr, rfl, rfl⟩ := hrow h2
      have hzT : zT S t = sZ S (rowT S t) := by unfold zT; rw [if_pos h2]
      have hna : M (xn A (rowT S t + 1)) = some (eL y (zT S t) (f (rowT S t + 1))) := by rw [hzT]; exact hC.2.1.1 _ hr
      have hta : M (xt A (rowT S t + 1)) = some (eT y (zT S t) (g (rowT S t + 1))) := by rw [hzT]; exact hC.2.1.2.1 _ hr
      refine lv_aload_n hx hb dX3_what_31 rfl (lv_at hl 1 rfl) ?_
      refine lv_iload_n hx hb dX3_what_32 rfl (lv_at hl 4 rfl) ?_
      refine m_callV C w hl.1 (As := [.int i1]) (rest := []) (c_Hold_hasPlace l D y S0 M F (tr t) (sH S t) (zT S t) tk (xn A (rowT S t + 1)) (xt A (rowT S t + 1)) hq0 hk hz i1) gX3_what_X0_hasPlace rfl hq0 (T := TX0) (N := 5) rfl (show (_ = _ ∧ _ ≠ _ ∧ _ ≠ _ ∧ _ = some 1) by decide +kernel) ⟨Nat.le_of_ble_eq_true rfl, Nat.le_of_ble_eq_true rfl⟩ rfl (Nat.le_of_ble_eq_true rfl) dX3_what_33 ⟨Nat.le_of_ble_eq_true rfl, Nat.le_of_ble_eq_true rfl⟩ (fun v M1 H locs hq w => ?_)
      obtain ⟨rfl, hM1⟩ := hq
      rw [hM1] at w
      clear hM1 M1
      refine W.eq (g2 := F0 m 36 ls [.int (bI (inP i1 (zT S t)))]) rfl ?_
      refine lv_if_ne (tgt := 42) hx hb dX3_what_36 (by decide) (fun c_36 => ?_) (fun c_36 => ?_)
      · skip
        have n_36 : (inP i1 (zT S t)) = true := bI_t c_36
        obtain ⟨i, hi, ei⟩ := inP_t (by omega) n_36
        have hxv := (hI.2.2.2.1 _ hr).2.2.2 i (by omega)
        have hgx := (hR.1 _ i hr (show i < sZ S (rowT S t) by omega)).2
        have hfx := (hR.1 _ i hr (show i < sZ S (rowT S t) by omega)).1
        have hat : atx S t i1 = sC S (rowT S t) i := by unfold atx; rw [ei, cN_nI (by omega)]
        refine lv_aload_n hx hb dX3_what_42 rfl (lv_at hl 1 rfl) ?_
        refine m_callV C w hl.1 (As := []) (rest := []) (c_Hold_isN l D y S0 M F (tr t) (sH S t) (zT S t) tk (xn A (rowT S t + 1)) (xt A (rowT S t + 1)) hq0 hk hz) gX3_what_X0_isOfNumbers rfl hq0 (T := TX0) (N := 5) rfl (show (_ = _ ∧ _ ≠ _ ∧ _ ≠ _ ∧ _ = some 0) by decide +kernel) ⟨Nat.le_of_ble_eq_true rfl, Nat.le_of_ble_eq_true rfl⟩ rfl (Nat.le_of_ble_eq_true rfl) dX3_what_43 ⟨Nat.le_of_ble_eq_true rfl, Nat.le_of_ble_eq_true rfl⟩ (fun v M1 H locs hq w => ?_)
        obtain ⟨rfl, hM1⟩ := hq
        rw [hM1] at w
        clear hM1 M1
        refine W.eq (g2 := F0 m 46 ls [.int (bI (isN (sH S t)))]) rfl ?_
        refine lv_if_eq (tgt := 51) hx hb dX3_what_46 (by decide) (fun c_46 => ?_) (fun c_46 => ?_)
        · skip
          have n_46 : (isN (sH S t)) = false := bI_f c_46
          refine lv_aload_n hx hb dX3_what_51 rfl (lv_at hl 1 rfl) ?_
          refine m_getN C w hq0 (index := 73) (host := "BeadBench") (T := TX0) (N := 5) rfl hi_X0 4 (by decide) (by decide +kernel) rfl dX3_what_52 ?_
          refine lv_iload_n hx hb dX3_what_55 rfl (lv_at hl 4 rfl) ?_
          refine m_topi (y := nI i) ei ?_
          refine m_tald C w hta i rfl (by omega) (by omega) dX3_what_56 ?_
          refine mq_astore (lv' := [(5, va_rf ((g (rowT S t + 1)) i)), (4, .int (fR (sH S t))), (3, .ref (tr t)), (0, .ref h0), (1, .int t1), (2, .int i1)]) hx hb dX3_what_57 hl (by decide) rfl (fun ls hl => ?_)
          refine mq_aload hx hb dX3_what_59 (lv_at hl 0 rfl) ?_
          rcases th_cases (A := A) hI hxv with ⟨e0, h9⟩ | ⟨pz, p1, p2, e0, ex, hk10⟩ | ⟨r2, hr2, e0, ex, hk10, hk6, -⟩
          · skip
            rw [hgx, e0] at hl ⊢
            refine lv_ifnonnullN hx hb dX3_what_61 ?_
            refine lv_iconst (v := 0) hx hb dX3_what_64 (by decide) ?_
            refine lv_goto (tgt := 73) hx hb dX3_what_65 (by decide) ?_
            exact m_iret C w dX3_what_73 (by omega) (by omega) (⟨by
              rw [hm0]
              unfold wha1
              rw [if_neg (by omega), if_neg (by rw [n_36]; decide), if_neg (by rw [n_46]; decide), hat]
              have hx0 : sC S (rowT S t) i = 0 := by
                rcases h9 with q | q
                · have := isN_f n_46 h2; omega
                · exact q
              rw [if_pos hx0], rfl⟩)
          · skip
            rw [hgx, e0] at hl ⊢
            have hpc := hC.1.2.2.2.2.2.2.1 pz p1 p2
            refine lv_ifnonnull (tgt := 68) hx hb dX3_what_61 (by decide) ?_
            refine lv_aload hx hb dX3_what_68 (lv_at hl 0 rfl) ?_
            refine m_callU C w hl.1 (As := []) (rest := []) (c_Piece_sort l D y S0 M F (xp A pz) (nI (sS S pz + 1)) (nI pz) (sL S pz) hpc) (va_cwA (owner := "BeadBench$Thing") (x := ⟨"BeadBench$Thing", "sortOfThing", "()I"⟩) 0 C.2.2.2.2.1 gX3_what_X1_sortOfThing_u128X1 rfl rfl rfl (C.2.2.2.2.2.2.2.1.2.1 _ (by decide +kernel)) (by decide +kernel) ⟨Nat.le_of_ble_eq_true rfl, Nat.le_of_ble_eq_true rfl⟩) hpc (T := TX1) (N := 3) rfl rfl (Nat.le_of_ble_eq_true rfl) dX3_what_70 ⟨Nat.le_of_ble_eq_true rfl, Nat.le_of_ble_eq_true rfl⟩ (fun v M1 H locs hq w => ?_)
            obtain ⟨rfl, hM1⟩ := hq
            rw [hM1] at w
            clear hM1 M1
            refine W.eq (g2 := F0 m 73 ls [.int (nI (sS S pz + 1))]) rfl ?_
            exact m_iret C w dX3_what_73 (by omega) (by omega) (⟨by
              rw [hm0]
              unfold wha1
              rw [if_neg (by omega), if_neg (by rw [n_36]; decide), if_neg (by rw [n_46]; decide), hat]
              rw [ex, if_neg (lN_ne (by omega) p1), if_neg (lN_nn (by omega)), lN_pN (by omega)], rfl⟩)
          · skip
            rw [hgx, e0] at hl ⊢
            have hrc := hC.1.2.2.2.2.2.1 r2 hr2
            have hz2 : sZ S r2 ≤ 64 := (hI.2.2.2.1 r2 hr2).2.2.1
            have hk2 := (hI.2.2.2.1 r2 hr2).2.1
            refine lv_ifnonnull (tgt := 68) hx hb dX3_what_61 (by decide) ?_
            refine lv_aload hx hb dX3_what_68 (lv_at hl 0 rfl) ?_
            refine m_callU C w hl.1 (As := []) (rest := []) (c_Hold_sort l D y S0 M F (xr A r2)) (va_cwA (owner := "BeadBench$Thing") (x := ⟨"BeadBench$Thing", "sortOfThing", "()I"⟩) 0 C.2.2.2.2.1 gX3_what_X0_sortOfThing_u128X0 rfl rfl rfl (C.2.2.2.2.2.2.2.1.2.1 _ (by decide +kernel)) (by decide +kernel) ⟨Nat.le_of_ble_eq_true rfl, Nat.le_of_ble_eq_true rfl⟩) hrc (T := TX0) (N := 5) rfl rfl (Nat.le_of_ble_eq_true rfl) dX3_what_70 ⟨Nat.le_of_ble_eq_true rfl, Nat.le_of_ble_eq_true rfl⟩ (fun v M1 H locs hq w => ?_)
            obtain ⟨rfl, hM1⟩ := hq
            rw [hM1] at w
            clear hM1 M1
            refine W.eq (g2 := F0 m 73 ls [.int 6]) rfl ?_
            exact m_iret C w dX3_what_73 (by omega) (by omega) (⟨by
              rw [hm0]
              unfold wha1
              rw [if_neg (by omega), if_neg (by rw [n_36]; decide), if_neg (by rw [n_46]; decide), hat]
              rw [ex, if_neg (neg_ne (by omega)), if_pos (neg_lt (by omega))], rfl⟩)
        · skip
          have n_46 : (isN (sH S t)) = true := bI_t c_46
          refine lv_iconst (v := 1) hx hb dX3_what_49 (by decide) ?_
          exact m_iret C w dX3_what_50 (by omega) (by omega) (⟨by rw [hm0]; unfold wha1; rw [if_neg (by omega), if_neg (by rw [n_36]; decide), if_pos n_46], rfl⟩)
      · skip
        have n_36 : (inP i1 (zT S t)) = false := bI_f c_36
        refine lv_bipush (v := (-4)) hx hb dX3_what_39 (by decide) ?_
        exact m_iret C w dX3_what_41 (by omega) (by omega) (⟨by rw [hm0]; unfold wha1; rw [if_neg (by omega), if_pos n_36], rfl⟩)
    · skip
      refine lv_iload hx hb dX3_what_28 (lv_at hl 0 rfl) ?_
      exact m_iret C w dX3_what_30 (by omega) (by omega) (⟨by rw [hm0]; unfold wha1; rw [if_pos (by have := mt fR_0.mpr c_25; omega)], rfl⟩)
  · skip
    have n_4 : (inP t1 12) = false := bI_f c_4
    refine lv_bipush (v := (-6)) hx hb dX3_what_7 (by decide) ?_
    exact m_iret C w dX3_what_9 (by omega) (by omega) (⟨by unfold sp_what; rw [if_pos (by simp [n_4])], rfl⟩)
set_option maxRecDepth 100000 in
set_option maxHeartbeats 4000000 in
theorem c_at (l : Launch) (D : va_G) (y : mY) (S0 : Nat) (M F : mp) (h0 : Nat) (A : Ad) (tr : Nat → Nat) (f : Nat → Nat → Int64) (g : Nat → Nat → Option Nat) (S : St) (hC : CW y h0 A tr f g S M) (c0 : Nat) (hI : Inv c0 S) (hR : CR A f g S) (t1 i1 : Int32) : ct l yX3_at wsX3_at 1 28 0 0 D y S0 M F [.ref h0, .int t1, .int i1] (fun v M' => v = some (.long (sp_at S t1 i1)) ∧ M' = M) := by
  refine ct_of cX3_at 5 (some .long) [(0, .ref h0), (1, .int t1), (2, .int i1)] (by decide +kernel) rfl (Nat.le_of_ble_eq_true rfl) rfl ?_
  intro p e s m below meth c ls C hnm hl w
  have hx := C.1
  have hb := C.2.1
  have hi_X0 : ∀ w ∈ u_ws RX0 TX0 5, w ∈ wsX3_at := by decide +kernel
  have hi_X3 : ∀ w ∈ u_ws RX3 TX3 7, w ∈ wsX3_at := by decide +kernel
  refine lv_iload_n hx hb dX3_at_0 rfl (lv_at hl 1 rfl) ?_
  refine m_callS C w hl.1 (As := [.int t1]) (rest := []) (c_isTray l D y S0 M F t1) ggX3_at_X3_isTray rfl (by decide +kernel) (by decide +kernel) (by decide +kernel) (show (_ ≠ _ ∧ _ ≠ _ ∧ _ = some 1) by decide +kernel) ⟨Nat.le_of_ble_eq_true rfl, Nat.le_of_ble_eq_true rfl⟩ rfl (Nat.le_of_ble_eq_true rfl) dX3_at_1 ⟨Nat.le_of_ble_eq_true rfl, Nat.le_of_ble_eq_true rfl⟩ (fun v M1 H locs hq w => ?_)
  obtain ⟨rfl, hM1⟩ := hq
  rw [hM1] at w
  clear hM1 M1
  refine W.eq (g2 := F0 m 4 ls [.int (bI (inP t1 12))]) rfl ?_
  refine lv_if_eq (tgt := 20) hx hb dX3_at_4 (by decide) (fun c_4 => ?_) (fun c_4 => ?_)
  · skip
    have n_4 : (inP t1 12) = false := bI_f c_4
    refine lv_lconst (v := 0) hx hb dX3_at_20 (by decide) ?_
    exact m_lret C w dX3_at_21 (by omega) (by omega) (⟨by unfold sp_at; rw [if_pos n_4], rfl⟩)
  · skip
    have n_4 : (inP t1 12) = true := bI_t c_4
    obtain ⟨t, ht, et⟩ := inP_t (by decide) n_4
    obtain ⟨tk, na, ta, hq0, -, hrow⟩ := hC.1.tray hI ht
    have hk13 := (hI.2.2.2.2.2.2.1 t ht).1
    have hk : sH S t < 14 := by omega
    have hz := zT_le hI ht
    have hb1 := hI.1
    have hb2 := hI.2.1
    have hb3 := hI.2.2.1
    have hm0 : sp_at S t1 i1 = at1 S t i1 := by unfold sp_at; rw [if_neg (by simp [n_4]), et, cN_nI (by omega)]
    refine lv_aload_n hx hb dX3_at_7 rfl (lv_at hl 0 rfl) ?_
    refine m_get C w hC.1.1 (index := 18) (T := TX3) (N := 7) rfl hi_X3 1 (by decide) (by decide +kernel) rfl dX3_at_8 ?_
    refine lv_iload_n hx hb dX3_at_11 rfl (lv_at hl 1 rfl) ?_
    refine m_topi (y := nI t) et ?_
    refine m_hald C w hC.1.2.2.1 t rfl (by omega) (by omega) dX3_at_12 ?_
    refine lv_iload_n hx hb dX3_at_13 rfl (lv_at hl 2 rfl) ?_
    refine m_callV C w hl.1 (As := [.int i1]) (rest := []) (c_Hold_hasPlace l D y S0 M F (tr t) (sH S t) (zT S t) tk na ta hq0 hk hz i1) gX3_at_X0_hasPlace rfl hq0 (T := TX0) (N := 5) rfl (show (_ = _ ∧ _ ≠ _ ∧ _ ≠ _ ∧ _ = some 1) by decide +kernel) ⟨Nat.le_of_ble_eq_true rfl, Nat.le_of_ble_eq_true rfl⟩ rfl (Nat.le_of_ble_eq_true rfl) dX3_at_14 ⟨Nat.le_of_ble_eq_true rfl, Nat.le_of_ble_eq_true rfl⟩ (fun v M1 H locs hq w => ?_)
    obtain ⟨rfl, hM1⟩ := hq
    rw [hM1] at w
    clear hM1 M1
    refine W.eq (g2 := F0 m 17 ls [.int (bI (inP i1 (zT S t)))]) rfl ?_
    refine lv_if_ne (tgt := 22) hx hb dX3_at_17 (by decide) (fun c_17 => ?_) (fun c_17 => ?_)
    · skip
      have n_17 : (inP i1 (zT S t)) = true := bI_t c_17
      obtain ⟨i, hi, ei⟩ := inP_t (by omega) n_17
      have h2 : 2 ≤ sH S t := Classical.byContradiction fun q => by unfold zT at hi; rw [if_neg q] at hi; omega
      obtain ⟨hr, -, ekd, etr, rfl, rfl⟩ := hrow h2
      have hzT : zT S t = sZ S (rowT S t) := by unfold zT; rw [if_pos h2]
      have hna : M (xn A (rowT S t + 1)) = some (eL y (zT S t) (f (rowT S t + 1))) := by rw [hzT]; exact hC.2.1.1 _ hr
      have hta : M (xt A (rowT S t + 1)) = some (eT y (zT S t) (g (rowT S t + 1))) := by rw [hzT]; exact hC.2.1.2.1 _ hr
      have hxv := (hI.2.2.2.1 _ hr).2.2.2 i (by omega)
      have hgx := (hR.1 _ i hr (show i < sZ S (rowT S t) by omega)).2
      have hfx := (hR.1 _ i hr (show i < sZ S (rowT S t) by omega)).1
      have hat : atx S t i1 = sC S (rowT S t) i := by unfold atx; rw [ei, cN_nI (by omega)]
      refine lv_aload_n hx hb dX3_at_22 rfl (lv_at hl 0 rfl) ?_
      refine m_get C w hC.1.1 (index := 18) (T := TX3) (N := 7) rfl hi_X3 1 (by decide) (by decide +kernel) rfl dX3_at_23 ?_
      refine lv_iload_n hx hb dX3_at_26 rfl (lv_at hl 1 rfl) ?_
      refine m_topi (y := nI t) et ?_
      refine m_hald C w hC.1.2.2.1 t rfl (by omega) (by omega) dX3_at_27 ?_
      refine lv_astore_n (lv' := [(3, .ref (tr t)), (0, .ref h0), (1, .int t1), (2, .int i1)]) hx hb dX3_at_28 rfl hl (by decide) rfl (fun ls hl => ?_)
      refine lv_aload_n hx hb dX3_at_29 rfl (lv_at hl 0 rfl) ?_
      refine m_getN C w hq0 (index := 73) (host := "BeadBench") (T := TX0) (N := 5) rfl hi_X0 4 (by decide) (by decide +kernel) rfl dX3_at_30 ?_
      refine lv_iload_n hx hb dX3_at_33 rfl (lv_at hl 3 rfl) ?_
      refine m_topi (y := nI i) ei ?_
      refine m_tald C w hta i rfl (by omega) (by omega) dX3_at_34 ?_
      refine mq_astore (lv' := [(4, va_rf ((g (rowT S t + 1)) i)), (3, .ref (tr t)), (0, .ref h0), (1, .int t1), (2, .int i1)]) hx hb dX3_at_35 hl (by decide) rfl (fun ls hl => ?_)
      refine mq_aload hx hb dX3_at_37 (lv_at hl 0 rfl) ?_
      rcases th_cases (A := A) hI hxv with ⟨e0, h9⟩ | ⟨pz, p1, p2, e0, ex, hk10⟩ | ⟨r2, hr2, e0, ex, hk10, hk6, -⟩
      · skip
        rw [hgx, e0] at hl ⊢
        refine lv_ifnonnullN hx hb dX3_at_39 ?_
        refine lv_aload_n hx hb dX3_at_42 rfl (lv_at hl 1 rfl) ?_
        refine m_getN C w hq0 (index := 61) (host := "BeadBench") (T := TX0) (N := 5) rfl hi_X0 3 (by decide) (by decide +kernel) rfl dX3_at_43 ?_
        refine lv_iload_n hx hb dX3_at_46 rfl (lv_at hl 4 rfl) ?_
        refine m_topi (y := nI i) ei ?_
        refine m_lald C w hna i rfl (by omega) (by omega) dX3_at_47 ?_
        refine lv_goto (tgt := 57) hx hb dX3_at_48 (by decide) ?_
        exact m_lret C w dX3_at_57 (by omega) (by omega) (⟨by
          rw [hm0]
          unfold at1
          rw [if_neg (by rw [n_17]; decide)]
          rw [hfx, hat]
          unfold nu
          by_cases k9 : sK S (rowT S t) ≤ 9
          · rw [if_pos k9, if_pos (by unfold isN; simp; omega)]
          · rw [if_neg k9, if_neg (by unfold isN; simp; omega), if_pos (h9.resolve_left k9)], rfl⟩)
      · skip
        rw [hgx, e0] at hl ⊢
        have hpc := hC.1.2.2.2.2.2.2.1 pz p1 p2
        refine lv_ifnonnull (tgt := 51) hx hb dX3_at_39 (by decide) ?_
        refine lv_aload hx hb dX3_at_51 (lv_at hl 0 rfl) ?_
        refine m_callU C w hl.1 (As := []) (rest := []) (c_Piece_count l D y S0 M F (xp A pz) (nI (sS S pz + 1)) (nI pz) (sL S pz) hpc) (va_cwA (owner := "BeadBench$Thing") (x := ⟨"BeadBench$Thing", "count", "()I"⟩) 0 C.2.2.2.2.1 gX3_at_X1_count_u133X1 rfl rfl rfl (C.2.2.2.2.2.2.2.1.2.1 _ (by decide +kernel)) (by decide +kernel) ⟨Nat.le_of_ble_eq_true rfl, Nat.le_of_ble_eq_true rfl⟩) hpc (T := TX1) (N := 3) rfl rfl (Nat.le_of_ble_eq_true rfl) dX3_at_53 ⟨Nat.le_of_ble_eq_true rfl, Nat.le_of_ble_eq_true rfl⟩ (fun v M1 H locs hq w => ?_)
        obtain ⟨rfl, hM1⟩ := hq
        rw [hM1] at w
        clear hM1 M1
        refine W.eq (g2 := F0 m 56 ls [.int (nI pz)]) rfl ?_
        refine lv_i2l (v := lN pz) hx hb dX3_at_56 (nI_l (by omega)) ?_
        exact m_lret C w dX3_at_57 (by omega) (by omega) (⟨by
          rw [hm0]
          unfold at1
          rw [if_neg (by rw [n_17]; decide)]
          rw [if_neg (by unfold isN; simp; omega), hat, ex, if_neg (lN_ne (by omega) p1), if_neg (lN_nn (by omega))], rfl⟩)
      · skip
        rw [hgx, e0] at hl ⊢
        have hrc := hC.1.2.2.2.2.2.1 r2 hr2
        have hz2 : sZ S r2 ≤ 64 := (hI.2.2.2.1 r2 hr2).2.2.1
        have hk2 := (hI.2.2.2.1 r2 hr2).2.1
        refine lv_ifnonnull (tgt := 51) hx hb dX3_at_39 (by decide) ?_
        refine lv_aload hx hb dX3_at_51 (lv_at hl 0 rfl) ?_
        refine m_callU C w hl.1 (As := []) (rest := []) (c_Hold_count l D y S0 M F (xr A r2) (sK S r2) (sZ S r2) 0 (xn A (r2 + 1)) (xt A (r2 + 1)) hrc (by omega) hz2) (va_cwA (owner := "BeadBench$Thing") (x := ⟨"BeadBench$Thing", "count", "()I"⟩) 0 C.2.2.2.2.1 gX3_at_X0_count_u133X0 rfl rfl rfl (C.2.2.2.2.2.2.2.1.2.1 _ (by decide +kernel)) (by decide +kernel) ⟨Nat.le_of_ble_eq_true rfl, Nat.le_of_ble_eq_true rfl⟩) hrc (T := TX0) (N := 5) rfl rfl (Nat.le_of_ble_eq_true rfl) dX3_at_53 ⟨Nat.le_of_ble_eq_true rfl, Nat.le_of_ble_eq_true rfl⟩ (fun v M1 H locs hq w => ?_)
        obtain ⟨rfl, hM1⟩ := hq
        rw [hM1] at w
        clear hM1 M1
        refine W.eq (g2 := F0 m 56 ls [.int (nI (sZ S r2))]) rfl ?_
        refine lv_i2l (v := lN (sZ S r2)) hx hb dX3_at_56 (nI_l (by omega)) ?_
        exact m_lret C w dX3_at_57 (by omega) (by omega) (⟨by
          rw [hm0]
          unfold at1
          rw [if_neg (by rw [n_17]; decide)]
          rw [if_neg (by unfold isN; simp; omega), hat, ex, if_neg (neg_ne (by omega)), if_pos (neg_lt (by omega)), neg_rN (by omega)], rfl⟩)
    · skip
      have n_17 : (inP i1 (zT S t)) = false := bI_f c_17
      refine lv_lconst (v := 0) hx hb dX3_at_20 (by decide) ?_
      exact m_lret C w dX3_at_21 (by omega) (by omega) (⟨by rw [hm0]; unfold at1; rw [if_pos n_17], rfl⟩)
set_option maxRecDepth 100000 in
set_option maxHeartbeats 4000000 in
theorem c_polished (l : Launch) (D : va_G) (y : mY) (S0 : Nat) (M F : mp) (h0 : Nat) (A : Ad) (tr : Nat → Nat) (f : Nat → Nat → Int64) (g : Nat → Nat → Option Nat) (S : St) (hC : CW y h0 A tr f g S M) (c0 : Nat) (hI : Inv c0 S) (hR : CR A f g S) (t1 i1 : Int32) : ct l yX3_polished wsX3_polished 1 28 0 0 D y S0 M F [.ref h0, .int t1, .int i1] (fun v M' => v = some (.int (sp_polished S t1 i1)) ∧ M' = M) := by
  refine ct_of cX3_polished 4 (some .int) [(0, .ref h0), (1, .int t1), (2, .int i1)] (by decide +kernel) rfl (Nat.le_of_ble_eq_true rfl) rfl ?_
  intro p e s m below meth c ls C hnm hl w
  have hx := C.1
  have hb := C.2.1
  have hi_X0 : ∀ w ∈ u_ws RX0 TX0 5, w ∈ wsX3_polished := by decide +kernel
  have hi_X3 : ∀ w ∈ u_ws RX3 TX3 7, w ∈ wsX3_polished := by decide +kernel
  refine lv_iload_n hx hb dX3_polished_0 rfl (lv_at hl 1 rfl) ?_
  refine m_callS C w hl.1 (As := [.int t1]) (rest := []) (c_isTray l D y S0 M F t1) ggX3_polished_X3_isTray rfl (by decide +kernel) (by decide +kernel) (by decide +kernel) (show (_ ≠ _ ∧ _ ≠ _ ∧ _ = some 1) by decide +kernel) ⟨Nat.le_of_ble_eq_true rfl, Nat.le_of_ble_eq_true rfl⟩ rfl (Nat.le_of_ble_eq_true rfl) dX3_polished_1 ⟨Nat.le_of_ble_eq_true rfl, Nat.le_of_ble_eq_true rfl⟩ (fun v M1 H locs hq w => ?_)
  obtain ⟨rfl, hM1⟩ := hq
  rw [hM1] at w
  clear hM1 M1
  refine W.eq (g2 := F0 m 4 ls [.int (bI (inP t1 12))]) rfl ?_
  refine lv_if_eq (tgt := 20) hx hb dX3_polished_4 (by decide) (fun c_4 => ?_) (fun c_4 => ?_)
  · skip
    have n_4 : (inP t1 12) = false := bI_f c_4
    refine lv_iconst (v := 0) hx hb dX3_polished_20 (by decide) ?_
    exact m_iret C w dX3_polished_21 (by omega) (by omega) (⟨by unfold sp_polished; rw [if_pos n_4], rfl⟩)
  · skip
    have n_4 : (inP t1 12) = true := bI_t c_4
    obtain ⟨t, ht, et⟩ := inP_t (by decide) n_4
    obtain ⟨tk, na, ta, hq0, -, hrow⟩ := hC.1.tray hI ht
    have hk13 := (hI.2.2.2.2.2.2.1 t ht).1
    have hk : sH S t < 14 := by omega
    have hz := zT_le hI ht
    have hb1 := hI.1
    have hb2 := hI.2.1
    have hb3 := hI.2.2.1
    have hm0 : sp_polished S t1 i1 = pod1 S t i1 := by unfold sp_polished; rw [if_neg (by simp [n_4]), et, cN_nI (by omega)]
    refine lv_aload_n hx hb dX3_polished_7 rfl (lv_at hl 0 rfl) ?_
    refine m_get C w hC.1.1 (index := 18) (T := TX3) (N := 7) rfl hi_X3 1 (by decide) (by decide +kernel) rfl dX3_polished_8 ?_
    refine lv_iload_n hx hb dX3_polished_11 rfl (lv_at hl 1 rfl) ?_
    refine m_topi (y := nI t) et ?_
    refine m_hald C w hC.1.2.2.1 t rfl (by omega) (by omega) dX3_polished_12 ?_
    refine lv_iload_n hx hb dX3_polished_13 rfl (lv_at hl 2 rfl) ?_
    refine m_callV C w hl.1 (As := [.int i1]) (rest := []) (c_Hold_hasPlace l D y S0 M F (tr t) (sH S t) (zT S t) tk na ta hq0 hk hz i1) gX3_polished_X0_hasPlace rfl hq0 (T := TX0) (N := 5) rfl (show (_ = _ ∧ _ ≠ _ ∧ _ ≠ _ ∧ _ = some 1) by decide +kernel) ⟨Nat.le_of_ble_eq_true rfl, Nat.le_of_ble_eq_true rfl⟩ rfl (Nat.le_of_ble_eq_true rfl) dX3_polished_14 ⟨Nat.le_of_ble_eq_true rfl, Nat.le_of_ble_eq_true rfl⟩ (fun v M1 H locs hq w => ?_)
    obtain ⟨rfl, hM1⟩ := hq
    rw [hM1] at w
    clear hM1 M1
    refine W.eq (g2 := F0 m 17 ls [.int (bI (inP i1 (zT S t)))]) rfl ?_
    refine lv_if_ne (tgt := 22) hx hb dX3_polished_17 (by decide) (fun c_17 => ?_) (fun c_17 => ?_)
    · skip
      have n_17 : (inP i1 (zT S t)) = true := bI_t c_17
      obtain ⟨i, hi, ei⟩ := inP_t (by omega) n_17
      have h2 : 2 ≤ sH S t := Classical.byContradiction fun q => by unfold zT at hi; rw [if_neg q] at hi; omega
      obtain ⟨hr, -, ekd, etr, rfl, rfl⟩ := hrow h2
      have hzT : zT S t = sZ S (rowT S t) := by unfold zT; rw [if_pos h2]
      have hna : M (xn A (rowT S t + 1)) = some (eL y (zT S t) (f (rowT S t + 1))) := by rw [hzT]; exact hC.2.1.1 _ hr
      have hta : M (xt A (rowT S t + 1)) = some (eT y (zT S t) (g (rowT S t + 1))) := by rw [hzT]; exact hC.2.1.2.1 _ hr
      have hxv := (hI.2.2.2.1 _ hr).2.2.2 i (by omega)
      have hgx := (hR.1 _ i hr (show i < sZ S (rowT S t) by omega)).2
      have hfx := (hR.1 _ i hr (show i < sZ S (rowT S t) by omega)).1
      have hat : atx S t i1 = sC S (rowT S t) i := by unfold atx; rw [ei, cN_nI (by omega)]
      refine lv_aload_n hx hb dX3_polished_22 rfl (lv_at hl 0 rfl) ?_
      refine m_get C w hC.1.1 (index := 18) (T := TX3) (N := 7) rfl hi_X3 1 (by decide) (by decide +kernel) rfl dX3_polished_23 ?_
      refine lv_iload_n hx hb dX3_polished_26 rfl (lv_at hl 1 rfl) ?_
      refine m_topi (y := nI t) et ?_
      refine m_hald C w hC.1.2.2.1 t rfl (by omega) (by omega) dX3_polished_27 ?_
      refine m_getN C w hq0 (index := 73) (host := "BeadBench") (T := TX0) (N := 5) rfl hi_X0 4 (by decide) (by decide +kernel) rfl dX3_polished_28 ?_
      refine lv_iload_n hx hb dX3_polished_31 rfl (lv_at hl 2 rfl) ?_
      refine m_topi (y := nI i) ei ?_
      refine m_tald C w hta i rfl (by omega) (by omega) dX3_polished_32 ?_
      refine mq_astore_n (lv' := [(3, va_rf ((g (rowT S t + 1)) i)), (0, .ref h0), (1, .int t1), (2, .int i1)]) hx hb dX3_polished_33 rfl hl (by decide) rfl (fun ls hl => ?_)
      refine mq_aload_n hx hb dX3_polished_34 rfl (lv_at hl 0 rfl) ?_
      rcases th_cases (A := A) hI hxv with ⟨e0, h9⟩ | ⟨pz, p1, p2, e0, ex, hk10⟩ | ⟨r2, hr2, e0, ex, hk10, hk6, -⟩
      · skip
        rw [hgx, e0] at hl ⊢
        refine lv_ifnonnullN hx hb dX3_polished_35 ?_
        refine lv_iconst (v := 0) hx hb dX3_polished_38 (by decide) ?_
        refine lv_goto (tgt := 46) hx hb dX3_polished_39 (by decide) ?_
        exact m_iret C w dX3_polished_46 (by omega) (by omega) (⟨by
          rw [hm0]
          unfold pod1
          rw [if_neg (by rw [n_17]; decide)]
          rw [hat]
          by_cases k9 : sK S (rowT S t) ≤ 9
          · rw [if_pos (by unfold isN; simp; omega)]
          · rw [if_neg (by unfold isN; simp; omega), if_pos (h9.resolve_left k9)], rfl⟩)
      · skip
        rw [hgx, e0] at hl ⊢
        have hpc := hC.1.2.2.2.2.2.2.1 pz p1 p2
        refine lv_ifnonnull (tgt := 42) hx hb dX3_polished_35 (by decide) ?_
        refine lv_aload_n hx hb dX3_polished_42 rfl (lv_at hl 0 rfl) ?_
        refine m_callU C w hl.1 (As := []) (rest := []) (c_Piece_shine l D y S0 M F (xp A pz) (nI (sS S pz + 1)) (nI pz) (sL S pz) hpc) (va_cwA (owner := "BeadBench$Thing") (x := ⟨"BeadBench$Thing", "shine", "()I"⟩) 0 C.2.2.2.2.1 gX3_polished_X1_shine_u136X1 rfl rfl rfl (C.2.2.2.2.2.2.2.1.2.1 _ (by decide +kernel)) (by decide +kernel) ⟨Nat.le_of_ble_eq_true rfl, Nat.le_of_ble_eq_true rfl⟩) hpc (T := TX1) (N := 3) rfl rfl (Nat.le_of_ble_eq_true rfl) dX3_polished_43 ⟨Nat.le_of_ble_eq_true rfl, Nat.le_of_ble_eq_true rfl⟩ (fun v M1 H locs hq w => ?_)
        obtain ⟨rfl, hM1⟩ := hq
        rw [hM1] at w
        clear hM1 M1
        refine W.eq (g2 := F0 m 46 ls [.int (sL S pz)]) rfl ?_
        exact m_iret C w dX3_polished_46 (by omega) (by omega) (⟨by
          rw [hm0]
          unfold pod1
          rw [if_neg (by rw [n_17]; decide)]
          rw [if_neg (by unfold isN; simp; omega), hat, ex, if_neg (lN_ne (by omega) p1), if_neg (lN_nn (by omega)), lN_pN (by omega)], rfl⟩)
      · skip
        rw [hgx, e0] at hl ⊢
        have hrc := hC.1.2.2.2.2.2.1 r2 hr2
        have hz2 : sZ S r2 ≤ 64 := (hI.2.2.2.1 r2 hr2).2.2.1
        have hk2 := (hI.2.2.2.1 r2 hr2).2.1
        refine lv_ifnonnull (tgt := 42) hx hb dX3_polished_35 (by decide) ?_
        refine lv_aload_n hx hb dX3_polished_42 rfl (lv_at hl 0 rfl) ?_
        refine m_callU C w hl.1 (As := []) (rest := []) (c_Hold_shine l D y S0 M F (xr A r2) (sK S r2) (sZ S r2) 0 (xn A (r2 + 1)) (xt A (r2 + 1)) hrc (f (r2 + 1)) (hC.2.1.1 (r2 + 1) hr2) hz2) (va_cwA (owner := "BeadBench$Thing") (x := ⟨"BeadBench$Thing", "shine", "()I"⟩) 0 C.2.2.2.2.1 gX3_polished_X0_shine_u136X0 rfl rfl rfl (C.2.2.2.2.2.2.2.1.2.1 _ (by decide +kernel)) (by decide +kernel) ⟨Nat.le_of_ble_eq_true rfl, Nat.le_of_ble_eq_true rfl⟩) hrc (T := TX0) (N := 5) rfl rfl (Nat.le_of_ble_eq_true rfl) dX3_polished_43 ⟨Nat.le_of_ble_eq_true rfl, Nat.le_of_ble_eq_true rfl⟩ (fun v M1 H locs hq w => ?_)
        obtain ⟨rfl, hM1⟩ := hq
        rw [hM1] at w
        clear hM1 M1
        refine W.eq (g2 := F0 m 46 ls [.int (sumW (f (r2 + 1)) (sZ S r2))]) rfl ?_
        exact m_iret C w dX3_polished_46 (by omega) (by omega) (⟨by
          rw [hm0]
          unfold pod1
          rw [if_neg (by rw [n_17]; decide)]
          rw [if_neg (by unfold isN; simp; omega), hat, ex, if_neg (neg_ne (by omega)), if_pos (neg_lt (by omega)), neg_rN (by omega)]
          refine congrArg (fun z => some (Value.int z)) (sumW_congr (fun j hj => ?_))
          rw [(hR.1 r2 j hr2 hj).1]
          unfold nu
          rw [if_pos (by omega)], rfl⟩)
    · skip
      have n_17 : (inP i1 (zT S t)) = false := bI_f c_17
      refine lv_iconst (v := 0) hx hb dX3_polished_20 (by decide) ?_
      exact m_iret C w dX3_polished_21 (by omega) (by omega) (⟨by rw [hm0]; unfold pod1; rw [if_pos n_17], rfl⟩)
set_option maxRecDepth 100000 in
set_option maxHeartbeats 4000000 in
theorem c_polish (l : Launch) (D : va_G) (y : mY) (S0 : Nat) (M F : mp) (h0 : Nat) (A : Ad) (tr : Nat → Nat) (f : Nat → Nat → Int64) (g : Nat → Nat → Option Nat) (S : St) (hC : CW y h0 A tr f g S M) (c0 : Nat) (hI : Inv c0 S) (hR : CR A f g S) (t1 i1 m1 : Int32) : ct l yX3_polish wsX3_polish 1 28 0 0 D y S0 M F [.ref h0, .int t1, .int i1, .int m1] (fun v M' => v = some (.int (sp_polish S t1 i1 m1).1) ∧ RC y h0 (sp_polish S t1 i1 m1).2 M') := by
  refine ct_of cX3_polish 8 (some .int) [(0, .ref h0), (1, .int t1), (2, .int i1), (3, .int m1)] (by decide +kernel) rfl (Nat.le_of_ble_eq_true rfl) rfl ?_
  intro p e s m below meth c ls C hnm hl w
  have hx := C.1
  have hb := C.2.1
  have hi_X0 : ∀ w ∈ u_ws RX0 TX0 5, w ∈ wsX3_polish := by decide +kernel
  have hi_X1 : ∀ w ∈ u_ws RX1 TX1 3, w ∈ wsX3_polish := by decide +kernel
  have hi_X3 : ∀ w ∈ u_ws RX3 TX3 7, w ∈ wsX3_polish := by decide +kernel
  refine lv_iload_n hx hb dX3_polish_0 rfl (lv_at hl 1 rfl) ?_
  refine m_callS C w hl.1 (As := [.int t1]) (rest := []) (c_isTray l D y S0 M F t1) ggX3_polish_X3_isTray rfl (by decide +kernel) (by decide +kernel) (by decide +kernel) (show (_ ≠ _ ∧ _ ≠ _ ∧ _ = some 1) by decide +kernel) ⟨Nat.le_of_ble_eq_true rfl, Nat.le_of_ble_eq_true rfl⟩ rfl (Nat.le_of_ble_eq_true rfl) dX3_polish_1 ⟨Nat.le_of_ble_eq_true rfl, Nat.le_of_ble_eq_true rfl⟩ (fun v M1 H locs hq w => ?_)
  obtain ⟨rfl, hM1⟩ := hq
  rw [hM1] at w
  clear hM1 M1
  refine W.eq (g2 := F0 m 4 ls [.int (bI (inP t1 12))]) rfl ?_
  refine lv_if_ne (tgt := 10) hx hb dX3_polish_4 (by decide) (fun c_4 => ?_) (fun c_4 => ?_)
  · skip
    have n_4 : (inP t1 12) = true := bI_t c_4
    obtain ⟨t, ht, et⟩ := inP_t (by decide) n_4
    obtain ⟨tk, na, ta, hq0, -, hrow⟩ := hC.1.tray hI ht
    have hk13 := (hI.2.2.2.2.2.2.1 t ht).1
    have hk : sH S t < 14 := by omega
    have hz := zT_le hI ht
    have hb1 := hI.1
    have hb2 := hI.2.1
    have hb3 := hI.2.2.1
    have hm0 : sp_polish S t1 i1 m1 = pol1 S t i1 m1 := by unfold sp_polish; rw [if_neg (by simp [n_4]), et, cN_nI (by omega)]
    refine lv_aload_n hx hb dX3_polish_10 rfl (lv_at hl 0 rfl) ?_
    refine m_get C w hC.1.1 (index := 18) (T := TX3) (N := 7) rfl hi_X3 1 (by decide) (by decide +kernel) rfl dX3_polish_11 ?_
    refine lv_iload_n hx hb dX3_polish_14 rfl (lv_at hl 1 rfl) ?_
    refine m_topi (y := nI t) et ?_
    refine m_hald C w hC.1.2.2.1 t rfl (by omega) (by omega) dX3_polish_15 ?_
    refine lv_astore (lv' := [(4, .ref (tr t)), (0, .ref h0), (1, .int t1), (2, .int i1), (3, .int m1)]) hx hb dX3_polish_16 hl (by decide) rfl (fun ls hl => ?_)
    refine lv_aload hx hb dX3_polish_18 (lv_at hl 0 rfl) ?_
    refine m_callV C w hl.1 (As := []) (rest := []) (c_Hold_refusal l D y S0 M F (tr t) (sH S t) (zT S t) tk na ta hq0 hk hz) gX3_polish_X0_refusal rfl hq0 (T := TX0) (N := 5) rfl (show (_ = _ ∧ _ ≠ _ ∧ _ ≠ _ ∧ _ = some 0) by decide +kernel) ⟨Nat.le_of_ble_eq_true rfl, Nat.le_of_ble_eq_true rfl⟩ rfl (Nat.le_of_ble_eq_true rfl) dX3_polish_20 ⟨Nat.le_of_ble_eq_true rfl, Nat.le_of_ble_eq_true rfl⟩ (fun v M1 H locs hq w => ?_)
    obtain ⟨rfl, hM1⟩ := hq
    rw [hM1] at w
    clear hM1 M1
    refine W.eq (g2 := F0 m 23 ls [.int (fR (sH S t))]) rfl ?_
    refine lv_istore (lv' := [(5, .int (fR (sH S t))), (4, .ref (tr t)), (0, .ref h0), (1, .int t1), (2, .int i1), (3, .int m1)]) hx hb dX3_polish_23 hl (by decide) rfl (fun ls hl => ?_)
    refine lv_iload hx hb dX3_polish_25 (lv_at hl 0 rfl) ?_
    refine lv_if_eq (tgt := 33) hx hb dX3_polish_27 (by decide) (fun c_27 => ?_) (fun c_27 => ?_)
    · skip
      have h2 : 2 ≤ sH S t := fR_0.mp c_27
      obtain ⟨hr, -, ekd, etr, rfl, rfl⟩ := hrow h2
      have hzT : zT S t = sZ S (rowT S t) := by unfold zT; rw [if_pos h2]
      have hna : M (xn A (rowT S t + 1)) = some (eL y (zT S t) (f (rowT S t + 1))) := by rw [hzT]; exact hC.2.1.1 _ hr
      have hta : M (xt A (rowT S t + 1)) = some (eT y (zT S t) (g (rowT S t + 1))) := by rw [hzT]; exact hC.2.1.2.1 _ hr
      refine lv_aload hx hb dX3_polish_33 (lv_at hl 1 rfl) ?_
      refine m_callV C w hl.1 (As := []) (rest := []) (c_Hold_isN l D y S0 M F (tr t) (sH S t) (zT S t) tk (xn A (rowT S t + 1)) (xt A (rowT S t + 1)) hq0 hk hz) gX3_polish_X0_isOfNumbers rfl hq0 (T := TX0) (N := 5) rfl (show (_ = _ ∧ _ ≠ _ ∧ _ ≠ _ ∧ _ = some 0) by decide +kernel) ⟨Nat.le_of_ble_eq_true rfl, Nat.le_of_ble_eq_true rfl⟩ rfl (Nat.le_of_ble_eq_true rfl) dX3_polish_35 ⟨Nat.le_of_ble_eq_true rfl, Nat.le_of_ble_eq_true rfl⟩ (fun v M1 H locs hq w => ?_)
      obtain ⟨rfl, hM1⟩ := hq
      rw [hM1] at w
      clear hM1 M1
      refine W.eq (g2 := F0 m 38 ls [.int (bI (isN (sH S t)))]) rfl ?_
      refine lv_if_ne (tgt := 51) hx hb dX3_polish_38 (by decide) (fun c_38 => ?_) (fun c_38 => ?_)
      · skip
        have n_38 : (isN (sH S t)) = true := bI_t c_38
        refine lv_bipush (v := (-3)) hx hb dX3_polish_51 (by decide) ?_
        exact m_iret C w dX3_polish_53 (by omega) (by omega) (⟨by rw [(show sp_polish S t1 i1 m1 = (-3, S) by rw [hm0]; unfold pol1; rw [if_neg (by omega), if_pos (by first | (simp [n_48]; done) | (simp [n_38]; done))])], by rw [(show sp_polish S t1 i1 m1 = (-3, S) by rw [hm0]; unfold pol1; rw [if_neg (by omega), if_pos (by first | (simp [n_48]; done) | (simp [n_38]; done))])]; exact ⟨A, tr, f, g, hC, hR⟩⟩)
      · skip
        have n_38 : (isN (sH S t)) = false := bI_f c_38
        refine lv_aload hx hb dX3_polish_41 (lv_at hl 1 rfl) ?_
        refine m_getN C w hq0 (index := 43) (host := "BeadBench") (T := TX0) (N := 5) rfl hi_X0 0 (by decide) (by decide +kernel) rfl dX3_polish_43 ?_
        refine lv_bipush (v := 13) hx hb dX3_polish_46 (by decide) ?_
        refine lv_icmp_ne (tgt := 54) hx hb dX3_polish_48 (by decide) (fun c_48 => ?_) (fun c_48 => ?_)
        · skip
          have n_48 : ¬ (sH S t) = 13 := fun h => absurd ((nI_eq (by omega) (by omega)).mpr h) c_48
          refine lv_aload hx hb dX3_polish_54 (lv_at hl 1 rfl) ?_
          refine lv_iload_n hx hb dX3_polish_56 rfl (lv_at hl 4 rfl) ?_
          refine m_callV C w hl.1 (As := [.int i1]) (rest := []) (c_Hold_hasPlace l D y S0 M F (tr t) (sH S t) (zT S t) tk (xn A (rowT S t + 1)) (xt A (rowT S t + 1)) hq0 hk hz i1) gX3_polish_X0_hasPlace rfl hq0 (T := TX0) (N := 5) rfl (show (_ = _ ∧ _ ≠ _ ∧ _ ≠ _ ∧ _ = some 1) by decide +kernel) ⟨Nat.le_of_ble_eq_true rfl, Nat.le_of_ble_eq_true rfl⟩ rfl (Nat.le_of_ble_eq_true rfl) dX3_polish_57 ⟨Nat.le_of_ble_eq_true rfl, Nat.le_of_ble_eq_true rfl⟩ (fun v M1 H locs hq w => ?_)
          obtain ⟨rfl, hM1⟩ := hq
          rw [hM1] at w
          clear hM1 M1
          refine W.eq (g2 := F0 m 60 ls [.int (bI (inP i1 (zT S t)))]) rfl ?_
          refine lv_if_ne (tgt := 66) hx hb dX3_polish_60 (by decide) (fun c_60 => ?_) (fun c_60 => ?_)
          · skip
            have n_60 : (inP i1 (zT S t)) = true := bI_t c_60
            obtain ⟨i, hi, ei⟩ := inP_t (by omega) n_60
            have hxv := (hI.2.2.2.1 _ hr).2.2.2 i (by omega)
            have hgx := (hR.1 _ i hr (show i < sZ S (rowT S t) by omega)).2
            have hfx := (hR.1 _ i hr (show i < sZ S (rowT S t) by omega)).1
            have hat : atx S t i1 = sC S (rowT S t) i := by unfold atx; rw [ei, cN_nI (by omega)]
            refine lv_aload hx hb dX3_polish_66 (lv_at hl 1 rfl) ?_
            refine m_getN C w hq0 (index := 73) (host := "BeadBench") (T := TX0) (N := 5) rfl hi_X0 4 (by decide) (by decide +kernel) rfl dX3_polish_68 ?_
            refine lv_iload_n hx hb dX3_polish_71 rfl (lv_at hl 4 rfl) ?_
            refine m_topi (y := nI i) ei ?_
            refine m_tald C w hta i rfl (by omega) (by omega) dX3_polish_72 ?_
            refine mq_astore (lv' := [(7, va_rf ((g (rowT S t + 1)) i)), (5, .int (fR (sH S t))), (4, .ref (tr t)), (0, .ref h0), (1, .int t1), (2, .int i1), (3, .int m1)]) hx hb dX3_polish_73 hl (by decide) rfl (fun ls hl => ?_)
            refine mq_aload hx hb dX3_polish_75 (lv_at hl 0 rfl) ?_
            rcases th_cases (A := A) hI hxv with ⟨e0, h9⟩ | ⟨pz, p1, p2, e0, ex, hk10⟩ | ⟨r2, hr2, e0, ex, hk10, hk6, k13⟩
            · skip
              rw [hgx, e0] at hl ⊢
              refine lv_instN hx hb dX3_polish_77 ?_
              refine lv_if_eq (tgt := 107) hx hb dX3_polish_80 (by decide) (fun _ => ?_) (fun h => absurd h (by decide))
              refine lv_iconst (v := (-1)) hx hb dX3_polish_107 (by decide) ?_
              exact m_iret C w dX3_polish_108 (by omega) (by omega) (by
                have hx0 : sC S (rowT S t) i = 0 := by
                  rcases h9 with q | q
                  · have := isN_f n_38 h2; omega
                  · exact q
                have hm : sp_polish S t1 i1 m1 = (-1, S) := by
                  rw [hm0]
                  unfold pol1
                  rw [if_neg (by omega), if_neg (by rw [n_38]; simp; exact n_48), if_neg (by rw [n_60]; decide), hat, if_pos hx0]
                exact ⟨by rw [hm], by rw [hm]; exact ⟨A, tr, f, g, hC, hR⟩⟩)
            · skip
              rw [hgx, e0] at hl ⊢
              have hpc := hC.1.2.2.2.2.2.2.1 pz p1 p2
              refine va_instY hx hb C.2.2.2.1 (C.2.2.2.2.1 (.classLink RX3 117 RX1) (by decide +kernel)) (C := RX1) (C.2.2.2.2.2.2.2.1.2.1 _ (by decide +kernel)) (m_recv C w hpc (T := TX1) (N := 3) rfl) dX3_polish_77 ?_
              refine lv_if_eq (tgt := 107) hx hb dX3_polish_80 (by decide) (fun h => absurd h (by decide)) (fun _ => ?_)
              refine lv_aload hx hb dX3_polish_83 (lv_at hl 0 rfl) ?_
              refine va_castY hx hb C.2.2.2.1 (C.2.2.2.2.1 (.classLink RX3 117 RX1) (by decide +kernel)) (C := RX1) (C.2.2.2.2.2.2.2.1.2.1 _ (by decide +kernel)) (m_recv C w hpc (T := TX1) (N := 3) rfl) dX3_polish_85 ?_
              refine lv_astore (lv' := [(6, .ref (xp A pz)), (7, .ref (xp A pz)), (5, .int (fR (sH S t))), (4, .ref (tr t)), (0, .ref h0), (1, .int t1), (2, .int i1), (3, .int m1)]) hx hb dX3_polish_88 hl (by decide) rfl (fun ls hl => ?_)
              refine lv_aload hx hb dX3_polish_90 (lv_at hl 0 rfl) ?_
              refine lv_dup hx hb dX3_polish_92 rfl ?_
              refine m_getN C w hpc (index := 119) (host := "BeadBench") (T := TX1) (N := 3) rfl hi_X1 2 (by decide) (by decide +kernel) rfl dX3_polish_93 ?_
              refine lv_iload_n hx hb dX3_polish_96 rfl (lv_at hl 7 rfl) ?_
              refine lv_iadd hx hb dX3_polish_97 ?_
              refine m_putN C w hpc (v := .int ((sL S pz) + m1)) (index := 119) (T := TX1) (N := 3) (host := "BeadBench") rfl hi_X1 tyX1 tyX1_ok nmX1 2 (by decide) (by decide +kernel) rfl (tyX1_ok 2 (by decide)) rfl rfl (Nat.le_of_ble_eq_true rfl) dX3_polish_98 (fun H locs w => ?_)
              obtain ⟨M1, e_M1⟩ : ∃ z, z = mu M (xp A pz) (eO 1 [.int (nI (sS S pz + 1)), .int (nI pz), .int ((sL S pz) + m1)]) := ⟨_, rfl⟩
              have w : mS D S0 M1 F s H locs := by rw [e_M1]; exact w
              have f1_xp_A_pz : M1 (xp A pz) = some (eO 1 [.int (nI (sS S pz + 1)), .int (nI pz), .int ((sL S pz) + m1)]) := by rw [e_M1]; exact mu_s
              refine lv_aload hx hb dX3_polish_101 (lv_at hl 0 rfl) ?_
              refine m_getN C w f1_xp_A_pz (index := 122) (host := "BeadBench") (T := TX1) (N := 3) rfl hi_X1 1 (by decide) (by decide +kernel) rfl dX3_polish_103 ?_
              exact m_iret C w dX3_polish_106 (by omega) (by omega) (by
                have hm : sp_polish S t1 i1 m1 = (nI pz, wPo S (va_up (sL S) pz (sL S pz + m1))) := by
                  rw [hm0]
                  unfold pol1
                  rw [if_neg (by omega), if_neg (by rw [n_38]; simp; exact n_48), if_neg (by rw [n_60]; decide), hat, ex, if_neg (lN_ne (by omega) p1), lN_pN (by omega)]
                exact ⟨by rw [hm], by rw [hm, e_M1]; exact ⟨A, tr, f, g, hC.pol p1 p2 _, hR⟩⟩)
            · exact absurd (show sH S t = 13 by omega) (by first | exact n_48 | omega)
          · skip
            have n_60 : (inP i1 (zT S t)) = false := bI_f c_60
            refine lv_bipush (v := (-4)) hx hb dX3_polish_63 (by decide) ?_
            exact m_iret C w dX3_polish_65 (by omega) (by omega) (⟨by rw [(show sp_polish S t1 i1 m1 = (-4, S) by rw [hm0]; unfold pol1; rw [if_neg (by omega), if_neg (by rw [n_38]; simp; exact n_48), if_pos n_60])], by rw [(show sp_polish S t1 i1 m1 = (-4, S) by rw [hm0]; unfold pol1; rw [if_neg (by omega), if_neg (by rw [n_38]; simp; exact n_48), if_pos n_60])]; exact ⟨A, tr, f, g, hC, hR⟩⟩)
        · skip
          have n_48 : (sH S t) = 13 := (nI_eq (by omega) (by omega)).mp (by first | exact c_48 | exact Classical.not_not.mp c_48)
          refine lv_bipush (v := (-3)) hx hb dX3_polish_51 (by decide) ?_
          exact m_iret C w dX3_polish_53 (by omega) (by omega) (⟨by rw [(show sp_polish S t1 i1 m1 = (-3, S) by rw [hm0]; unfold pol1; rw [if_neg (by omega), if_pos (by first | (simp [n_48]; done) | (simp [n_38]; done))])], by rw [(show sp_polish S t1 i1 m1 = (-3, S) by rw [hm0]; unfold pol1; rw [if_neg (by omega), if_pos (by first | (simp [n_48]; done) | (simp [n_38]; done))])]; exact ⟨A, tr, f, g, hC, hR⟩⟩)
    · skip
      refine lv_iload hx hb dX3_polish_30 (lv_at hl 0 rfl) ?_
      exact m_iret C w dX3_polish_32 (by omega) (by omega) (⟨by rw [(show sp_polish S t1 i1 m1 = (fR (sH S t), S) by rw [hm0]; unfold pol1; rw [if_pos (by have := mt fR_0.mpr c_27; omega)])], by rw [(show sp_polish S t1 i1 m1 = (fR (sH S t), S) by rw [hm0]; unfold pol1; rw [if_pos (by have := mt fR_0.mpr c_27; omega)])]; exact ⟨A, tr, f, g, hC, hR⟩⟩)
  · skip
    have n_4 : (inP t1 12) = false := bI_f c_4
    refine lv_bipush (v := (-6)) hx hb dX3_polish_7 (by decide) ?_
    exact m_iret C w dX3_polish_9 (by omega) (by omega) (⟨by rw [(show sp_polish S t1 i1 m1 = (-6, S) by unfold sp_polish; rw [if_pos (by first | simp [n_4])])], by rw [(show sp_polish S t1 i1 m1 = (-6, S) by unfold sp_polish; rw [if_pos (by first | simp [n_4])])]; exact ⟨A, tr, f, g, hC, hR⟩⟩)
end
section
theorem m_cong {D : va_G} {y : mY} {S0 : Nat} {M F : mp} {s : State} {H : Heap} {locs : List Loc} (w : mS D S0 M F s H locs) {a n : Nat} {f g : Nat → Option Nat} (ha : M a = some (eH y n f)) (hf : ∀ j, j < n → f j = g j) : mS D S0 (mu M a (eH y n g)) F s H locs := by
  obtain ⟨⟨ws, hP, hD, hM, hF, hdj⟩, hS⟩ := w
  obtain ⟨k, hk⟩ := List.getElem?_of_mem (hM a _ ha)
  refine ⟨mw_set (ws := ws) (k := k) ?_ (hD.set hk) hk hM hF hdj ha, hS⟩
  refine hP.set hD hk ?_ (fun _ _ => rfl)
  have h1 := hP k _ hk
  show H[a]? = some (vp_cell _ _)
  rw [show H[a]? = some (vp_cell y.2.2.1 (n, .inr (.inr (.inr (.inr f))))) from h1, vp_cell_q, vp_cell_q]
  unfold arrV
  congr 2
  congr 1
  funext j
  exact congrArg va_rf (hf j.val j.isLt)
theorem CW_00 {y : mY} {h0 qa aT qb aY qL qT : Nat} {va vb : Nat} {M : mp} (h1 : M h0 = some (eO 2 [.ref qa, .ref aT, .ref qb, .null, .ref aY, .int 0, .int 0])) (h2 : M qa = some (eO 0 (hF 0 0 0 va vb))) (h3 : M aT = some (eH y 12 (fun _ => some qa))) (h4 : M qb = some (eO 0 (hF 0 64 0 qL qT))) (h5 : M aY = some (eI y 6 (fun _ => 0))) (h6 : M qL = some (eL y 64 (fun _ => 0))) (h7 : M qT = some (eT y 64 (fun _ => none))) (hne : qT ≠ aT) : RC y h0 s00 M := by
  refine ⟨(qa, aT, qb, aY, fun _ => 0, fun _ => qL, fun _ => qT, fun _ => 0), fun _ => qa, fun _ _ => 0, fun _ _ => none, ⟨⟨h1, ⟨va, vb, h2⟩, h3, h4, h5, fun r hr => absurd hr (Nat.not_lt_zero r), fun k k1 k2 => absurd (Nat.le_trans k1 k2) (by decide), fun t ht => Or.inl ⟨rfl, rfl⟩⟩, ⟨fun j hj => ?_, fun j hj => ?_, fun j i z hj hi hz => by cases hz⟩, fun i j hi hj _ => ?_, fun i j hi hj _ => ?_, fun j hj => hne, fun i j hi hj _ => absurd hi (Nat.not_lt_zero i), fun i j i1 i2 => absurd (Nat.le_trans i1 i2) (by decide)⟩, fun r i hr => absurd hr (Nat.not_lt_zero r), fun r i hr => by cases hr⟩
  · have : j = 0 := Nat.le_zero.mp hj
    subst this
    exact h6
  · have : j = 0 := Nat.le_zero.mp hj
    subst this
    exact h7
  · exact (Nat.le_zero.mp hi).trans (Nat.le_zero.mp hj).symm
  · exact (Nat.le_zero.mp hi).trans (Nat.le_zero.mp hj).symm
set_option maxRecDepth 100000 in
set_option maxHeartbeats 4000000 in
/-- BeadBench() -/
theorem c_Bench_init (l : Launch) (D : va_G) (y : mY) (S0 : Nat) (M F : mp) (h0 : Nat) (hh : M h0 = some (eO 2 [.null, .null, .null, .null, .null, .int 0, .int 0])) : ct l yX3_init wsX3_init 3 63 8 156 D y S0 M F [.ref h0] (fun v M' => v = none ∧ RC y h0 s00 M') := by
  refine ct_of cX3_init 2 none [(0, .ref h0)] (by decide +kernel) rfl (Nat.le_of_ble_eq_true rfl) rfl ?_
  intro p e s m below meth c ls C hnm hl w
  have hx := C.1
  have hb := C.2.1
  have hi_X0 : ∀ w ∈ u_ws RX0 TX0 5, w ∈ wsX3_init := by decide +kernel
  have hi_X3 : ∀ w ∈ u_ws RX3 TX3 7, w ∈ wsX3_init := by decide +kernel
  refine lv_aload_n hx hb dX3_init_0 rfl (lv_at hl 0 rfl) ?_
  refine W.objInit hx hb C.2.2.2.1 (C.2.2.2.2.1 (.methodLink RX3 1 objectInit) (by decide +kernel)) (C.2.2.2.2.1 (.instanceMethod objectInit) (by decide +kernel)) (C.2.2.2.2.1 _ (List.mem_of_getElem? (i := 3) rfl)) rfl (by rw [C.2.2.1]; exact hl.1) rfl dX3_init_1 (Nat.le_of_ble_eq_true rfl) (Nat.le_of_ble_eq_true rfl) ?_
  refine W.eq (g2 := F0 m 4 ls []) rfl ?_
  refine lv_aload_n hx hb dX3_init_4 rfl (lv_at hl 0 rfl) ?_
  refine m_new C w 0 [.int 0, .int 0, .int 0, .null, .null] (T := TX0) (N := 5) rfl hi_X0 tyX0 tyX0_ok (by decide +kernel) (by decide +kernel) (by decide +kernel) (by intro j hj; rcases (show j = 0 ∨ j = 1 ∨ j = 2 ∨ j = 3 ∨ j = 4 by omega) with rfl | rfl | rfl | rfl | rfl <;> rfl) (Nat.le_of_ble_eq_true rfl) (Nat.le_of_ble_eq_true rfl) dX3_init_5 (fun qa H hMqa hFqa w => ?_)
  obtain ⟨M1, e_M1⟩ : ∃ z, z = mu M qa (eO 0 [.int 0, .int 0, .int 0, .null, .null]) := ⟨_, rfl⟩
  rw [← e_M1] at w
  have f1_h0 : M1 h0 = some (eO 2 [.null, .null, .null, .null, .null, .int 0, .int 0]) := by rw [e_M1]; exact mu_k (m_fr hh hMqa) hh
  have f1_qa : M1 qa = some (eO 0 [.int 0, .int 0, .int 0, .null, .null]) := by rw [e_M1]; exact mu_s
  refine lv_dup hx hb dX3_init_8 rfl ?_
  refine lv_iconst (v := 0) hx hb dX3_init_9 (by decide) ?_
  refine lv_iconst (v := 0) hx hb dX3_init_10 (by decide) ?_
  refine lv_iconst (v := 0) hx hb dX3_init_11 (by decide) ?_
  refine m_callI C w hl.1 (As := [.int 0, .int 0, .int 0]) (rest := [.ref qa, .ref h0]) (c_Hold_init l D y S0 M1 F qa 0 0 0 0 0 .null .null 0 f1_qa (by omega)) ggX3_init_X0_init rfl (by decide +kernel) (by decide +kernel) (by decide +kernel) rfl (show (_ ≠ _ ∧ _ ≠ _ ∧ _ = some 3) by decide +kernel) ⟨Nat.le_of_ble_eq_true rfl, Nat.le_of_ble_eq_true rfl⟩ rfl (Nat.le_of_ble_eq_true rfl) dX3_init_12 ⟨Nat.le_of_ble_eq_true rfl, Nat.le_of_ble_eq_true rfl⟩ (fun v M1 H locs hq w => ?_)
  obtain ⟨rfl, La, Ta, h1a, h2a, -, -, h3a, hM3⟩ := hq
  obtain ⟨M3a, e_M3⟩ : ∃ z, z = M1 := ⟨_, rfl⟩
  rw [← e_M3] at w hM3
  clear e_M3 M1
  obtain ⟨hlea, g_qa, gLa, gTa, mLa, mTa⟩ := new_hold hMqa e_M1 h1a h2a h3a hM3
  refine W.eq (g2 := F0 m 15 ls [.ref qa, .ref h0]) rfl ?_
  have ka_h0 := hlea _ _ hh
  refine m_putF C w ka_h0 (v := .ref qa) (index := 14) (T := TX3) (N := 7) rfl hi_X3 tyX3 tyX3_ok nmX3 0 (by decide) (by decide +kernel) rfl hnm rfl (tyX3_ok 0 (by decide)) rfl rfl (Nat.le_of_ble_eq_true rfl) dX3_init_15 (fun H locs w => ?_)
  obtain ⟨M2, e_M2⟩ : ∃ z, z = mu M3a h0 (eO 2 [.ref qa, .null, .null, .null, .null, .int 0, .int 0]) := ⟨_, rfl⟩
  have w : mS D S0 M2 F s H locs := by rw [e_M2]; exact w
  have f2_qa : M2 qa = some (eO 0 [.int 0, .int (nI 0), .int 0, .ref La, .ref Ta]) := by rw [e_M2]; exact mu_k (m_ne g_qa ka_h0 (by first | exact ne_LT | exact ne_LI | exact ne_LH | exact ne_TL | exact ne_IL | exact ne_IH | exact ne_IT | exact ne_HL | exact ne_HI | exact ne_TI | exact ne_OA | exact ne_AO | (intro h; cases h))) g_qa
  have f2_h0 : M2 h0 = some (eO 2 [.ref qa, .null, .null, .null, .null, .int 0, .int 0]) := by rw [e_M2]; exact mu_s
  refine lv_aload_n hx hb dX3_init_18 rfl (lv_at hl 0 rfl) ?_
  refine lv_bipush (v := 12) hx hb dX3_init_19 (by decide) ?_
  refine m_newH C w (by decide +kernel) 12 rfl (by omega) (Nat.le_of_ble_eq_true rfl) (Nat.le_of_ble_eq_true rfl) dX3_init_21 (fun aT H hMaT hFaT w => ?_)
  obtain ⟨M3, e_M3⟩ : ∃ z, z = mu M2 aT (eH y 12 (fun _ => none)) := ⟨_, rfl⟩
  rw [← e_M3] at w
  have f3_h0 : M3 h0 = some (eO 2 [.ref qa, .null, .null, .null, .null, .int 0, .int 0]) := by rw [e_M3]; exact mu_k (m_fr f2_h0 hMaT) f2_h0
  have f3_qa : M3 qa = some (eO 0 [.int 0, .int (nI 0), .int 0, .ref La, .ref Ta]) := by rw [e_M3]; exact mu_k (m_fr f2_qa hMaT) f2_qa
  have f3_aT : M3 aT = some (eH y 12 (fun _ => none)) := by rw [e_M3]; exact mu_s
  refine m_putF C w f3_h0 (v := .ref aT) (index := 18) (T := TX3) (N := 7) rfl hi_X3 tyX3 tyX3_ok nmX3 1 (by decide) (by decide +kernel) rfl hnm rfl (tyX3_ok 1 (by decide)) rfl rfl (Nat.le_of_ble_eq_true rfl) dX3_init_24 (fun H locs w => ?_)
  obtain ⟨M4, e_M4⟩ : ∃ z, z = mu M3 h0 (eO 2 [.ref qa, .ref aT, .null, .null, .null, .int 0, .int 0]) := ⟨_, rfl⟩
  have w : mS D S0 M4 F s H locs := by rw [e_M4]; exact w
  have f4_qa : M4 qa = some (eO 0 [.int 0, .int (nI 0), .int 0, .ref La, .ref Ta]) := by rw [e_M4]; exact mu_k (m_ne f3_qa f3_h0 (by first | exact ne_LT | exact ne_LI | exact ne_LH | exact ne_TL | exact ne_IL | exact ne_IH | exact ne_IT | exact ne_HL | exact ne_HI | exact ne_TI | exact ne_OA | exact ne_AO | (intro h; cases h))) f3_qa
  have f4_aT : M4 aT = some (eH y 12 (fun _ => none)) := by rw [e_M4]; exact mu_k (m_ne f3_aT f3_h0 (by first | exact ne_LT | exact ne_LI | exact ne_LH | exact ne_TL | exact ne_IL | exact ne_IH | exact ne_IT | exact ne_HL | exact ne_HI | exact ne_TI | exact ne_OA | exact ne_AO | (intro h; cases h))) f3_aT
  have f4_h0 : M4 h0 = some (eO 2 [.ref qa, .ref aT, .null, .null, .null, .int 0, .int 0]) := by rw [e_M4]; exact mu_s
  refine lv_iconst (v := 0) hx hb dX3_init_27 (by decide) ?_
  refine lv_istore_n (lv' := [(1, .int 0), (0, .ref h0)]) hx hb dX3_init_28 rfl hl (by decide) rfl (fun ls hl => ?_)
  have lp : ∀ (kf : Nat) (i : Nat) (M2 : mp), (i ≤ 12) → (M2 h0 = some (eO 2 [.ref qa, .ref aT, .null, .null, .null, .int 0, .int 0])) → (M2 qa = some (eO 0 [.int 0, .int (nI 0), .int 0, .ref La, .ref Ta])) → (M2 aT = some (eH y 12 (fun j => if j < i then some qa else none))) →  ∀ (H : Heap) (locs : List Loc) (ls : Array Slot), 12 - i = kf → mS D S0 M2 F s H locs → lv_has ls 2 [(1, .int (nI i)), (0, .ref h0)] → W p l e { frames := 3, cells := 8, slots := 156, locals := 63 } s m ([.ref h0] : List Value).toArray below meth c H locs (0 + 1 + 2 + 1) (0 + 5 + 2 * 0 + 12) (MQ below (mQ D S0 F (fun v M' => v = none ∧ RC y h0 s00 M')) ([.ref h0] : List Value).toArray s 8 156 (fun q => S0 ≤ q)) (F0 m 29 ls []) := by
    clear w hl
    intro kf
    induction kf using Nat.strongRecOn with
    | _ kf ih_lp =>
      intro i M2 hi hb2 hn2 hT2 H locs ls hkf w hl
      refine lv_iload_n hx hb dX3_init_29 rfl (lv_at hl 0 rfl) ?_
      refine lv_bipush (v := 12) hx hb dX3_init_30 (by decide) ?_
      refine lv_icmp_ge (tgt := 51) hx hb dX3_init_32 (by decide) (fun c_32 => ?_) (fun c_32 => ?_)
      · skip
        have n_32 : 12 ≤ i := (nI_leI (by omega) (by omega)).mp c_32
        have ei : i = 12 := by omega
        subst ei
        refine lv_aload_n hx hb dX3_init_51 rfl (lv_at hl 1 rfl) ?_
        refine m_new C w 0 [.int 0, .int 0, .int 0, .null, .null] (T := TX0) (N := 5) rfl hi_X0 tyX0 tyX0_ok (by decide +kernel) (by decide +kernel) (by decide +kernel) (by intro j hj; rcases (show j = 0 ∨ j = 1 ∨ j = 2 ∨ j = 3 ∨ j = 4 by omega) with rfl | rfl | rfl | rfl | rfl <;> rfl) (Nat.le_of_ble_eq_true rfl) (Nat.le_of_ble_eq_true rfl) dX3_init_52 (fun qb H hMqb hFqb w => ?_)
        obtain ⟨M5, e_M5⟩ : ∃ z, z = mu M2 qb (eO 0 [.int 0, .int 0, .int 0, .null, .null]) := ⟨_, rfl⟩
        rw [← e_M5] at w
        have f5_h0 : M5 h0 = some (eO 2 [.ref qa, .ref aT, .null, .null, .null, .int 0, .int 0]) := by rw [e_M5]; exact mu_k (m_fr hb2 hMqb) hb2
        have f5_qa : M5 qa = some (eO 0 [.int 0, .int (nI 0), .int 0, .ref La, .ref Ta]) := by rw [e_M5]; exact mu_k (m_fr hn2 hMqb) hn2
        have f5_aT : M5 aT = some (eH y 12 (fun j => if j < 12 then some qa else none)) := by rw [e_M5]; exact mu_k (m_fr hT2 hMqb) hT2
        have f5_qb : M5 qb = some (eO 0 [.int 0, .int 0, .int 0, .null, .null]) := by rw [e_M5]; exact mu_s
        refine lv_dup hx hb dX3_init_55 rfl ?_
        refine lv_iconst (v := 0) hx hb dX3_init_56 (by decide) ?_
        refine lv_bipush (v := 64) hx hb dX3_init_57 (by decide) ?_
        refine lv_iconst (v := 0) hx hb dX3_init_59 (by decide) ?_
        refine m_callI C w hl.1 (As := [.int 0, .int 64, .int 0]) (rest := [.ref qb, .ref h0]) (c_Hold_init l D y S0 M5 F qb 64 0 0 0 0 .null .null 0 f5_qb (by omega)) ggX3_init_X0_init rfl (by decide +kernel) (by decide +kernel) (by decide +kernel) rfl (show (_ ≠ _ ∧ _ ≠ _ ∧ _ = some 3) by decide +kernel) ⟨Nat.le_of_ble_eq_true rfl, Nat.le_of_ble_eq_true rfl⟩ rfl (Nat.le_of_ble_eq_true rfl) dX3_init_60 ⟨Nat.le_of_ble_eq_true rfl, Nat.le_of_ble_eq_true rfl⟩ (fun v M1 H locs hq w => ?_)
        obtain ⟨rfl, Lb, Tb, h1b, h2b, -, -, h3b, hM3⟩ := hq
        obtain ⟨M3b, e_M3⟩ : ∃ z, z = M1 := ⟨_, rfl⟩
        rw [← e_M3] at w hM3
        clear e_M3 M1
        obtain ⟨hleb, g_qb, gLb, gTb, mLb, mTb⟩ := new_hold hMqb e_M5 h1b h2b h3b hM3
        refine W.eq (g2 := F0 m 63 ls [.ref qb, .ref h0]) rfl ?_
        have kb_h0 := hleb _ _ hb2
        have kb_qa := hleb _ _ hn2
        have kb_aT := hleb _ _ hT2
        refine m_putF C w kb_h0 (v := .ref qb) (index := 22) (T := TX3) (N := 7) rfl hi_X3 tyX3 tyX3_ok nmX3 2 (by decide) (by decide +kernel) rfl hnm rfl (tyX3_ok 2 (by decide)) rfl rfl (Nat.le_of_ble_eq_true rfl) dX3_init_63 (fun H locs w => ?_)
        obtain ⟨M6, e_M6⟩ : ∃ z, z = mu M3b h0 (eO 2 [.ref qa, .ref aT, .ref qb, .null, .null, .int 0, .int 0]) := ⟨_, rfl⟩
        have w : mS D S0 M6 F s H locs := by rw [e_M6]; exact w
        have f6_qa : M6 qa = some (eO 0 [.int 0, .int (nI 0), .int 0, .ref La, .ref Ta]) := by rw [e_M6]; exact mu_k (m_ne kb_qa kb_h0 (by first | exact ne_LT | exact ne_LI | exact ne_LH | exact ne_TL | exact ne_IL | exact ne_IH | exact ne_IT | exact ne_HL | exact ne_HI | exact ne_TI | exact ne_OA | exact ne_AO | (intro h; cases h))) kb_qa
        have f6_aT : M6 aT = some (eH y 12 (fun j => if j < 12 then some qa else none)) := by rw [e_M6]; exact mu_k (m_ne kb_aT kb_h0 (by first | exact ne_LT | exact ne_LI | exact ne_LH | exact ne_TL | exact ne_IL | exact ne_IH | exact ne_IT | exact ne_HL | exact ne_HI | exact ne_TI | exact ne_OA | exact ne_AO | (intro h; cases h))) kb_aT
        have f6_qb : M6 qb = some (eO 0 [.int 0, .int (nI 64), .int 0, .ref Lb, .ref Tb]) := by rw [e_M6]; exact mu_k (m_ne g_qb kb_h0 (by first | exact ne_LT | exact ne_LI | exact ne_LH | exact ne_TL | exact ne_IL | exact ne_IH | exact ne_IT | exact ne_HL | exact ne_HI | exact ne_TI | exact ne_OA | exact ne_AO | (intro h; cases h))) g_qb
        have f6_Lb : M6 Lb = some (eL y 64 (fun _ => 0)) := by rw [e_M6]; exact mu_k (m_ne gLb kb_h0 (by first | exact ne_LT | exact ne_LI | exact ne_LH | exact ne_TL | exact ne_IL | exact ne_IH | exact ne_IT | exact ne_HL | exact ne_HI | exact ne_TI | exact ne_OA | exact ne_AO | (intro h; cases h))) gLb
        have f6_Tb : M6 Tb = some (eT y 64 (fun _ => none)) := by rw [e_M6]; exact mu_k (m_ne gTb kb_h0 (by first | exact ne_LT | exact ne_LI | exact ne_LH | exact ne_TL | exact ne_IL | exact ne_IH | exact ne_IT | exact ne_HL | exact ne_HI | exact ne_TI | exact ne_OA | exact ne_AO | (intro h; cases h))) gTb
        have f6_h0 : M6 h0 = some (eO 2 [.ref qa, .ref aT, .ref qb, .null, .null, .int 0, .int 0]) := by rw [e_M6]; exact mu_s
        refine lv_aload_n hx hb dX3_init_66 rfl (lv_at hl 1 rfl) ?_
        refine lv_null hx hb dX3_init_67 ?_
        refine m_put C w f6_h0 (v := .null) (index := 25) (T := TX3) (N := 7) rfl hi_X3 tyX3 tyX3_ok nmX3 3 (by decide) (by decide +kernel) rfl (tyX3_ok 3 (by decide)) rfl rfl (Nat.le_of_ble_eq_true rfl) dX3_init_68 (fun H locs w => ?_)
        obtain ⟨M7, e_M7⟩ : ∃ z, z = mu M6 h0 (eO 2 [.ref qa, .ref aT, .ref qb, .null, .null, .int 0, .int 0]) := ⟨_, rfl⟩
        have w : mS D S0 M7 F s H locs := by rw [e_M7]; exact w
        have f7_qa : M7 qa = some (eO 0 [.int 0, .int (nI 0), .int 0, .ref La, .ref Ta]) := by rw [e_M7]; exact mu_k (m_ne f6_qa f6_h0 (by first | exact ne_LT | exact ne_LI | exact ne_LH | exact ne_TL | exact ne_IL | exact ne_IH | exact ne_IT | exact ne_HL | exact ne_HI | exact ne_TI | exact ne_OA | exact ne_AO | (intro h; cases h))) f6_qa
        have f7_aT : M7 aT = some (eH y 12 (fun j => if j < 12 then some qa else none)) := by rw [e_M7]; exact mu_k (m_ne f6_aT f6_h0 (by first | exact ne_LT | exact ne_LI | exact ne_LH | exact ne_TL | exact ne_IL | exact ne_IH | exact ne_IT | exact ne_HL | exact ne_HI | exact ne_TI | exact ne_OA | exact ne_AO | (intro h; cases h))) f6_aT
        have f7_qb : M7 qb = some (eO 0 [.int 0, .int (nI 64), .int 0, .ref Lb, .ref Tb]) := by rw [e_M7]; exact mu_k (m_ne f6_qb f6_h0 (by first | exact ne_LT | exact ne_LI | exact ne_LH | exact ne_TL | exact ne_IL | exact ne_IH | exact ne_IT | exact ne_HL | exact ne_HI | exact ne_TI | exact ne_OA | exact ne_AO | (intro h; cases h))) f6_qb
        have f7_Lb : M7 Lb = some (eL y 64 (fun _ => 0)) := by rw [e_M7]; exact mu_k (m_ne f6_Lb f6_h0 (by first | exact ne_LT | exact ne_LI | exact ne_LH | exact ne_TL | exact ne_IL | exact ne_IH | exact ne_IT | exact ne_HL | exact ne_HI | exact ne_TI | exact ne_OA | exact ne_AO | (intro h; cases h))) f6_Lb
        have f7_Tb : M7 Tb = some (eT y 64 (fun _ => none)) := by rw [e_M7]; exact mu_k (m_ne f6_Tb f6_h0 (by first | exact ne_LT | exact ne_LI | exact ne_LH | exact ne_TL | exact ne_IL | exact ne_IH | exact ne_IT | exact ne_HL | exact ne_HI | exact ne_TI | exact ne_OA | exact ne_AO | (intro h; cases h))) f6_Tb
        have f7_h0 : M7 h0 = some (eO 2 [.ref qa, .ref aT, .ref qb, .null, .null, .int 0, .int 0]) := by rw [e_M7]; exact mu_s
        refine lv_aload_n hx hb dX3_init_71 rfl (lv_at hl 1 rfl) ?_
        refine lv_bipush (v := 6) hx hb dX3_init_72 (by decide) ?_
        refine m_newI C w (by decide +kernel) 6 rfl (by omega) (Nat.le_of_ble_eq_true rfl) (Nat.le_of_ble_eq_true rfl) dX3_init_74 (fun aY H hMaY hFaY w => ?_)
        obtain ⟨M8, e_M8⟩ : ∃ z, z = mu M7 aY (eI y 6 (fun _ => 0)) := ⟨_, rfl⟩
        rw [← e_M8] at w
        have f8_h0 : M8 h0 = some (eO 2 [.ref qa, .ref aT, .ref qb, .null, .null, .int 0, .int 0]) := by rw [e_M8]; exact mu_k (m_fr f7_h0 hMaY) f7_h0
        have f8_qa : M8 qa = some (eO 0 [.int 0, .int (nI 0), .int 0, .ref La, .ref Ta]) := by rw [e_M8]; exact mu_k (m_fr f7_qa hMaY) f7_qa
        have f8_aT : M8 aT = some (eH y 12 (fun j => if j < 12 then some qa else none)) := by rw [e_M8]; exact mu_k (m_fr f7_aT hMaY) f7_aT
        have f8_qb : M8 qb = some (eO 0 [.int 0, .int (nI 64), .int 0, .ref Lb, .ref Tb]) := by rw [e_M8]; exact mu_k (m_fr f7_qb hMaY) f7_qb
        have f8_Lb : M8 Lb = some (eL y 64 (fun _ => 0)) := by rw [e_M8]; exact mu_k (m_fr f7_Lb hMaY) f7_Lb
        have f8_Tb : M8 Tb = some (eT y 64 (fun _ => none)) := by rw [e_M8]; exact mu_k (m_fr f7_Tb hMaY) f7_Tb
        have f8_aY : M8 aY = some (eI y 6 (fun _ => 0)) := by rw [e_M8]; exact mu_s
        refine m_putF C w f8_h0 (v := .ref aY) (index := 28) (T := TX3) (N := 7) rfl hi_X3 tyX3 tyX3_ok nmX3 4 (by decide) (by decide +kernel) rfl hnm rfl (tyX3_ok 4 (by decide)) rfl rfl (Nat.le_of_ble_eq_true rfl) dX3_init_76 (fun H locs w => ?_)
        obtain ⟨M9, e_M9⟩ : ∃ z, z = mu M8 h0 (eO 2 [.ref qa, .ref aT, .ref qb, .null, .ref aY, .int 0, .int 0]) := ⟨_, rfl⟩
        have w : mS D S0 M9 F s H locs := by rw [e_M9]; exact w
        have f9_qa : M9 qa = some (eO 0 [.int 0, .int (nI 0), .int 0, .ref La, .ref Ta]) := by rw [e_M9]; exact mu_k (m_ne f8_qa f8_h0 (by first | exact ne_LT | exact ne_LI | exact ne_LH | exact ne_TL | exact ne_IL | exact ne_IH | exact ne_IT | exact ne_HL | exact ne_HI | exact ne_TI | exact ne_OA | exact ne_AO | (intro h; cases h))) f8_qa
        have f9_aT : M9 aT = some (eH y 12 (fun j => if j < 12 then some qa else none)) := by rw [e_M9]; exact mu_k (m_ne f8_aT f8_h0 (by first | exact ne_LT | exact ne_LI | exact ne_LH | exact ne_TL | exact ne_IL | exact ne_IH | exact ne_IT | exact ne_HL | exact ne_HI | exact ne_TI | exact ne_OA | exact ne_AO | (intro h; cases h))) f8_aT
        have f9_qb : M9 qb = some (eO 0 [.int 0, .int (nI 64), .int 0, .ref Lb, .ref Tb]) := by rw [e_M9]; exact mu_k (m_ne f8_qb f8_h0 (by first | exact ne_LT | exact ne_LI | exact ne_LH | exact ne_TL | exact ne_IL | exact ne_IH | exact ne_IT | exact ne_HL | exact ne_HI | exact ne_TI | exact ne_OA | exact ne_AO | (intro h; cases h))) f8_qb
        have f9_Lb : M9 Lb = some (eL y 64 (fun _ => 0)) := by rw [e_M9]; exact mu_k (m_ne f8_Lb f8_h0 (by first | exact ne_LT | exact ne_LI | exact ne_LH | exact ne_TL | exact ne_IL | exact ne_IH | exact ne_IT | exact ne_HL | exact ne_HI | exact ne_TI | exact ne_OA | exact ne_AO | (intro h; cases h))) f8_Lb
        have f9_Tb : M9 Tb = some (eT y 64 (fun _ => none)) := by rw [e_M9]; exact mu_k (m_ne f8_Tb f8_h0 (by first | exact ne_LT | exact ne_LI | exact ne_LH | exact ne_TL | exact ne_IL | exact ne_IH | exact ne_IT | exact ne_HL | exact ne_HI | exact ne_TI | exact ne_OA | exact ne_AO | (intro h; cases h))) f8_Tb
        have f9_aY : M9 aY = some (eI y 6 (fun _ => 0)) := by rw [e_M9]; exact mu_k (m_ne f8_aY f8_h0 (by first | exact ne_LT | exact ne_LI | exact ne_LH | exact ne_TL | exact ne_IL | exact ne_IH | exact ne_IT | exact ne_HL | exact ne_HI | exact ne_TI | exact ne_OA | exact ne_AO | (intro h; cases h))) f8_aY
        have f9_h0 : M9 h0 = some (eO 2 [.ref qa, .ref aT, .ref qb, .null, .ref aY, .int 0, .int 0]) := by rw [e_M9]; exact mu_s
        refine lv_aload_n hx hb dX3_init_79 rfl (lv_at hl 1 rfl) ?_
        refine lv_iconst (v := 0) hx hb dX3_init_80 (by decide) ?_
        refine m_put C w f9_h0 (v := .int 0) (index := 32) (T := TX3) (N := 7) rfl hi_X3 tyX3 tyX3_ok nmX3 5 (by decide) (by decide +kernel) rfl (tyX3_ok 5 (by decide)) rfl rfl (Nat.le_of_ble_eq_true rfl) dX3_init_81 (fun H locs w => ?_)
        obtain ⟨M10, e_M10⟩ : ∃ z, z = mu M9 h0 (eO 2 [.ref qa, .ref aT, .ref qb, .null, .ref aY, .int 0, .int 0]) := ⟨_, rfl⟩
        have w : mS D S0 M10 F s H locs := by rw [e_M10]; exact w
        have f10_qa : M10 qa = some (eO 0 [.int 0, .int (nI 0), .int 0, .ref La, .ref Ta]) := by rw [e_M10]; exact mu_k (m_ne f9_qa f9_h0 (by first | exact ne_LT | exact ne_LI | exact ne_LH | exact ne_TL | exact ne_IL | exact ne_IH | exact ne_IT | exact ne_HL | exact ne_HI | exact ne_TI | exact ne_OA | exact ne_AO | (intro h; cases h))) f9_qa
        have f10_aT : M10 aT = some (eH y 12 (fun j => if j < 12 then some qa else none)) := by rw [e_M10]; exact mu_k (m_ne f9_aT f9_h0 (by first | exact ne_LT | exact ne_LI | exact ne_LH | exact ne_TL | exact ne_IL | exact ne_IH | exact ne_IT | exact ne_HL | exact ne_HI | exact ne_TI | exact ne_OA | exact ne_AO | (intro h; cases h))) f9_aT
        have f10_qb : M10 qb = some (eO 0 [.int 0, .int (nI 64), .int 0, .ref Lb, .ref Tb]) := by rw [e_M10]; exact mu_k (m_ne f9_qb f9_h0 (by first | exact ne_LT | exact ne_LI | exact ne_LH | exact ne_TL | exact ne_IL | exact ne_IH | exact ne_IT | exact ne_HL | exact ne_HI | exact ne_TI | exact ne_OA | exact ne_AO | (intro h; cases h))) f9_qb
        have f10_Lb : M10 Lb = some (eL y 64 (fun _ => 0)) := by rw [e_M10]; exact mu_k (m_ne f9_Lb f9_h0 (by first | exact ne_LT | exact ne_LI | exact ne_LH | exact ne_TL | exact ne_IL | exact ne_IH | exact ne_IT | exact ne_HL | exact ne_HI | exact ne_TI | exact ne_OA | exact ne_AO | (intro h; cases h))) f9_Lb
        have f10_Tb : M10 Tb = some (eT y 64 (fun _ => none)) := by rw [e_M10]; exact mu_k (m_ne f9_Tb f9_h0 (by first | exact ne_LT | exact ne_LI | exact ne_LH | exact ne_TL | exact ne_IL | exact ne_IH | exact ne_IT | exact ne_HL | exact ne_HI | exact ne_TI | exact ne_OA | exact ne_AO | (intro h; cases h))) f9_Tb
        have f10_aY : M10 aY = some (eI y 6 (fun _ => 0)) := by rw [e_M10]; exact mu_k (m_ne f9_aY f9_h0 (by first | exact ne_LT | exact ne_LI | exact ne_LH | exact ne_TL | exact ne_IL | exact ne_IH | exact ne_IT | exact ne_HL | exact ne_HI | exact ne_TI | exact ne_OA | exact ne_AO | (intro h; cases h))) f9_aY
        have f10_h0 : M10 h0 = some (eO 2 [.ref qa, .ref aT, .ref qb, .null, .ref aY, .int 0, .int 0]) := by rw [e_M10]; exact mu_s
        refine lv_aload_n hx hb dX3_init_84 rfl (lv_at hl 1 rfl) ?_
        refine lv_iconst (v := 0) hx hb dX3_init_85 (by decide) ?_
        refine m_put C w f10_h0 (v := .int 0) (index := 36) (T := TX3) (N := 7) rfl hi_X3 tyX3 tyX3_ok nmX3 6 (by decide) (by decide +kernel) rfl (tyX3_ok 6 (by decide)) rfl rfl (Nat.le_of_ble_eq_true rfl) dX3_init_86 (fun H locs w => ?_)
        obtain ⟨M11, e_M11⟩ : ∃ z, z = mu M10 h0 (eO 2 [.ref qa, .ref aT, .ref qb, .null, .ref aY, .int 0, .int 0]) := ⟨_, rfl⟩
        have w : mS D S0 M11 F s H locs := by rw [e_M11]; exact w
        have f11_qa : M11 qa = some (eO 0 [.int 0, .int (nI 0), .int 0, .ref La, .ref Ta]) := by rw [e_M11]; exact mu_k (m_ne f10_qa f10_h0 (by first | exact ne_LT | exact ne_LI | exact ne_LH | exact ne_TL | exact ne_IL | exact ne_IH | exact ne_IT | exact ne_HL | exact ne_HI | exact ne_TI | exact ne_OA | exact ne_AO | (intro h; cases h))) f10_qa
        have f11_aT : M11 aT = some (eH y 12 (fun j => if j < 12 then some qa else none)) := by rw [e_M11]; exact mu_k (m_ne f10_aT f10_h0 (by first | exact ne_LT | exact ne_LI | exact ne_LH | exact ne_TL | exact ne_IL | exact ne_IH | exact ne_IT | exact ne_HL | exact ne_HI | exact ne_TI | exact ne_OA | exact ne_AO | (intro h; cases h))) f10_aT
        have f11_qb : M11 qb = some (eO 0 [.int 0, .int (nI 64), .int 0, .ref Lb, .ref Tb]) := by rw [e_M11]; exact mu_k (m_ne f10_qb f10_h0 (by first | exact ne_LT | exact ne_LI | exact ne_LH | exact ne_TL | exact ne_IL | exact ne_IH | exact ne_IT | exact ne_HL | exact ne_HI | exact ne_TI | exact ne_OA | exact ne_AO | (intro h; cases h))) f10_qb
        have f11_Lb : M11 Lb = some (eL y 64 (fun _ => 0)) := by rw [e_M11]; exact mu_k (m_ne f10_Lb f10_h0 (by first | exact ne_LT | exact ne_LI | exact ne_LH | exact ne_TL | exact ne_IL | exact ne_IH | exact ne_IT | exact ne_HL | exact ne_HI | exact ne_TI | exact ne_OA | exact ne_AO | (intro h; cases h))) f10_Lb
        have f11_Tb : M11 Tb = some (eT y 64 (fun _ => none)) := by rw [e_M11]; exact mu_k (m_ne f10_Tb f10_h0 (by first | exact ne_LT | exact ne_LI | exact ne_LH | exact ne_TL | exact ne_IL | exact ne_IH | exact ne_IT | exact ne_HL | exact ne_HI | exact ne_TI | exact ne_OA | exact ne_AO | (intro h; cases h))) f10_Tb
        have f11_aY : M11 aY = some (eI y 6 (fun _ => 0)) := by rw [e_M11]; exact mu_k (m_ne f10_aY f10_h0 (by first | exact ne_LT | exact ne_LI | exact ne_LH | exact ne_TL | exact ne_IL | exact ne_IH | exact ne_IT | exact ne_HL | exact ne_HI | exact ne_TI | exact ne_OA | exact ne_AO | (intro h; cases h))) f10_aY
        have f11_h0 : M11 h0 = some (eO 2 [.ref qa, .ref aT, .ref qb, .null, .ref aY, .int 0, .int 0]) := by rw [e_M11]; exact mu_s
        have hne : Tb ≠ aT := fun e => by rw [e, hT2] at mTb; cases mTb
        have w := m_cong (g := fun _ => some qa) w f11_aT (fun j hj => if_pos hj)
        exact m_vret C w dX3_init_89 (by omega) (by omega) (⟨rfl, CW_00 (mu_k (m_ne f11_h0 f11_aT ne_OA) f11_h0) (mu_k (m_ne f11_qa f11_aT ne_OA) f11_qa) mu_s (mu_k (m_ne f11_qb f11_aT ne_OA) f11_qb) (mu_k (m_ne f11_aY f11_aT ne_IH) f11_aY) (mu_k (m_ne f11_Lb f11_aT ne_LH) f11_Lb) (mu_k hne f11_Tb) hne⟩)
      · skip
        have n_32 : ¬ 12 ≤ i := fun h => absurd ((nI_leI (by omega) (by omega)).mpr h) c_32
        refine lv_aload_n hx hb dX3_init_35 rfl (lv_at hl 1 rfl) ?_
        refine m_get C w hb2 (index := 18) (T := TX3) (N := 7) rfl hi_X3 1 (by decide) (by decide +kernel) rfl dX3_init_36 ?_
        refine lv_iload_n hx hb dX3_init_39 rfl (lv_at hl 0 rfl) ?_
        refine lv_aload_n hx hb dX3_init_40 rfl (lv_at hl 1 rfl) ?_
        refine m_get C w hb2 (index := 14) (T := TX3) (N := 7) rfl hi_X3 0 (by decide) (by decide +kernel) rfl dX3_init_41 ?_
        refine m_hast C w hT2 hn2 i rfl (by omega) (by omega) dX3_init_44 (fun H locs w => ?_)
        obtain ⟨M5, e_M5⟩ : ∃ z, z = mu M2 aT (eH y 12 (va_up (fun j => if j < i then some qa else none) i (some qa))) := ⟨_, rfl⟩
        have w : mS D S0 M5 F s H locs := by rw [e_M5]; exact w
        refine lv_iinc (v := nI (i + 1)) (lv' := [(1, .int (nI (i + 1))), (0, .ref h0)]) hx hb dX3_init_45 hl (k := 0) rfl (by first | exact nI_1 _ | exact nI_add _ _ | rfl) (by decide) rfl (fun ls hl => ?_)
        refine lv_goto (tgt := 29) hx hb dX3_init_48 (by decide) ?_
        exact ih_lp (12 - (i + 1)) (by omega) (i + 1) _ (by omega) (by rw [e_M5]; exact mu_k (m_ne hb2 hT2 ne_OA) hb2) (by rw [e_M5]; exact mu_k (m_ne hn2 hT2 ne_OA) hn2) (by
            rw [e_M5, mu_s]
            congr 5
            funext j
            by_cases e : j = i
            · rw [e, va_ups, if_pos (by omega)]
            · rw [va_upo e]
              have hiff : j < i ↔ j < i + 1 := by omega
              simp only [hiff]) _ _ ls rfl w (lv_sub hl [0, 1] rfl)
  exact lp _ 0 _ (by omega) f4_h0 f4_qa (by rw [f4_aT]; congr 3) _ _ ls rfl w (lv_sub hl [0, 1] rfl)
end
section
/-! the reference's world -/
def brI (S : St) : Int32 := match sB S with
  | none => -1
  | some r => nI r
def mA (y : mY) (fr : Nat → Nat) (cl go bf : Nat → Int64) (cn : Nat → Int32) (S : St) (k : Nat) : va_E := match k with
  | 0 => eI y 12 (fun t => nI (sH S t))
  | 1 => eI y 12 (sO S)
  | 2 => eI y 520 (fun r => nI (sK S r))
  | 3 => eI y 520 (fun r => nI (fr r))
  | 4 => eI y 520 (fun r => nI (sZ S r))
  | 5 => eL y 33000 cl
  | 6 => eI y 520 (fun k => nI (sS S k))
  | 7 => eI y 520 (sL S)
  | 8 => eL y 64 go
  | 9 => eL y 64 bf
  | _ => eI y 7 cn
abbrev mFl (B : Nat → Nat) (nc : Nat) (S : St) : List Value := [.ref (B 0), .ref (B 1), .ref (B 2), .ref (B 3), .ref (B 4), .ref (B 5), .int (nI (sN S)), .int (nI nc), .ref (B 6), .ref (B 7), .int (nI (sP S)), .ref (B 8), .ref (B 9), .int (brI S), .int (nI (sI S)), .ref (B 10)]
def MW (y : mY) (m0 : Nat) (B : Nat → Nat) (fr : Nat → Nat) (nc : Nat) (cl go bf : Nat → Int64) (cn : Nat → Int32) (S : St) (M : mp) : Prop := M m0 = some (eO 3 (mFl B nc S)) ∧ (∀ k, k < 11 → M (B k) = some (mA y fr cl go bf cn S k)) ∧ ∀ i j, i < 11 → j < 11 → B i = B j → i = j
/-- rows lie one behind another in 'cell' -/
def MR (fr : Nat → Nat) (nc : Nat) (cl bf : Nat → Int64) (cn : Nat → Int32) (S : St) : Prop := (∀ r, r < sN S → fr r + sZ S r ≤ nc) ∧ (∀ r q, r < q → q < sN S → fr r + sZ S r ≤ fr q) ∧ nc ≤ 64 * sN S ∧ (∀ x, nc ≤ x → cl x = 0) ∧ (∀ r i, r < sN S → i < sZ S r → cl (fr r + i) = sC S r i) ∧ (∀ r i, sB S = some r → i < sZ S r → bf i = sF S i) ∧ ∀ j, j < 6 → cn (j + 1) = sT S j
def RM (y : mY) (m0 : Nat) (S : St) (M : mp) : Prop := ∃ (B : Nat → Nat) (fr : Nat → Nat) (nc : Nat) (cl go bf : Nat → Int64) (cn : Nat → Int32), MW y m0 B fr nc cl go bf cn S M ∧ MR fr nc cl bf cn S
section MWK
variable {y : mY} {m0 : Nat} {B : Nat → Nat} {fr fr' : Nat → Nat} {nc nc' : Nat} {cl go bf cl' go' bf' : Nat → Int64} {cn cn' : Nat → Int32} {S S' : St} {M : mp}
theorem MW.a0 (h : MW y m0 B fr nc cl go bf cn S M) : M (B 0) = some (eI y 12 (fun t => nI (sH S t))) := h.2.1 0 (by decide)
theorem MW.a1 (h : MW y m0 B fr nc cl go bf cn S M) : M (B 1) = some (eI y 12 (sO S)) := h.2.1 1 (by decide)
theorem MW.a2 (h : MW y m0 B fr nc cl go bf cn S M) : M (B 2) = some (eI y 520 (fun r => nI (sK S r))) := h.2.1 2 (by decide)
theorem MW.a3 (h : MW y m0 B fr nc cl go bf cn S M) : M (B 3) = some (eI y 520 (fun r => nI (fr r))) := h.2.1 3 (by decide)
theorem MW.a4 (h : MW y m0 B fr nc cl go bf cn S M) : M (B 4) = some (eI y 520 (fun r => nI (sZ S r))) := h.2.1 4 (by decide)
theorem MW.a5 (h : MW y m0 B fr nc cl go bf cn S M) : M (B 5) = some (eL y 33000 cl) := h.2.1 5 (by decide)
theorem MW.a6 (h : MW y m0 B fr nc cl go bf cn S M) : M (B 6) = some (eI y 520 (fun k => nI (sS S k))) := h.2.1 6 (by decide)
theorem MW.a7 (h : MW y m0 B fr nc cl go bf cn S M) : M (B 7) = some (eI y 520 (sL S)) := h.2.1 7 (by decide)
theorem MW.a8 (h : MW y m0 B fr nc cl go bf cn S M) : M (B 8) = some (eL y 64 go) := h.2.1 8 (by decide)
theorem MW.a9 (h : MW y m0 B fr nc cl go bf cn S M) : M (B 9) = some (eL y 64 bf) := h.2.1 9 (by decide)
theorem MW.a10 (h : MW y m0 B fr nc cl go bf cn S M) : M (B 10) = some (eI y 7 cn) := h.2.1 10 (by decide)
theorem mA_arr (k : Nat) : ∃ x, mA y fr cl go bf cn S k = .inl x := by
  unfold mA
  split <;> exact ⟨_, rfl⟩
/-- an array is written -/
theorem MW.set (h : MW y m0 B fr nc cl go bf cn S M) (j : Nat) (hj : j < 11) (hf : mFl B nc' S' = mFl B nc S) (ha : ∀ k, k < 11 → k ≠ j → mA y fr' cl' go' bf' cn' S' k = mA y fr cl go bf cn S k) {e : va_E} (he : mA y fr' cl' go' bf' cn' S' j = e) : MW y m0 B fr' nc' cl' go' bf' cn' S' (mu M (B j) e) := by
  obtain ⟨x, hx⟩ := mA_arr (y := y) (fr := fr) (cl := cl) (go := go) (bf := bf) (cn := cn) (S := S) j
  refine ⟨?_, fun k hk => ?_, h.2.2⟩
  · rw [hf]
    exact mu_k (m_ne h.1 ((h.2.1 j hj).trans (congrArg some hx)) ne_OA) h.1
  · by_cases e : k = j
    · rw [e, mu_s, he]
    · rw [mu_n (fun q => e (h.2.2 k j hk hj q)), h.2.1 k hk, ha k hk e]
/-- a field is written -/
theorem MW.fld (h : MW y m0 B fr nc cl go bf cn S M) (ha : ∀ k, k < 11 → mA y fr' cl' go' bf' cn' S' k = mA y fr cl go bf cn S k) : MW y m0 B fr' nc' cl' go' bf' cn' S' (mu M m0 (eO 3 (mFl B nc' S'))) := by
  refine ⟨mu_s, fun k hk => ?_, h.2.2⟩
  obtain ⟨x, hx⟩ := mA_arr (y := y) (fr := fr) (cl := cl) (go := go) (bf := bf) (cn := cn) (S := S) k
  have h1 := h.2.1 k hk
  rw [ha k hk]
  exact mu_k (m_ne (h1.trans (congrArg some hx)) h.1 ne_AO) h1
end MWK
def inR (v a b : Int32) : Bool := !decide (v < a) && !decide (b < v)
theorem inR_P {v : Int32} {z : Nat} (hz : z < 2 ^ 30) : inR v 0 (nI z) = inP v (z + 1) := by
  unfold inR inP
  rw [show decide (nI z < v) = decide (nI (z + 1) ≤ v) from decide_eq_decide.mpr (lt_s1 hz)]
theorem inR_m1 {v : Int32} {z : Nat} (hz : z < 2 ^ 30) : inR v 0 (nI z - 1) = inP v z := by
  cases z with
  | zero =>
    unfold inR inP
    rw [show decide (nI 0 - 1 < v) = decide (nI 0 ≤ v) from decide_eq_decide.mpr (by
      rw [Int32.lt_iff_toInt_lt, Int32.le_iff_toInt_le, show (nI 0 - 1).toInt = -1 from by decide, show (nI 0).toInt = 0 from by decide]
      omega)]
  | succ z => rw [nI_pred]; exact inR_P (by omega)
theorem inR_N {k : Nat} (hk : k < 2 ^ 31) : inR (nI k) 2 9 = isN k := by
  unfold inR isN
  have h1 : decide (nI k < 2) = decide (k < 2) := decide_eq_decide.mpr (nI_ltI (b := 2) hk (by decide))
  have h2 : decide ((9 : Int32) < nI k) = decide (9 < k) := decide_eq_decide.mpr (nI_ltI (a := 9) (by decide) hk)
  rw [h1, h2, ← decide_not, ← decide_not]
  congr 1 <;> exact decide_eq_decide.mpr (by omega)
set_option maxRecDepth 100000 in
set_option maxHeartbeats 4000000 in
theorem r_in (l : Launch) (D : va_G) (y : mY) (S0 : Nat) (M F : mp) (a b e1 : Int32) : ct l yX4_in wsX4_in 0 0 0 0 D y S0 M F [.int a, .int b, .int e1] (fun v M' => v = some (.int (bI (inR a b e1))) ∧ M' = M) := by
  refine ct_of cX4_in 3 (some .boolean) [(0, .int a), (1, .int b), (2, .int e1)] (by decide +kernel) rfl (Nat.le_of_ble_eq_true rfl) rfl ?_
  intro p e s m below meth c ls C hnm hl w
  have hx := C.1
  have hb := C.2.1
  refine lv_iload_n hx hb dX4_in_0 rfl (lv_at hl 0 rfl) ?_
  refine lv_iload_n hx hb dX4_in_1 rfl (lv_at hl 1 rfl) ?_
  refine lv_icmp_lt (tgt := 14) hx hb dX4_in_2 (by decide) (fun c_2 => ?_) (fun c_2 => ?_)
  · skip
    refine lv_iconst (v := 0) hx hb dX4_in_14 (by decide) ?_
    exact m_zret C w dX4_in_15 (by omega) (by omega) (by first | exact Or.inl rfl | exact Or.inr rfl | exact bI_or _) (⟨by unfold inR; simp_all [bI], rfl⟩)
  · skip
    refine lv_iload_n hx hb dX4_in_5 rfl (lv_at hl 0 rfl) ?_
    refine lv_iload_n hx hb dX4_in_6 rfl (lv_at hl 2 rfl) ?_
    refine lv_icmp_gt (tgt := 14) hx hb dX4_in_7 (by decide) (fun c_7 => ?_) (fun c_7 => ?_)
    · skip
      refine lv_iconst (v := 0) hx hb dX4_in_14 (by decide) ?_
      exact m_zret C w dX4_in_15 (by omega) (by omega) (by first | exact Or.inl rfl | exact Or.inr rfl | exact bI_or _) (⟨by unfold inR; simp_all [bI], rfl⟩)
    · skip
      refine lv_iconst (v := 1) hx hb dX4_in_10 (by decide) ?_
      refine lv_goto (tgt := 15) hx hb dX4_in_11 (by decide) ?_
      exact m_zret C w dX4_in_15 (by omega) (by omega) (by first | exact Or.inl rfl | exact Or.inr rfl | exact bI_or _) (⟨by unfold inR; simp_all [bI], rfl⟩)
set_option maxRecDepth 100000 in
set_option maxHeartbeats 4000000 in
theorem r_isTray (l : Launch) (D : va_G) (y : mY) (S0 : Nat) (M F : mp) (t1 : Int32) : ct l yX4_isTray wsX4_isTray 1 22 0 0 D y S0 M F [.int t1] (fun v M' => v = some (.int (bI (inP t1 12))) ∧ M' = M) := by
  refine ct_of cX4_isTray 1 (some .boolean) [(0, .int t1)] (by decide +kernel) rfl (Nat.le_of_ble_eq_true rfl) rfl ?_
  intro p e s m below meth c ls C hnm hl w
  have hx := C.1
  have hb := C.2.1
  refine lv_iload_n hx hb dX4_isTray_0 rfl (lv_at hl 0 rfl) ?_
  refine lv_iconst (v := 0) hx hb dX4_isTray_1 (by decide) ?_
  refine lv_bipush (v := 11) hx hb dX4_isTray_2 (by decide) ?_
  refine m_callS C w hl.1 (As := [.int t1, .int 0, .int 11]) (rest := []) (r_in l D y S0 M F t1 0 11) ggX4_isTray_X4_in rfl (by decide +kernel) (by decide +kernel) (by decide +kernel) (show (_ ≠ _ ∧ _ ≠ _ ∧ _ = some 3) by decide +kernel) ⟨Nat.le_of_ble_eq_true rfl, Nat.le_of_ble_eq_true rfl⟩ rfl (Nat.le_of_ble_eq_true rfl) dX4_isTray_4 ⟨Nat.le_of_ble_eq_true rfl, Nat.le_of_ble_eq_true rfl⟩ (fun v M1 H locs hq w => ?_)
  obtain ⟨rfl, hM1⟩ := hq
  rw [hM1] at w
  clear hM1 M1
  refine W.eq (g2 := F0 m 7 ls [.int (bI (inR t1 0 11))]) rfl ?_
  exact m_zret C w dX4_isTray_7 (by omega) (by omega) (by first | exact Or.inl rfl | exact Or.inr rfl | exact bI_or _) (⟨by rw [show inR t1 0 11 = inP t1 12 from inR_P (z := 11) (by omega)], rfl⟩)
set_option maxRecDepth 100000 in
set_option maxHeartbeats 4000000 in
theorem r_isN (l : Launch) (D : va_G) (y : mY) (S0 : Nat) (M F : mp) (k : Nat) (hk : k < 2 ^ 31) : ct l yX4_isNumbers wsX4_isNumbers 1 22 0 0 D y S0 M F [.int (nI k)] (fun v M' => v = some (.int (bI (isN k))) ∧ M' = M) := by
  refine ct_of cX4_isNumbers 1 (some .boolean) [(0, .int (nI k))] (by decide +kernel) rfl (Nat.le_of_ble_eq_true rfl) rfl ?_
  intro p e s m below meth c ls C hnm hl w
  have hx := C.1
  have hb := C.2.1
  refine lv_iload_n hx hb dX4_isNumbers_0 rfl (lv_at hl 0 rfl) ?_
  refine lv_iconst (v := 2) hx hb dX4_isNumbers_1 (by decide) ?_
  refine lv_bipush (v := 9) hx hb dX4_isNumbers_2 (by decide) ?_
  refine m_callS C w hl.1 (As := [.int (nI k), .int 2, .int 9]) (rest := []) (r_in l D y S0 M F (nI k) 2 9) ggX4_isNumbers_X4_in rfl (by decide +kernel) (by decide +kernel) (by decide +kernel) (show (_ ≠ _ ∧ _ ≠ _ ∧ _ = some 3) by decide +kernel) ⟨Nat.le_of_ble_eq_true rfl, Nat.le_of_ble_eq_true rfl⟩ rfl (Nat.le_of_ble_eq_true rfl) dX4_isNumbers_4 ⟨Nat.le_of_ble_eq_true rfl, Nat.le_of_ble_eq_true rfl⟩ (fun v M1 H locs hq w => ?_)
  obtain ⟨rfl, hM1⟩ := hq
  rw [hM1] at w
  clear hM1 M1
  refine W.eq (g2 := F0 m 7 ls [.int (bI (inR (nI k) 2 9))]) rfl ?_
  exact m_zret C w dX4_isNumbers_7 (by omega) (by omega) (by first | exact Or.inl rfl | exact Or.inr rfl | exact bI_or _) (⟨by rw [inR_N hk], rfl⟩)
set_option maxRecDepth 100000 in
set_option maxHeartbeats 4000000 in
theorem r_isRow (l : Launch) (D : va_G) (y : mY) (S0 : Nat) (M F : mp) (m0 : Nat) (B : Nat → Nat) (fr : Nat → Nat) (nc : Nat) (cl go bf : Nat → Int64) (cn : Nat → Int32) (S : St) (hW : MW y m0 B fr nc cl go bf cn S M) (hQ : MR fr nc cl bf cn S) (c0 : Nat) (hI : Inv c0 S) (t : Nat) (ht : t < 12) : ct l yX4_isRow wsX4_isRow 0 0 0 0 D y S0 M F [.ref m0, .int (nI t)] (fun v M' => v = some (.int (bI (decide (2 ≤ sH S t)))) ∧ M' = M) := by
  refine ct_of cX4_isRow 2 (some .boolean) [(0, .ref m0), (1, .int (nI t))] (by decide +kernel) rfl (Nat.le_of_ble_eq_true rfl) rfl ?_
  intro p e s m below meth c ls C hnm hl w
  have hx := C.1
  have hb := C.2.1
  have hi_X4 : ∀ w ∈ u_ws RX4 TX4 16, w ∈ wsX4_isRow := by decide +kernel
  have hk13 := (hI.2.2.2.2.2.2.1 t ht).1
  refine lv_aload_n hx hb dX4_isRow_0 rfl (lv_at hl 0 rfl) ?_
  refine m_get C w hW.1 (index := 7) (T := TX4) (N := 16) rfl hi_X4 0 (by decide) (by decide +kernel) rfl dX4_isRow_1 ?_
  refine lv_iload_n hx hb dX4_isRow_4 rfl (lv_at hl 1 rfl) ?_
  refine m_iald C w hW.a0 t rfl (by omega) (by omega) dX4_isRow_5 ?_
  refine lv_iconst (v := 1) hx hb dX4_isRow_6 (by decide) ?_
  refine lv_icmp_le (tgt := 14) hx hb dX4_isRow_7 (by decide) (fun c_7 => ?_) (fun c_7 => ?_)
  · skip
    have n_7 : (sH S t) ≤ 1 := (nI_leI (by omega) (by omega)).mp c_7
    refine lv_iconst (v := 0) hx hb dX4_isRow_14 (by decide) ?_
    exact m_zret C w dX4_isRow_15 (by omega) (by omega) (by first | exact Or.inl rfl | exact Or.inr rfl | exact bI_or _) (⟨by simp [bI]; omega, rfl⟩)
  · skip
    have n_7 : ¬ (sH S t) ≤ 1 := fun h => absurd ((nI_leI (by omega) (by omega)).mpr h) c_7
    refine lv_iconst (v := 1) hx hb dX4_isRow_10 (by decide) ?_
    refine lv_goto (tgt := 15) hx hb dX4_isRow_11 (by decide) ?_
    exact m_zret C w dX4_isRow_15 (by omega) (by omega) (by first | exact Or.inl rfl | exact Or.inr rfl | exact bI_or _) (⟨by simp [bI]; omega, rfl⟩)
set_option maxRecDepth 100000 in
set_option maxHeartbeats 4000000 in
theorem r_lacks (l : Launch) (D : va_G) (y : mY) (S0 : Nat) (M F : mp) (m0 : Nat) (B : Nat → Nat) (fr : Nat → Nat) (nc : Nat) (cl go bf : Nat → Int64) (cn : Nat → Int32) (S : St) (hW : MW y m0 B fr nc cl go bf cn S M) (hQ : MR fr nc cl bf cn S) (c0 : Nat) (hI : Inv c0 S) (t : Nat) (ht : t < 12) : ct l yX4_lacks wsX4_lacks 0 0 0 0 D y S0 M F [.ref m0, .int (nI t)] (fun v M' => v = some (.int (fR (sH S t))) ∧ M' = M) := by
  refine ct_of cX4_lacks 2 (some .int) [(0, .ref m0), (1, .int (nI t))] (by decide +kernel) rfl (Nat.le_of_ble_eq_true rfl) rfl ?_
  intro p e s m below meth c ls C hnm hl w
  have hx := C.1
  have hb := C.2.1
  have hi_X4 : ∀ w ∈ u_ws RX4 TX4 16, w ∈ wsX4_lacks := by decide +kernel
  have hk13 := (hI.2.2.2.2.2.2.1 t ht).1
  refine lv_aload_n hx hb dX4_lacks_0 rfl (lv_at hl 0 rfl) ?_
  refine m_get C w hW.1 (index := 7) (T := TX4) (N := 16) rfl hi_X4 0 (by decide) (by decide +kernel) rfl dX4_lacks_1 ?_
  refine lv_iload_n hx hb dX4_lacks_4 rfl (lv_at hl 1 rfl) ?_
  refine m_iald C w hW.a0 t rfl (by omega) (by omega) dX4_lacks_5 ?_
  refine lv_if_ne (tgt := 13) hx hb dX4_lacks_6 (by decide) (fun c_6 => ?_) (fun c_6 => ?_)
  · skip
    have n_6 : ¬ (sH S t) = 0 := fun h => absurd ((nI_eq (by omega) (by omega)).mpr h) c_6
    refine lv_aload_n hx hb dX4_lacks_13 rfl (lv_at hl 0 rfl) ?_
    refine m_get C w hW.1 (index := 7) (T := TX4) (N := 16) rfl hi_X4 0 (by decide) (by decide +kernel) rfl dX4_lacks_14 ?_
    refine lv_iload_n hx hb dX4_lacks_17 rfl (lv_at hl 1 rfl) ?_
    refine m_iald C w hW.a0 t rfl (by omega) (by omega) dX4_lacks_18 ?_
    refine lv_iconst (v := 1) hx hb dX4_lacks_19 (by decide) ?_
    refine lv_icmp_ne (tgt := 28) hx hb dX4_lacks_20 (by decide) (fun c_20 => ?_) (fun c_20 => ?_)
    · skip
      have n_20 : ¬ (sH S t) = 1 := fun h => absurd ((nI_eq (by omega) (by omega)).mpr h) c_20
      refine lv_iconst (v := 0) hx hb dX4_lacks_28 (by decide) ?_
      exact m_iret C w dX4_lacks_29 (by omega) (by omega) (⟨by unfold fR; simp_all, rfl⟩)
    · skip
      have n_20 : (sH S t) = 1 := (nI_eq (by omega) (by omega)).mp (by first | exact c_20 | exact Classical.not_not.mp c_20)
      refine lv_bipush (v := (-2)) hx hb dX4_lacks_23 (by decide) ?_
      refine lv_goto (tgt := 29) hx hb dX4_lacks_25 (by decide) ?_
      exact m_iret C w dX4_lacks_29 (by omega) (by omega) (⟨by unfold fR; simp_all, rfl⟩)
  · skip
    have n_6 : (sH S t) = 0 := (nI_eq (by omega) (by omega)).mp (by first | exact c_6 | exact Classical.not_not.mp c_6)
    refine lv_iconst (v := (-1)) hx hb dX4_lacks_9 (by decide) ?_
    refine lv_goto (tgt := 29) hx hb dX4_lacks_10 (by decide) ?_
    exact m_iret C w dX4_lacks_29 (by omega) (by omega) (⟨by unfold fR; simp_all, rfl⟩)
theorem rowI {c : Nat} {S : St} (hI : Inv c S) {t : Nat} (ht : t < 12) (h2 : 2 ≤ sH S t) : sO S t = nI (rowT S t) ∧ rowT S t < sN S ∧ sK S (rowT S t) = sH S t ∧ rowT S t < 512 ∧ zT S t = sZ S (rowT S t) := by
  obtain ⟨r, hr, e, e2⟩ := (hI.2.2.2.2.2.2.1 t ht).2 h2
  have hb1 := hI.1
  have hb2 := hI.2.2.1
  have er : rowT S t = r := by
    unfold rowT
    rw [e]
    exact cN_nI (by omega)
  rw [er]
  refine ⟨e, hr, e2, by omega, ?_⟩
  unfold zT
  rw [if_pos h2, er]
set_option maxRecDepth 100000 in
set_option maxHeartbeats 4000000 in
theorem r_sizeOf (l : Launch) (D : va_G) (y : mY) (S0 : Nat) (M F : mp) (m0 : Nat) (B : Nat → Nat) (fr : Nat → Nat) (nc : Nat) (cl go bf : Nat → Int64) (cn : Nat → Int32) (S : St) (hW : MW y m0 B fr nc cl go bf cn S M) (hQ : MR fr nc cl bf cn S) (c0 : Nat) (hI : Inv c0 S) (t : Nat) (ht : t < 12) : ct l yX4_sizeOf wsX4_sizeOf 1 21 0 0 D y S0 M F [.ref m0, .int (nI t)] (fun v M' => v = some (.int (nI (zT S t))) ∧ M' = M) := by
  refine ct_of cX4_sizeOf 2 (some .int) [(0, .ref m0), (1, .int (nI t))] (by decide +kernel) rfl (Nat.le_of_ble_eq_true rfl) rfl ?_
  intro p e s m below meth c ls C hnm hl w
  have hx := C.1
  have hb := C.2.1
  have hi_X4 : ∀ w ∈ u_ws RX4 TX4 16, w ∈ wsX4_sizeOf := by decide +kernel
  have hk13 := (hI.2.2.2.2.2.2.1 t ht).1
  refine lv_aload_n hx hb dX4_sizeOf_0 rfl (lv_at hl 0 rfl) ?_
  refine lv_iload_n hx hb dX4_sizeOf_1 rfl (lv_at hl 1 rfl) ?_
  refine m_callV C w hl.1 (As := [.int (nI t)]) (rest := []) (r_isRow l D y S0 M F m0 B fr nc cl go bf cn S hW hQ c0 hI t ht) gX4_sizeOf_X4_isRow rfl hW.1 (T := TX4) (N := 16) rfl (show (_ = _ ∧ _ ≠ _ ∧ _ ≠ _ ∧ _ = some 1) by decide +kernel) ⟨Nat.le_of_ble_eq_true rfl, Nat.le_of_ble_eq_true rfl⟩ rfl (Nat.le_of_ble_eq_true rfl) dX4_sizeOf_2 ⟨Nat.le_of_ble_eq_true rfl, Nat.le_of_ble_eq_true rfl⟩ (fun v M1 H locs hq w => ?_)
  obtain ⟨rfl, hM1⟩ := hq
  rw [hM1] at w
  clear hM1 M1
  refine W.eq (g2 := F0 m 5 ls [.int (bI (decide (2 ≤ sH S t)))]) rfl ?_
  refine lv_if_eq (tgt := 22) hx hb dX4_sizeOf_5 (by decide) (fun c_5 => ?_) (fun c_5 => ?_)
  · skip
    have n_5 : (decide (2 ≤ sH S t)) = false := bI_f c_5
    refine lv_iconst (v := 0) hx hb dX4_sizeOf_22 (by decide) ?_
    exact m_iret C w dX4_sizeOf_23 (by omega) (by omega) (⟨by unfold zT; rw [if_neg (of_decide_eq_false n_5)]; rfl, rfl⟩)
  · skip
    have n_5 : (decide (2 ≤ sH S t)) = true := bI_t c_5
    have h2 : 2 ≤ sH S t := of_decide_eq_true n_5
    obtain ⟨eo, hr, -, hr5, hzT⟩ := rowI hI ht h2
    refine lv_aload_n hx hb dX4_sizeOf_8 rfl (lv_at hl 0 rfl) ?_
    refine m_get C w hW.1 (index := 22) (T := TX4) (N := 16) rfl hi_X4 4 (by decide) (by decide +kernel) rfl dX4_sizeOf_9 ?_
    refine lv_aload_n hx hb dX4_sizeOf_12 rfl (lv_at hl 0 rfl) ?_
    refine m_get C w hW.1 (index := 13) (T := TX4) (N := 16) rfl hi_X4 1 (by decide) (by decide +kernel) rfl dX4_sizeOf_13 ?_
    refine lv_iload_n hx hb dX4_sizeOf_16 rfl (lv_at hl 1 rfl) ?_
    refine m_iald C w hW.a1 t rfl (by omega) (by omega) dX4_sizeOf_17 ?_
    refine m_topi (y := nI (rowT S t)) eo ?_
    refine m_iald C w hW.a4 (rowT S t) rfl (by omega) (by omega) dX4_sizeOf_18 ?_
    refine lv_goto (tgt := 23) hx hb dX4_sizeOf_19 (by decide) ?_
    exact m_iret C w dX4_sizeOf_23 (by omega) (by omega) (⟨by rw [hzT], rfl⟩)
set_option maxRecDepth 100000 in
set_option maxHeartbeats 4000000 in
theorem r_get (l : Launch) (D : va_G) (y : mY) (S0 : Nat) (M F : mp) (m0 : Nat) (B : Nat → Nat) (fr : Nat → Nat) (nc : Nat) (cl go bf : Nat → Int64) (cn : Nat → Int32) (S : St) (hW : MW y m0 B fr nc cl go bf cn S M) (hQ : MR fr nc cl bf cn S) (c0 : Nat) (hI : Inv c0 S) (t : Nat) (ht : t < 12) (h2 : 2 ≤ sH S t) (i : Nat) (hi : i < zT S t) : ct l yX4_get wsX4_get 0 0 0 0 D y S0 M F [.ref m0, .int (nI t), .int (nI i)] (fun v M' => v = some (.long (sC S (rowT S t) i)) ∧ M' = M) := by
  refine ct_of cX4_get 3 (some .long) [(0, .ref m0), (1, .int (nI t)), (2, .int (nI i))] (by decide +kernel) rfl (Nat.le_of_ble_eq_true rfl) rfl ?_
  intro p e s m below meth c ls C hnm hl w
  have hx := C.1
  have hb := C.2.1
  have hi_X4 : ∀ w ∈ u_ws RX4 TX4 16, w ∈ wsX4_get := by decide +kernel
  obtain ⟨eo, hr, -, hr5, hzT⟩ := rowI hI ht h2
  have hz := zT_le hI ht
  have hq1 := hQ.1 (rowT S t) hr
  have hq2 := hQ.2.2.1
  have hb1 := hI.1
  have hb2 := hI.2.2.1
  refine lv_aload_n hx hb dX4_get_0 rfl (lv_at hl 0 rfl) ?_
  refine m_get C w hW.1 (index := 26) (T := TX4) (N := 16) rfl hi_X4 5 (by decide) (by decide +kernel) rfl dX4_get_1 ?_
  refine lv_aload_n hx hb dX4_get_4 rfl (lv_at hl 0 rfl) ?_
  refine m_get C w hW.1 (index := 19) (T := TX4) (N := 16) rfl hi_X4 3 (by decide) (by decide +kernel) rfl dX4_get_5 ?_
  refine lv_aload_n hx hb dX4_get_8 rfl (lv_at hl 0 rfl) ?_
  refine m_get C w hW.1 (index := 13) (T := TX4) (N := 16) rfl hi_X4 1 (by decide) (by decide +kernel) rfl dX4_get_9 ?_
  refine lv_iload_n hx hb dX4_get_12 rfl (lv_at hl 1 rfl) ?_
  refine m_iald C w hW.a1 t rfl (by omega) (by omega) dX4_get_13 ?_
  refine m_topi (y := nI (rowT S t)) eo ?_
  refine m_iald C w hW.a3 (rowT S t) rfl (by omega) (by omega) dX4_get_14 ?_
  refine lv_iload_n hx hb dX4_get_15 rfl (lv_at hl 2 rfl) ?_
  refine lv_iadd hx hb dX4_get_16 ?_
  refine m_topi (y := nI ((fr (rowT S t)) + i)) (by first | exact nI_add _ _ | exact nI_1 _) ?_
  refine m_lald C w hW.a5 ((fr (rowT S t)) + i) rfl (by omega) (by omega) dX4_get_17 ?_
  exact m_lret C w dX4_get_18 (by omega) (by omega) (⟨by rw [hQ.2.2.2.2.1 _ i hr (by omega)], rfl⟩)
theorem MR.set {fr : Nat → Nat} {nc : Nat} {cl bf : Nat → Int64} {cn : Nat → Int32} {S : St} (h : MR fr nc cl bf cn S) {r i : Nat} (hr : r < sN S) (hi : i < sZ S r) (x : Int64) : MR fr nc (va_up cl (fr r + i) x) bf cn (pRC S r i x) := by
  obtain ⟨h1, h2, h3, h4, h5, h6, h7⟩ := h
  refine ⟨h1, h2, h3, fun z hz => ?_, fun q j hq hj => ?_, h6, h7⟩
  · have := h1 r hr
    rw [va_upo (by omega)]
    exact h4 z hz
  · have hj : j < sZ S q := hj
    have hq : q < sN S := hq
    show va_up cl (fr r + i) x (fr q + j) = va_up (sC S) r (va_up (sC S r) i x) q j
    by_cases e : q = r
    · by_cases e2 : j = i
      · rw [e, e2, va_ups, va_ups, va_ups]
      · rw [e, va_ups, va_upo e2, va_upo (by omega)]
        rw [e] at hj
        exact h5 r j hr hj
    · rw [va_upo (f := sC S) e, va_upo ?_]
      · exact h5 q j hq hj
      · rcases Nat.lt_or_gt_of_ne e with g | g
        · have := h2 q r g hr; omega
        · have := h2 r q g hq; omega
set_option maxRecDepth 100000 in
set_option maxHeartbeats 4000000 in
theorem r_set (l : Launch) (D : va_G) (y : mY) (S0 : Nat) (M F : mp) (m0 : Nat) (B : Nat → Nat) (fr : Nat → Nat) (nc : Nat) (cl go bf : Nat → Int64) (cn : Nat → Int32) (S : St) (hW : MW y m0 B fr nc cl go bf cn S M) (hQ : MR fr nc cl bf cn S) (c0 : Nat) (hI : Inv c0 S) (t : Nat) (ht : t < 12) (h2 : 2 ≤ sH S t) (i : Nat) (hi : i < zT S t) (x : Int64) : ct l yX4_set wsX4_set 0 0 0 0 D y S0 M F [.ref m0, .int (nI t), .int (nI i), .long x] (fun v M' => v = none ∧ MW y m0 B fr nc (va_up cl (fr (rowT S t) + i) x) go bf cn (pRC S (rowT S t) i x) M' ∧ MR fr nc (va_up cl (fr (rowT S t) + i) x) bf cn (pRC S (rowT S t) i x)) := by
  refine ct_of cX4_set 5 none [(0, .ref m0), (1, .int (nI t)), (2, .int (nI i)), (3, .long x)] (by decide +kernel) rfl (Nat.le_of_ble_eq_true rfl) rfl ?_
  intro p e s m below meth c ls C hnm hl w
  have hx := C.1
  have hb := C.2.1
  have hi_X4 : ∀ w ∈ u_ws RX4 TX4 16, w ∈ wsX4_set := by decide +kernel
  obtain ⟨eo, hr, -, hr5, hzT⟩ := rowI hI ht h2
  have hz := zT_le hI ht
  have hq1 := hQ.1 (rowT S t) hr
  have hq2 := hQ.2.2.1
  have hb1 := hI.1
  have hb2 := hI.2.2.1
  refine lv_aload_n hx hb dX4_set_0 rfl (lv_at hl 0 rfl) ?_
  refine m_get C w hW.1 (index := 26) (T := TX4) (N := 16) rfl hi_X4 5 (by decide) (by decide +kernel) rfl dX4_set_1 ?_
  refine lv_aload_n hx hb dX4_set_4 rfl (lv_at hl 0 rfl) ?_
  refine m_get C w hW.1 (index := 19) (T := TX4) (N := 16) rfl hi_X4 3 (by decide) (by decide +kernel) rfl dX4_set_5 ?_
  refine lv_aload_n hx hb dX4_set_8 rfl (lv_at hl 0 rfl) ?_
  refine m_get C w hW.1 (index := 13) (T := TX4) (N := 16) rfl hi_X4 1 (by decide) (by decide +kernel) rfl dX4_set_9 ?_
  refine lv_iload_n hx hb dX4_set_12 rfl (lv_at hl 1 rfl) ?_
  refine m_iald C w hW.a1 t rfl (by omega) (by omega) dX4_set_13 ?_
  refine m_topi (y := nI (rowT S t)) eo ?_
  refine m_iald C w hW.a3 (rowT S t) rfl (by omega) (by omega) dX4_set_14 ?_
  refine lv_iload_n hx hb dX4_set_15 rfl (lv_at hl 2 rfl) ?_
  refine lv_iadd hx hb dX4_set_16 ?_
  refine m_topi (y := nI ((fr (rowT S t)) + i)) (by first | exact nI_add _ _ | exact nI_1 _) ?_
  refine lv_lload_n hx hb dX4_set_17 rfl (lv_at hl 3 rfl) ?_
  refine m_last C w hW.a5 (fr (rowT S t) + i) rfl (by omega) (by omega) dX4_set_18 (fun H locs w => ?_)
  exact m_vret C w dX4_set_19 (by omega) (by omega) (⟨rfl, hW.set 5 (by decide) rfl (by intro k hk hne; rcases (show k = 0 ∨ k = 1 ∨ k = 2 ∨ k = 3 ∨ k = 4 ∨ k = 5 ∨ k = 6 ∨ k = 7 ∨ k = 8 ∨ k = 9 ∨ k = 10 by omega) with rfl | rfl | rfl | rfl | rfl | rfl | rfl | rfl | rfl | rfl | rfl <;> first | rfl | exact absurd rfl hne) rfl, hQ.set hr (by omega) x⟩)
set_option maxRecDepth 100000 in
set_option maxHeartbeats 4000000 in
theorem r_goes (l : Launch) (D : va_G) (y : mY) (S0 : Nat) (M F : mp) (m0 : Nat) (B : Nat → Nat) (fr : Nat → Nat) (nc : Nat) (cl go bf : Nat → Int64) (cn : Nat → Int32) (S : St) (hW : MW y m0 B fr nc cl go bf cn S M) (hQ : MR fr nc cl bf cn S) (c0 : Nat) (hI : Inv c0 S) (k : Nat) (hk : k < 2 ^ 31) (x : Int64) (hx9 : isN k = true ∨ x = 0 ∨ k = 13 ∨ x < 0 ∨ ∃ pz, 1 ≤ pz ∧ pz ≤ sP S ∧ x = lN pz) : ct l yX4_goes wsX4_goes 2 42 0 0 D y S0 M F [.ref m0, .int (nI k), .long x] (fun v M' => v = some (.int (bI (gs S k x))) ∧ M' = M) := by
  refine ct_of cX4_goes 5 (some .boolean) [(0, .ref m0), (1, .int (nI k)), (2, .long x)] (by decide +kernel) rfl (Nat.le_of_ble_eq_true rfl) rfl ?_
  intro p e s m below meth c ls C hnm hl w
  have hx := C.1
  have hb := C.2.1
  have hi_X4 : ∀ w ∈ u_ws RX4 TX4 16, w ∈ wsX4_goes := by decide +kernel
  have hs9 : ∀ p, 1 ≤ p → p ≤ sP S → sS S p ≤ 4 := fun p a b => (hI.2.2.2.2.1 p a b).2
  refine lv_iload_n hx hb dX4_goes_0 rfl (lv_at hl 1 rfl) ?_
  refine m_callS C w hl.1 (As := [.int (nI k)]) (rest := []) (r_isN l D y S0 M F k hk) ggX4_goes_X4_isNumbers rfl (by decide +kernel) (by decide +kernel) (by decide +kernel) (show (_ ≠ _ ∧ _ ≠ _ ∧ _ = some 1) by decide +kernel) ⟨Nat.le_of_ble_eq_true rfl, Nat.le_of_ble_eq_true rfl⟩ rfl (Nat.le_of_ble_eq_true rfl) dX4_goes_1 ⟨Nat.le_of_ble_eq_true rfl, Nat.le_of_ble_eq_true rfl⟩ (fun v M1 H locs hq w => ?_)
  obtain ⟨rfl, hM1⟩ := hq
  rw [hM1] at w
  clear hM1 M1
  refine W.eq (g2 := F0 m 4 ls [.int (bI (isN k))]) rfl ?_
  refine lv_if_ne (tgt := 13) hx hb dX4_goes_4 (by decide) (fun c_4 => ?_) (fun c_4 => ?_)
  · skip
    have n_4 : (isN k) = true := bI_t c_4
    refine lv_iconst (v := 1) hx hb dX4_goes_13 (by decide) ?_
    exact m_zret C w dX4_goes_14 (by omega) (by omega) (by first | exact Or.inl rfl | exact Or.inr rfl | exact bI_or _) (⟨by unfold gs; simp_all [bI], rfl⟩)
  · skip
    have n_4 : (isN k) = false := bI_f c_4
    refine lv_lload_n hx hb dX4_goes_7 rfl (lv_at hl 2 rfl) ?_
    refine lv_lconst (v := 0) hx hb dX4_goes_8 (by decide) ?_
    refine W.lcmp hx hb dX4_goes_9 ?_
    refine lv_if_ne (tgt := 15) hx hb dX4_goes_10 (by decide) (fun c_10 => ?_) (fun c_10 => ?_)
    · skip
      have n_10 := (not_congr (lg_cmp_eq _ _)).mp c_10
      refine lv_iload_n hx hb dX4_goes_15 rfl (lv_at hl 1 rfl) ?_
      refine lv_bipush (v := 13) hx hb dX4_goes_16 (by decide) ?_
      refine lv_icmp_eq (tgt := 27) hx hb dX4_goes_18 (by decide) (fun c_18 => ?_) (fun c_18 => ?_)
      · skip
        have n_18 : k = 13 := (nI_eq (by omega) (by omega)).mp (by first | exact c_18 | exact Classical.not_not.mp c_18)
        refine lv_iload_n hx hb dX4_goes_27 rfl (lv_at hl 1 rfl) ?_
        refine lv_bipush (v := 13) hx hb dX4_goes_28 (by decide) ?_
        refine lv_icmp_ne (tgt := 43) hx hb dX4_goes_30 (by decide) (fun c_30 => ?_) (fun c_30 => ?_)
        · skip
          have n_30 : ¬ k = 13 := fun h => absurd ((nI_eq (by omega) (by omega)).mpr h) c_30
          refine lv_iconst (v := 0) hx hb dX4_goes_43 (by decide) ?_
          exact m_zret C w dX4_goes_44 (by omega) (by omega) (by first | exact Or.inl rfl | exact Or.inr rfl | exact bI_or _) (⟨by
            unfold gs
            rw [n_4, if_pos (Or.inl n_18)]
            simp_all [bI], rfl⟩)
        · skip
          have n_30 : k = 13 := (nI_eq (by omega) (by omega)).mp (by first | exact c_30 | exact Classical.not_not.mp c_30)
          refine lv_lload_n hx hb dX4_goes_33 rfl (lv_at hl 2 rfl) ?_
          refine lv_lconst (v := 0) hx hb dX4_goes_34 (by decide) ?_
          refine W.lcmp hx hb dX4_goes_35 ?_
          refine lv_if_ge (tgt := 43) hx hb dX4_goes_36 (by decide) (fun c_36 => ?_) (fun c_36 => ?_)
          · skip
            have n_36 := (lg_cmp_ge _ _).mp c_36
            refine lv_iconst (v := 0) hx hb dX4_goes_43 (by decide) ?_
            exact m_zret C w dX4_goes_44 (by omega) (by omega) (by first | exact Or.inl rfl | exact Or.inr rfl | exact bI_or _) (⟨by
              unfold gs
              rw [n_4, if_pos (Or.inl n_18)]
              simp_all [bI], rfl⟩)
          · skip
            have n_36 := (not_congr (lg_cmp_ge _ _)).mp c_36
            refine lv_iconst (v := 1) hx hb dX4_goes_39 (by decide) ?_
            refine lv_goto (tgt := 44) hx hb dX4_goes_40 (by decide) ?_
            exact m_zret C w dX4_goes_44 (by omega) (by omega) (by first | exact Or.inl rfl | exact Or.inr rfl | exact bI_or _) (⟨by
              unfold gs
              rw [n_4, if_pos (Or.inl n_18)]
              simp_all [bI], rfl⟩)
      · skip
        have n_18 : ¬ k = 13 := fun h => absurd ((nI_eq (by omega) (by omega)).mpr h) c_18
        refine lv_lload_n hx hb dX4_goes_21 rfl (lv_at hl 2 rfl) ?_
        refine lv_lconst (v := 0) hx hb dX4_goes_22 (by decide) ?_
        refine W.lcmp hx hb dX4_goes_23 ?_
        refine lv_if_ge (tgt := 45) hx hb dX4_goes_24 (by decide) (fun c_24 => ?_) (fun c_24 => ?_)
        · skip
          have n_24 := (lg_cmp_ge _ _).mp c_24
          have hn45 : isN k = false := n_4
          obtain ⟨pz, hpa, hpb, ex⟩ : ∃ pz, 1 ≤ pz ∧ pz ≤ sP S ∧ x = lN pz := by
            rcases hx9 with q | q | q | q | q
            · rw [q] at n_4; cases n_4
            · exact absurd q n_10
            · exact absurd q n_18
            · exact absurd q (Int64.not_lt.mpr n_24)
            · exact q
          have hs4 := hs9 pz hpa hpb
          have hb1 := hI.2.1
          have hb2 := hI.2.2.1
          refine lv_aload_n hx hb dX4_goes_45 rfl (lv_at hl 0 rfl) ?_
          refine m_get C w hW.1 (index := 30) (T := TX4) (N := 16) rfl hi_X4 8 (by decide) (by decide +kernel) rfl dX4_goes_46 ?_
          refine lv_lload_n hx hb dX4_goes_49 rfl (lv_at hl 2 rfl) ?_
          refine lv_l2i (v := nI pz) hx hb dX4_goes_50 (by rw [ex]; exact lN_i pz) ?_
          refine m_iald C w hW.a6 pz rfl (by omega) (by omega) dX4_goes_51 ?_
          refine lv_istore (lv' := [(4, .int (nI (sS S pz))), (0, .ref m0), (1, .int (nI k)), (2, .long x)]) hx hb dX4_goes_52 hl (by decide) rfl (fun ls hl => ?_)
          refine lv_iload_n hx hb dX4_goes_54 rfl (lv_at hl 2 rfl) ?_
          refine lv_bipush (v := 10) hx hb dX4_goes_55 (by decide) ?_
          refine lv_icmp_eq (tgt := 84) hx hb dX4_goes_57 (by decide) (fun c_57 => ?_) (fun c_57 => ?_)
          · skip
            have n_57 : k = 10 := (nI_eq (by omega) (by omega)).mp (by first | exact c_57 | exact Classical.not_not.mp c_57)
            refine lv_iconst (v := 1) hx hb dX4_goes_84 (by decide) ?_
            refine lv_goto (tgt := 89) hx hb dX4_goes_85 (by decide) ?_
            exact m_zret C w dX4_goes_89 (by omega) (by omega) (by first | exact Or.inl rfl | exact Or.inr rfl | exact bI_or _) (⟨by
              have hsp : pN x = pz := by rw [ex]; exact lN_pN (by omega)
              have hxn : ¬ x < 0 := Int64.not_lt.mpr n_24
              unfold gs
              rw [hn45, hsp, if_neg (by rw [not_or]; exact ⟨n_18, hxn⟩)]
              simp_all [bI], rfl⟩)
          · skip
            have n_57 : ¬ k = 10 := fun h => absurd ((nI_eq (by omega) (by omega)).mpr h) c_57
            refine lv_iload_n hx hb dX4_goes_60 rfl (lv_at hl 2 rfl) ?_
            refine lv_bipush (v := 11) hx hb dX4_goes_61 (by decide) ?_
            refine lv_icmp_ne (tgt := 72) hx hb dX4_goes_63 (by decide) (fun c_63 => ?_) (fun c_63 => ?_)
            · skip
              have n_63 : ¬ k = 11 := fun h => absurd ((nI_eq (by omega) (by omega)).mpr h) c_63
              refine lv_iload_n hx hb dX4_goes_72 rfl (lv_at hl 2 rfl) ?_
              refine lv_bipush (v := 12) hx hb dX4_goes_73 (by decide) ?_
              refine lv_icmp_ne (tgt := 88) hx hb dX4_goes_75 (by decide) (fun c_75 => ?_) (fun c_75 => ?_)
              · skip
                have n_75 : ¬ k = 12 := fun h => absurd ((nI_eq (by omega) (by omega)).mpr h) c_75
                refine lv_iconst (v := 0) hx hb dX4_goes_88 (by decide) ?_
                exact m_zret C w dX4_goes_89 (by omega) (by omega) (by first | exact Or.inl rfl | exact Or.inr rfl | exact bI_or _) (⟨by
                  have hsp : pN x = pz := by rw [ex]; exact lN_pN (by omega)
                  have hxn : ¬ x < 0 := Int64.not_lt.mpr n_24
                  unfold gs
                  rw [hn45, hsp, if_neg (by rw [not_or]; exact ⟨n_18, hxn⟩)]
                  simp_all [bI], rfl⟩)
              · skip
                have n_75 : k = 12 := (nI_eq (by omega) (by omega)).mp (by first | exact c_75 | exact Classical.not_not.mp c_75)
                refine lv_iload hx hb dX4_goes_78 (lv_at hl 0 rfl) ?_
                refine lv_iconst (v := 3) hx hb dX4_goes_80 (by decide) ?_
                refine lv_icmp_lt (tgt := 88) hx hb dX4_goes_81 (by decide) (fun c_81 => ?_) (fun c_81 => ?_)
                · skip
                  have n_81 : (sS S pz) < 3 := (nI_ltI (by omega) (by omega)).mp c_81
                  refine lv_iconst (v := 0) hx hb dX4_goes_88 (by decide) ?_
                  exact m_zret C w dX4_goes_89 (by omega) (by omega) (by first | exact Or.inl rfl | exact Or.inr rfl | exact bI_or _) (⟨by
                    have hsp : pN x = pz := by rw [ex]; exact lN_pN (by omega)
                    have hxn : ¬ x < 0 := Int64.not_lt.mpr n_24
                    unfold gs
                    rw [hn45, hsp, if_neg (by rw [not_or]; exact ⟨n_18, hxn⟩)]
                    simp_all [bI], rfl⟩)
                · skip
                  have n_81 : ¬ (sS S pz) < 3 := fun h => absurd ((nI_ltI (by omega) (by omega)).mpr h) c_81
                  refine lv_iconst (v := 1) hx hb dX4_goes_84 (by decide) ?_
                  refine lv_goto (tgt := 89) hx hb dX4_goes_85 (by decide) ?_
                  exact m_zret C w dX4_goes_89 (by omega) (by omega) (by first | exact Or.inl rfl | exact Or.inr rfl | exact bI_or _) (⟨by
                    have hsp : pN x = pz := by rw [ex]; exact lN_pN (by omega)
                    have hxn : ¬ x < 0 := Int64.not_lt.mpr n_24
                    unfold gs
                    rw [hn45, hsp, if_neg (by rw [not_or]; exact ⟨n_18, hxn⟩)]
                    simp_all [bI], rfl⟩)
            · skip
              have n_63 : k = 11 := (nI_eq (by omega) (by omega)).mp (by first | exact c_63 | exact Classical.not_not.mp c_63)
              refine lv_iload hx hb dX4_goes_66 (lv_at hl 0 rfl) ?_
              refine lv_iconst (v := 2) hx hb dX4_goes_68 (by decide) ?_
              refine lv_icmp_eq (tgt := 84) hx hb dX4_goes_69 (by decide) (fun c_69 => ?_) (fun c_69 => ?_)
              · skip
                have n_69 : (sS S pz) = 2 := (nI_eq (by omega) (by omega)).mp (by first | exact c_69 | exact Classical.not_not.mp c_69)
                refine lv_iconst (v := 1) hx hb dX4_goes_84 (by decide) ?_
                refine lv_goto (tgt := 89) hx hb dX4_goes_85 (by decide) ?_
                exact m_zret C w dX4_goes_89 (by omega) (by omega) (by first | exact Or.inl rfl | exact Or.inr rfl | exact bI_or _) (⟨by
                  have hsp : pN x = pz := by rw [ex]; exact lN_pN (by omega)
                  have hxn : ¬ x < 0 := Int64.not_lt.mpr n_24
                  unfold gs
                  rw [hn45, hsp, if_neg (by rw [not_or]; exact ⟨n_18, hxn⟩)]
                  simp_all [bI], rfl⟩)
              · skip
                have n_69 : ¬ (sS S pz) = 2 := fun h => absurd ((nI_eq (by omega) (by omega)).mpr h) c_69
                refine lv_iload_n hx hb dX4_goes_72 rfl (lv_at hl 2 rfl) ?_
                refine lv_bipush (v := 12) hx hb dX4_goes_73 (by decide) ?_
                refine lv_icmp_ne (tgt := 88) hx hb dX4_goes_75 (by decide) (fun c_75 => ?_) (fun c_75 => ?_)
                · skip
                  have n_75 : ¬ k = 12 := fun h => absurd ((nI_eq (by omega) (by omega)).mpr h) c_75
                  refine lv_iconst (v := 0) hx hb dX4_goes_88 (by decide) ?_
                  exact m_zret C w dX4_goes_89 (by omega) (by omega) (by first | exact Or.inl rfl | exact Or.inr rfl | exact bI_or _) (⟨by
                    have hsp : pN x = pz := by rw [ex]; exact lN_pN (by omega)
                    have hxn : ¬ x < 0 := Int64.not_lt.mpr n_24
                    unfold gs
                    rw [hn45, hsp, if_neg (by rw [not_or]; exact ⟨n_18, hxn⟩)]
                    simp_all [bI], rfl⟩)
                · skip
                  have n_75 : k = 12 := (nI_eq (by omega) (by omega)).mp (by first | exact c_75 | exact Classical.not_not.mp c_75)
                  refine lv_iload hx hb dX4_goes_78 (lv_at hl 0 rfl) ?_
                  refine lv_iconst (v := 3) hx hb dX4_goes_80 (by decide) ?_
                  refine lv_icmp_lt (tgt := 88) hx hb dX4_goes_81 (by decide) (fun c_81 => ?_) (fun c_81 => ?_)
                  · skip
                    have n_81 : (sS S pz) < 3 := (nI_ltI (by omega) (by omega)).mp c_81
                    refine lv_iconst (v := 0) hx hb dX4_goes_88 (by decide) ?_
                    exact m_zret C w dX4_goes_89 (by omega) (by omega) (by first | exact Or.inl rfl | exact Or.inr rfl | exact bI_or _) (⟨by
                      have hsp : pN x = pz := by rw [ex]; exact lN_pN (by omega)
                      have hxn : ¬ x < 0 := Int64.not_lt.mpr n_24
                      unfold gs
                      rw [hn45, hsp, if_neg (by rw [not_or]; exact ⟨n_18, hxn⟩)]
                      simp_all [bI], rfl⟩)
                  · skip
                    have n_81 : ¬ (sS S pz) < 3 := fun h => absurd ((nI_ltI (by omega) (by omega)).mpr h) c_81
                    refine lv_iconst (v := 1) hx hb dX4_goes_84 (by decide) ?_
                    refine lv_goto (tgt := 89) hx hb dX4_goes_85 (by decide) ?_
                    exact m_zret C w dX4_goes_89 (by omega) (by omega) (by first | exact Or.inl rfl | exact Or.inr rfl | exact bI_or _) (⟨by
                      have hsp : pN x = pz := by rw [ex]; exact lN_pN (by omega)
                      have hxn : ¬ x < 0 := Int64.not_lt.mpr n_24
                      unfold gs
                      rw [hn45, hsp, if_neg (by rw [not_or]; exact ⟨n_18, hxn⟩)]
                      simp_all [bI], rfl⟩)
        · skip
          have n_24 := (not_congr (lg_cmp_ge _ _)).mp c_24
          refine lv_iload_n hx hb dX4_goes_27 rfl (lv_at hl 1 rfl) ?_
          refine lv_bipush (v := 13) hx hb dX4_goes_28 (by decide) ?_
          refine lv_icmp_ne (tgt := 43) hx hb dX4_goes_30 (by decide) (fun c_30 => ?_) (fun c_30 => ?_)
          · skip
            have n_30 : ¬ k = 13 := fun h => absurd ((nI_eq (by omega) (by omega)).mpr h) c_30
            refine lv_iconst (v := 0) hx hb dX4_goes_43 (by decide) ?_
            exact m_zret C w dX4_goes_44 (by omega) (by omega) (by first | exact Or.inl rfl | exact Or.inr rfl | exact bI_or _) (⟨by
              unfold gs
              rw [n_4, if_pos (Or.inr (Int64.not_le.mp n_24))]
              simp_all [bI], rfl⟩)
          · skip
            have n_30 : k = 13 := (nI_eq (by omega) (by omega)).mp (by first | exact c_30 | exact Classical.not_not.mp c_30)
            refine lv_lload_n hx hb dX4_goes_33 rfl (lv_at hl 2 rfl) ?_
            refine lv_lconst (v := 0) hx hb dX4_goes_34 (by decide) ?_
            refine W.lcmp hx hb dX4_goes_35 ?_
            refine lv_if_ge (tgt := 43) hx hb dX4_goes_36 (by decide) (fun c_36 => ?_) (fun c_36 => ?_)
            · skip
              have n_36 := (lg_cmp_ge _ _).mp c_36
              refine lv_iconst (v := 0) hx hb dX4_goes_43 (by decide) ?_
              exact m_zret C w dX4_goes_44 (by omega) (by omega) (by first | exact Or.inl rfl | exact Or.inr rfl | exact bI_or _) (⟨by
                unfold gs
                rw [n_4, if_pos (Or.inr (Int64.not_le.mp n_24))]
                simp_all [bI], rfl⟩)
            · skip
              have n_36 := (not_congr (lg_cmp_ge _ _)).mp c_36
              refine lv_iconst (v := 1) hx hb dX4_goes_39 (by decide) ?_
              refine lv_goto (tgt := 44) hx hb dX4_goes_40 (by decide) ?_
              exact m_zret C w dX4_goes_44 (by omega) (by omega) (by first | exact Or.inl rfl | exact Or.inr rfl | exact bI_or _) (⟨by
                unfold gs
                rw [n_4, if_pos (Or.inr (Int64.not_le.mp n_24))]
                simp_all [bI], rfl⟩)
    · skip
      have n_10 := (lg_cmp_eq _ _).mp c_10
      refine lv_iconst (v := 1) hx hb dX4_goes_13 (by decide) ?_
      exact m_zret C w dX4_goes_14 (by omega) (by omega) (by first | exact Or.inl rfl | exact Or.inr rfl | exact bI_or _) (⟨by unfold gs; simp_all [bI], rfl⟩)
end
