section
-- ===== PART A: goes FIRST, ahead of the names: the tables' words, and 'selects' of the private methods out of them =====
/-- a private method of a class that the tables say can be made, by its rows of tables_1 -/
def lw_okq (q : MethodName × Nat) : Prop := (q.1.cls ≠ "java/lang/invoke/MethodHandle" ∧ q.1.cls ≠ "java/lang/invoke/VarHandle") ∧ Cond.instantiable q.1.cls q.2 ∈ tables_1 ∧ Cond.privateMethod q.1 ∈ tables_1 ∧ Cond.instanceMethod q.1 ∈ tables_1
theorem lw_p0 : lw_okq (⟨"PrinterRows", "wayTo", "(I)I"⟩, 16) := ⟨⟨by decide +kernel, by decide +kernel⟩, List.mem_of_getElem? (i := 13) (by decide +kernel), List.mem_of_getElem? (i := 106) (by decide +kernel), List.mem_of_getElem? (i := 107) (by decide +kernel)⟩
theorem lw_p1 : lw_okq (⟨"PrinterRows", "canPrintHere", "()Z"⟩, 16) := ⟨⟨by decide +kernel, by decide +kernel⟩, List.mem_of_getElem? (i := 13) (by decide +kernel), List.mem_of_getElem? (i := 119) (by decide +kernel), List.mem_of_getElem? (i := 120) (by decide +kernel)⟩
theorem lw_p2 : lw_okq (⟨"PrinterRows", "standPage", "()I"⟩, 16) := ⟨⟨by decide +kernel, by decide +kernel⟩, List.mem_of_getElem? (i := 13) (by decide +kernel), List.mem_of_getElem? (i := 123) (by decide +kernel), List.mem_of_getElem? (i := 124) (by decide +kernel)⟩
theorem lw_p3 : lw_okq (⟨"PrinterRows", "canMove", "(I)Z"⟩, 16) := ⟨⟨by decide +kernel, by decide +kernel⟩, List.mem_of_getElem? (i := 13) (by decide +kernel), List.mem_of_getElem? (i := 127) (by decide +kernel), List.mem_of_getElem? (i := 128) (by decide +kernel)⟩
theorem lw_p4 : lw_okq (⟨"PrinterRows", "pageAfter", "(I)I"⟩, 16) := ⟨⟨by decide +kernel, by decide +kernel⟩, List.mem_of_getElem? (i := 13) (by decide +kernel), List.mem_of_getElem? (i := 131) (by decide +kernel), List.mem_of_getElem? (i := 132) (by decide +kernel)⟩
theorem lw_p5 : lw_okq (⟨"PrinterRows", "printRecord", "()V"⟩, 16) := ⟨⟨by decide +kernel, by decide +kernel⟩, List.mem_of_getElem? (i := 13) (by decide +kernel), List.mem_of_getElem? (i := 135) (by decide +kernel), List.mem_of_getElem? (i := 136) (by decide +kernel)⟩
theorem lw_p6 : lw_okq (⟨"PrinterRows", "beginPage", "()V"⟩, 16) := ⟨⟨by decide +kernel, by decide +kernel⟩, List.mem_of_getElem? (i := 13) (by decide +kernel), List.mem_of_getElem? (i := 139) (by decide +kernel), List.mem_of_getElem? (i := 140) (by decide +kernel)⟩
theorem lw_p7 : lw_okq (⟨"PrinterRows", "addPage", "(LPrinterRows$Page;)V"⟩, 16) := ⟨⟨by decide +kernel, by decide +kernel⟩, List.mem_of_getElem? (i := 13) (by decide +kernel), List.mem_of_getElem? (i := 158) (by decide +kernel), List.mem_of_getElem? (i := 159) (by decide +kernel)⟩
theorem lw_p8 : lw_okq (⟨"PrinterRows", "begunPage", "(I)LPrinterRows$Page;"⟩, 16) := ⟨⟨by decide +kernel, by decide +kernel⟩, List.mem_of_getElem? (i := 13) (by decide +kernel), List.mem_of_getElem? (i := 162) (by decide +kernel), List.mem_of_getElem? (i := 163) (by decide +kernel)⟩
theorem lw_p9 : lw_okq (⟨"PrinterRows", "printSign", "(LPrinterRows$Page;II)V"⟩, 16) := ⟨⟨by decide +kernel, by decide +kernel⟩, List.mem_of_getElem? (i := 13) (by decide +kernel), List.mem_of_getElem? (i := 166) (by decide +kernel), List.mem_of_getElem? (i := 167) (by decide +kernel)⟩
theorem lw_p10 : lw_okq (⟨"PrinterRows", "moveBy", "(I)V"⟩, 16) := ⟨⟨by decide +kernel, by decide +kernel⟩, List.mem_of_getElem? (i := 13) (by decide +kernel), List.mem_of_getElem? (i := 195) (by decide +kernel), List.mem_of_getElem? (i := 196) (by decide +kernel)⟩
theorem lw_p11 : lw_okq (⟨"PrinterRows", "standOnNewPage", "()V"⟩, 16) := ⟨⟨by decide +kernel, by decide +kernel⟩, List.mem_of_getElem? (i := 13) (by decide +kernel), List.mem_of_getElem? (i := 199) (by decide +kernel), List.mem_of_getElem? (i := 200) (by decide +kernel)⟩
theorem lw_p12 : lw_okq (⟨"PrinterRows", "canPrintAfter", "(I)Z"⟩, 16) := ⟨⟨by decide +kernel, by decide +kernel⟩, List.mem_of_getElem? (i := 13) (by decide +kernel), List.mem_of_getElem? (i := 203) (by decide +kernel), List.mem_of_getElem? (i := 204) (by decide +kernel)⟩
theorem lw_p13 : lw_okq (⟨"PrinterRows", "countSkip", "(I)V"⟩, 16) := ⟨⟨by decide +kernel, by decide +kernel⟩, List.mem_of_getElem? (i := 13) (by decide +kernel), List.mem_of_getElem? (i := 207) (by decide +kernel), List.mem_of_getElem? (i := 208) (by decide +kernel)⟩
theorem lw_p14 : lw_okq (⟨"PrinterRows", "takeLastPage", "()V"⟩, 16) := ⟨⟨by decide +kernel, by decide +kernel⟩, List.mem_of_getElem? (i := 13) (by decide +kernel), List.mem_of_getElem? (i := 236) (by decide +kernel), List.mem_of_getElem? (i := 237) (by decide +kernel)⟩
theorem lw_p15 : lw_okq (⟨"java/lang/Throwable", "fillInStackTrace", "(I)Ljava/lang/Throwable;"⟩, 6) := ⟨⟨by decide +kernel, by decide +kernel⟩, List.mem_of_getElem? (i := 297) (by decide +kernel), List.mem_of_getElem? (i := 295) (by decide +kernel), List.mem_of_getElem? (i := 296) (by decide +kernel)⟩
def lw_privs_1 : List (MethodName × Nat) := [(⟨"PrinterRows", "wayTo", "(I)I"⟩, 16), (⟨"PrinterRows", "canPrintHere", "()Z"⟩, 16), (⟨"PrinterRows", "standPage", "()I"⟩, 16), (⟨"PrinterRows", "canMove", "(I)Z"⟩, 16), (⟨"PrinterRows", "pageAfter", "(I)I"⟩, 16), (⟨"PrinterRows", "printRecord", "()V"⟩, 16), (⟨"PrinterRows", "beginPage", "()V"⟩, 16), (⟨"PrinterRows", "addPage", "(LPrinterRows$Page;)V"⟩, 16), (⟨"PrinterRows", "begunPage", "(I)LPrinterRows$Page;"⟩, 16), (⟨"PrinterRows", "printSign", "(LPrinterRows$Page;II)V"⟩, 16), (⟨"PrinterRows", "moveBy", "(I)V"⟩, 16), (⟨"PrinterRows", "standOnNewPage", "()V"⟩, 16), (⟨"PrinterRows", "canPrintAfter", "(I)Z"⟩, 16), (⟨"PrinterRows", "countSkip", "(I)V"⟩, 16), (⟨"PrinterRows", "takeLastPage", "()V"⟩, 16), (⟨"java/lang/Throwable", "fillInStackTrace", "(I)Ljava/lang/Throwable;"⟩, 6)]
theorem lw_r1 : ∀ q ∈ lw_privs_1, lw_okq q := List.forall_mem_cons.mpr ⟨lw_p0, List.forall_mem_cons.mpr ⟨lw_p1, List.forall_mem_cons.mpr ⟨lw_p2, List.forall_mem_cons.mpr ⟨lw_p3, List.forall_mem_cons.mpr ⟨lw_p4, List.forall_mem_cons.mpr ⟨lw_p5, List.forall_mem_cons.mpr ⟨lw_p6, List.forall_mem_cons.mpr ⟨lw_p7, List.forall_mem_cons.mpr ⟨lw_p8, List.forall_mem_cons.mpr ⟨lw_p9, List.forall_mem_cons.mpr ⟨lw_p10, List.forall_mem_cons.mpr ⟨lw_p11, List.forall_mem_cons.mpr ⟨lw_p12, List.forall_mem_cons.mpr ⟨lw_p13, List.forall_mem_cons.mpr ⟨lw_p14, List.forall_mem_cons.mpr ⟨lw_p15, fun _ h => absurd h List.not_mem_nil⟩⟩⟩⟩⟩⟩⟩⟩⟩⟩⟩⟩⟩⟩⟩⟩
theorem lw_p16 : lw_okq (⟨"PrinterRowsModel", "tries", "()V"⟩, 16) := ⟨⟨by decide +kernel, by decide +kernel⟩, List.mem_of_getElem? (i := 338) (by decide +kernel), List.mem_of_getElem? (i := 410) (by decide +kernel), List.mem_of_getElem? (i := 411) (by decide +kernel)⟩
theorem lw_p17 : lw_okq (⟨"PrinterRowsModel", "ahead", "(I)I"⟩, 16) := ⟨⟨by decide +kernel, by decide +kernel⟩, List.mem_of_getElem? (i := 338) (by decide +kernel), List.mem_of_getElem? (i := 414) (by decide +kernel), List.mem_of_getElem? (i := 415) (by decide +kernel)⟩
theorem lw_p18 : lw_okq (⟨"PrinterRowsModel", "way", "(I)I"⟩, 16) := ⟨⟨by decide +kernel, by decide +kernel⟩, List.mem_of_getElem? (i := 338) (by decide +kernel), List.mem_of_getElem? (i := 418) (by decide +kernel), List.mem_of_getElem? (i := 419) (by decide +kernel)⟩
theorem lw_p19 : lw_okq (⟨"PrinterRowsModel", "move", "(I)V"⟩, 16) := ⟨⟨by decide +kernel, by decide +kernel⟩, List.mem_of_getElem? (i := 338) (by decide +kernel), List.mem_of_getElem? (i := 422) (by decide +kernel), List.mem_of_getElem? (i := 423) (by decide +kernel)⟩
theorem lw_p20 : lw_okq (⟨"PrinterRowsModel", "begin", "()V"⟩, 16) := ⟨⟨by decide +kernel, by decide +kernel⟩, List.mem_of_getElem? (i := 338) (by decide +kernel), List.mem_of_getElem? (i := 426) (by decide +kernel), List.mem_of_getElem? (i := 427) (by decide +kernel)⟩
theorem lw_p21 : lw_okq (⟨"PrinterRowsModel", "settle", "()V"⟩, 16) := ⟨⟨by decide +kernel, by decide +kernel⟩, List.mem_of_getElem? (i := 338) (by decide +kernel), List.mem_of_getElem? (i := 433) (by decide +kernel), List.mem_of_getElem? (i := 434) (by decide +kernel)⟩
theorem lw_p22 : lw_okq (⟨"PrinterRowsModel", "print", "(II)V"⟩, 16) := ⟨⟨by decide +kernel, by decide +kernel⟩, List.mem_of_getElem? (i := 338) (by decide +kernel), List.mem_of_getElem? (i := 437) (by decide +kernel), List.mem_of_getElem? (i := 438) (by decide +kernel)⟩
theorem lw_p23 : lw_okq (⟨"PrinterRowsModel", "pass", "()V"⟩, 16) := ⟨⟨by decide +kernel, by decide +kernel⟩, List.mem_of_getElem? (i := 338) (by decide +kernel), List.mem_of_getElem? (i := 452) (by decide +kernel), List.mem_of_getElem? (i := 453) (by decide +kernel)⟩
def lw_privs_2 : List (MethodName × Nat) := [(⟨"PrinterRowsModel", "tries", "()V"⟩, 16), (⟨"PrinterRowsModel", "ahead", "(I)I"⟩, 16), (⟨"PrinterRowsModel", "way", "(I)I"⟩, 16), (⟨"PrinterRowsModel", "move", "(I)V"⟩, 16), (⟨"PrinterRowsModel", "begin", "()V"⟩, 16), (⟨"PrinterRowsModel", "settle", "()V"⟩, 16), (⟨"PrinterRowsModel", "print", "(II)V"⟩, 16), (⟨"PrinterRowsModel", "pass", "()V"⟩, 16)]
theorem lw_r2 : ∀ q ∈ lw_privs_2, lw_okq q := List.forall_mem_cons.mpr ⟨lw_p16, List.forall_mem_cons.mpr ⟨lw_p17, List.forall_mem_cons.mpr ⟨lw_p18, List.forall_mem_cons.mpr ⟨lw_p19, List.forall_mem_cons.mpr ⟨lw_p20, List.forall_mem_cons.mpr ⟨lw_p21, List.forall_mem_cons.mpr ⟨lw_p22, List.forall_mem_cons.mpr ⟨lw_p23, fun _ h => absurd h List.not_mem_nil⟩⟩⟩⟩⟩⟩⟩⟩
def lw_privs : List (MethodName × Nat) := lw_privs_1 ++ (lw_privs_2)
def lw_tbl : List Cond := k2_sels lw_privs ++ tables_1
theorem lw_privs_ok : ∀ q ∈ lw_privs, lw_okq q := by
  show ∀ q ∈ lw_privs_1 ++ (lw_privs_2), lw_okq q
  exact List.forall_mem_append.mpr ⟨lw_r1, lw_r2⟩
-- ===== end of PART A; then your names; then what follows =====
end
section
/-! ===== BEGIN words of one list among another's, by their places ===== -/
theorem goodIn_r {big : List Cond} (ws : List Cond) (ps : List Nat) (hp : ws = ps.filterMap (fun i => big[i]?)) (h : ws.all goodWord = true) : GoodIn big ws := by
  intro w hw
  have h1 := List.all_eq_true.mp h w hw
  rw [hp] at hw
  obtain ⟨i, -, hi⟩ := List.mem_filterMap.mp hw
  have hm : w ∈ big := by first | exact List.mem_of_getElem? hi | exact List.getElem?_mem hi
  exact ⟨hm, good_of_word h1⟩
theorem goodIn_app {big a b : List Cond} (ha : GoodIn big a) (hb : GoodIn big b) : GoodIn big (a ++ b) := fun w h => (List.mem_append.mp h).elim (ha w) (hb w)
theorem goodIn_ca {big a b : List Cond} {c : Cond} (ha : GoodIn big (c :: a)) (hb : GoodIn big b) : GoodIn big (c :: (a ++ b)) := fun w h => (List.mem_cons.mp h).elim (fun e => ha w (List.mem_cons.mpr (Or.inl e))) (fun h => (List.mem_append.mp h).elim (fun h => ha w (List.mem_cons.mpr (Or.inr h))) (hb w))
theorem goodIn_sub {big ws : List Cond} (hm : ∀ w ∈ ws, w ∈ big) (h : ws.all goodWord = true) : GoodIn big ws := fun w hw => ⟨hm w hw, good_of_word (List.all_eq_true.mp h w hw)⟩
/-! ===== END ===== -/

/-! ===== BEGIN printed: names, fields, word lists, decode rows ===== -/
def RX0 : String := "PrinterRows$Page"
def TX0 : u_T := fun k => match k with
  | 0 => ("PrinterRows$Page", "rows", "[LPrinterRows$Row;", true)
  | _ => ("PrinterRows$Page", "columns", "I", true)
def tyX0 : Nat → FieldType := fun k => match k with
  | 0 => .array (.object "PrinterRows$Row")
  | _ => .int
abbrev wsX00 : List Cond := u_ws RX0 TX0 2
theorem nmX0 : ∀ a, a < 2 → ∀ b, b < 2 → a ≠ b → (TX0 a).2.1 ≠ (TX0 b).2.1 := by decide +kernel
theorem tyX0_ok : ∀ k, k < 2 → parseFieldDescriptor (TX0 k).2.2.1 = some (tyX0 k) := by decide +kernel
abbrev cX0_init : ByteArray := prog_2_method_1_code
def yX0_init : MethodName := ⟨RX0, "<init>", "(II)V"⟩
abbrev cX0_join : ByteArray := prog_2_method_2_code
def yX0_join : MethodName := ⟨RX0, "join", "(III)V"⟩
abbrev cX0_signIn : ByteArray := prog_2_method_3_code
def yX0_signIn : MethodName := ⟨RX0, "signIn", "(II)I"⟩
def RX1 : String := "PrinterRows$Row"
def TX1 : u_T := fun k => match k with
  | _ => ("PrinterRows$Row", "signs", "[I", true)
def tyX1 : Nat → FieldType := fun k => match k with
  | _ => .array .int
abbrev wsX10 : List Cond := u_ws RX1 TX1 1
theorem nmX1 : ∀ a, a < 1 → ∀ b, b < 1 → a ≠ b → (TX1 a).2.1 ≠ (TX1 b).2.1 := by decide +kernel
theorem tyX1_ok : ∀ k, k < 1 → parseFieldDescriptor (TX1 k).2.2.1 = some (tyX1 k) := by decide +kernel
abbrev cX1_init : ByteArray := prog_3_method_1_code
def yX1_init : MethodName := ⟨RX1, "<init>", "(I)V"⟩
abbrev cX1_joinSign : ByteArray := prog_3_method_2_code
def yX1_joinSign : MethodName := ⟨RX1, "joinSign", "(II)V"⟩
abbrev cX1_signOf : ByteArray := prog_3_method_3_code
def yX1_signOf : MethodName := ⟨RX1, "signOf", "(I)I"⟩
def RX2 : String := "PrinterRows"
def TX2 : u_T := fun k => match k with
  | 0 => ("PrinterRows", "lines", "I", true)
  | 1 => ("PrinterRows", "columns", "I", true)
  | 2 => ("PrinterRows", "channelLines", "[I", true)
  | 3 => ("PrinterRows", "printedAs", "[I", true)
  | 4 => ("PrinterRows", "record", "[I", true)
  | 5 => ("PrinterRows", "recordLength", "I", false)
  | 6 => ("PrinterRows", "pages", "[LPrinterRows$Page;", true)
  | 7 => ("PrinterRows", "begun", "I", false)
  | 8 => ("PrinterRows", "onBegunPage", "Z", false)
  | 9 => ("PrinterRows", "standLine", "I", false)
  | 10 => ("PrinterRows", "mountedKind", "I", false)
  | 11 => ("PrinterRows", "recordsPrinted", "I", false)
  | 12 => ("PrinterRows", "signsPrinted", "I", false)
  | 13 => ("PrinterRows", "signsCut", "I", false)
  | 14 => ("PrinterRows", "skipsToNoLine", "I", false)
  | _ => ("PrinterRows", "formsAskedFor", "I", false)
def tyX2 : Nat → FieldType := fun k => match k with
  | 0 => .int
  | 1 => .int
  | 2 => .array .int
  | 3 => .array .int
  | 4 => .array .int
  | 5 => .int
  | 6 => .array (.object "PrinterRows$Page")
  | 7 => .int
  | 8 => .boolean
  | 9 => .int
  | 10 => .int
  | 11 => .int
  | 12 => .int
  | 13 => .int
  | 14 => .int
  | _ => .int
abbrev wsX20 : List Cond := u_ws RX2 TX2 16
theorem nmX2 : ∀ a, a < 16 → ∀ b, b < 16 → a ≠ b → (TX2 a).2.1 ≠ (TX2 b).2.1 := by decide +kernel
theorem tyX2_ok : ∀ k, k < 16 → parseFieldDescriptor (TX2 k).2.2.1 = some (tyX2 k) := by decide +kernel
abbrev cX2_init : ByteArray := prog_1_method_1_code
def yX2_init : MethodName := ⟨RX2, "<init>", "(II)V"⟩
abbrev cX2_channel : ByteArray := prog_1_method_2_code
def yX2_channel : MethodName := ⟨RX2, "channel", "(II)I"⟩
abbrev cX2_sign : ByteArray := prog_1_method_3_code
def yX2_sign : MethodName := ⟨RX2, "sign", "(I)V"⟩
abbrev cX2_line : ByteArray := prog_1_method_4_code
def yX2_line : MethodName := ⟨RX2, "line", "(I)I"⟩
abbrev cX2_skip : ByteArray := prog_1_method_5_code
def yX2_skip : MethodName := ⟨RX2, "skip", "(I)I"⟩
abbrev cX2_end : ByteArray := prog_1_method_6_code
def yX2_end : MethodName := ⟨RX2, "end", "()I"⟩
abbrev cX2_at : ByteArray := prog_1_method_7_code
def yX2_at : MethodName := ⟨RX2, "at", "(III)I"⟩
abbrev cX2_over : ByteArray := prog_1_method_8_code
def yX2_over : MethodName := ⟨RX2, "over", "(II)I"⟩
abbrev cX2_translate : ByteArray := prog_1_method_9_code
def yX2_translate : MethodName := ⟨RX2, "translate", "(II)I"⟩
abbrev cX2_copies : ByteArray := prog_1_method_10_code
def yX2_copies : MethodName := ⟨RX2, "copies", "(III)I"⟩
abbrev cX2_back : ByteArray := prog_1_method_11_code
def yX2_back : MethodName := ⟨RX2, "back", "(I)I"⟩
abbrev cX2_forms : ByteArray := prog_1_method_12_code
def yX2_forms : MethodName := ⟨RX2, "forms", "(I)I"⟩
abbrev cX2_tally : ByteArray := prog_1_method_13_code
def yX2_tally : MethodName := ⟨RX2, "tally", "(I)I"⟩
abbrev cX2_heldTo : ByteArray := prog_1_method_14_code
def yX2_heldTo : MethodName := ⟨RX2, "heldTo", "(II)I"⟩
abbrev cX2_isChannel : ByteArray := prog_1_method_15_code
def yX2_isChannel : MethodName := ⟨RX2, "isChannel", "(I)Z"⟩
abbrev cX2_isSign : ByteArray := prog_1_method_16_code
def yX2_isSign : MethodName := ⟨RX2, "isSign", "(I)Z"⟩
abbrev cX2_darker : ByteArray := prog_1_method_17_code
def yX2_darker : MethodName := ⟨RX2, "darker", "(II)I"⟩
abbrev cX2_isSecondKind : ByteArray := prog_1_method_18_code
def yX2_isSecondKind : MethodName := ⟨RX2, "isSecondKind", "(I)Z"⟩
abbrev cX2_isPlainSecondKind : ByteArray := prog_1_method_19_code
def yX2_isPlainSecondKind : MethodName := ⟨RX2, "isPlainSecondKind", "(I)Z"⟩
abbrev cX2_channelOfCode : ByteArray := prog_1_method_20_code
def yX2_channelOfCode : MethodName := ⟨RX2, "channelOfCode", "(I)I"⟩
abbrev cX2_linesOfCode : ByteArray := prog_1_method_21_code
def yX2_linesOfCode : MethodName := ⟨RX2, "linesOfCode", "(I)I"⟩
abbrev cX2_wayTo : ByteArray := prog_1_method_22_code
def yX2_wayTo : MethodName := ⟨RX2, "wayTo", "(I)I"⟩
abbrev cX2_countSkip : ByteArray := prog_1_method_23_code
def yX2_countSkip : MethodName := ⟨RX2, "countSkip", "(I)V"⟩
abbrev cX2_standPage : ByteArray := prog_1_method_24_code
def yX2_standPage : MethodName := ⟨RX2, "standPage", "()I"⟩
abbrev cX2_pageAfter : ByteArray := prog_1_method_25_code
def yX2_pageAfter : MethodName := ⟨RX2, "pageAfter", "(I)I"⟩
abbrev cX2_canPrintHere : ByteArray := prog_1_method_26_code
def yX2_canPrintHere : MethodName := ⟨RX2, "canPrintHere", "()Z"⟩
abbrev cX2_canPrintAfter : ByteArray := prog_1_method_27_code
def yX2_canPrintAfter : MethodName := ⟨RX2, "canPrintAfter", "(I)Z"⟩
abbrev cX2_canMove : ByteArray := prog_1_method_28_code
def yX2_canMove : MethodName := ⟨RX2, "canMove", "(I)Z"⟩
abbrev cX2_moveBy : ByteArray := prog_1_method_29_code
def yX2_moveBy : MethodName := ⟨RX2, "moveBy", "(I)V"⟩
abbrev cX2_standOnNewPage : ByteArray := prog_1_method_30_code
def yX2_standOnNewPage : MethodName := ⟨RX2, "standOnNewPage", "()V"⟩
abbrev cX2_beginPage : ByteArray := prog_1_method_31_code
def yX2_beginPage : MethodName := ⟨RX2, "beginPage", "()V"⟩
abbrev cX2_addPage : ByteArray := prog_1_method_32_code
def yX2_addPage : MethodName := ⟨RX2, "addPage", "(LPrinterRows$Page;)V"⟩
abbrev cX2_takeLastPage : ByteArray := prog_1_method_33_code
def yX2_takeLastPage : MethodName := ⟨RX2, "takeLastPage", "()V"⟩
abbrev cX2_begunPage : ByteArray := prog_1_method_34_code
def yX2_begunPage : MethodName := ⟨RX2, "begunPage", "(I)LPrinterRows$Page;"⟩
abbrev cX2_printRecord : ByteArray := prog_1_method_35_code
def yX2_printRecord : MethodName := ⟨RX2, "printRecord", "()V"⟩
abbrev cX2_printSign : ByteArray := prog_1_method_36_code
def yX2_printSign : MethodName := ⟨RX2, "printSign", "(LPrinterRows$Page;II)V"⟩
def RX3 : String := "PrinterRowsModel"
def TX3 : u_T := fun k => match k with
  | 0 => ("PrinterRowsModel", "thrown", "I", false)
  | 1 => ("PrinterRowsModel", "lines", "I", true)
  | 2 => ("PrinterRowsModel", "columns", "I", true)
  | 3 => ("PrinterRowsModel", "signs", "[I", true)
  | 4 => ("PrinterRowsModel", "channels", "[I", true)
  | 5 => ("PrinterRowsModel", "table", "[I", true)
  | 6 => ("PrinterRowsModel", "record", "[I", true)
  | 7 => ("PrinterRowsModel", "tallies", "[I", true)
  | 8 => ("PrinterRowsModel", "length", "I", false)
  | 9 => ("PrinterRowsModel", "pages", "I", false)
  | 10 => ("PrinterRowsModel", "at", "I", false)
  | 11 => ("PrinterRowsModel", "mounted", "I", false)
  | 12 => ("PrinterRowsModel", "begun", "Z", false)
  | 13 => ("PrinterRowsModel", "trialPages", "I", false)
  | 14 => ("PrinterRowsModel", "trialLine", "I", false)
  | _ => ("PrinterRowsModel", "trialBegun", "Z", false)
def tyX3 : Nat → FieldType := fun k => match k with
  | 0 => .int
  | 1 => .int
  | 2 => .int
  | 3 => .array .int
  | 4 => .array .int
  | 5 => .array .int
  | 6 => .array .int
  | 7 => .array .int
  | 8 => .int
  | 9 => .int
  | 10 => .int
  | 11 => .int
  | 12 => .boolean
  | 13 => .int
  | 14 => .int
  | _ => .boolean
abbrev wsX30 : List Cond := u_ws RX3 TX3 16
theorem nmX3 : ∀ a, a < 16 → ∀ b, b < 16 → a ≠ b → (TX3 a).2.1 ≠ (TX3 b).2.1 := by decide +kernel
theorem tyX3_ok : ∀ k, k < 16 → parseFieldDescriptor (TX3 k).2.2.1 = some (tyX3 k) := by decide +kernel
abbrev cX3_init : ByteArray := prog_5_method_1_code
def yX3_init : MethodName := ⟨RX3, "<init>", "(II)V"⟩
abbrev cX3_thrown : ByteArray := prog_5_method_2_code
def yX3_thrown : MethodName := ⟨RX3, "thrown", "()I"⟩
abbrev cX3_channel : ByteArray := prog_5_method_3_code
def yX3_channel : MethodName := ⟨RX3, "channel", "(II)I"⟩
abbrev cX3_sign : ByteArray := prog_5_method_4_code
def yX3_sign : MethodName := ⟨RX3, "sign", "(I)V"⟩
abbrev cX3_tries : ByteArray := prog_5_method_5_code
def yX3_tries : MethodName := ⟨RX3, "tries", "()V"⟩
abbrev cX3_move : ByteArray := prog_5_method_6_code
def yX3_move : MethodName := ⟨RX3, "move", "(I)V"⟩
abbrev cX3_way : ByteArray := prog_5_method_7_code
def yX3_way : MethodName := ⟨RX3, "way", "(I)I"⟩
abbrev cX3_begin : ByteArray := prog_5_method_8_code
def yX3_begin : MethodName := ⟨RX3, "begin", "()V"⟩
abbrev cX3_settle : ByteArray := prog_5_method_9_code
def yX3_settle : MethodName := ⟨RX3, "settle", "()V"⟩
abbrev cX3_darker : ByteArray := prog_5_method_10_code
def yX3_darker : MethodName := ⟨RX3, "darker", "(II)I"⟩
abbrev cX3_print : ByteArray := prog_5_method_11_code
def yX3_print : MethodName := ⟨RX3, "print", "(II)V"⟩
abbrev cX3_ahead : ByteArray := prog_5_method_12_code
def yX3_ahead : MethodName := ⟨RX3, "ahead", "(I)I"⟩
abbrev cX3_channelOf : ByteArray := prog_5_method_13_code
def yX3_channelOf : MethodName := ⟨RX3, "channelOf", "(I)I"⟩
abbrev cX3_line : ByteArray := prog_5_method_14_code
def yX3_line : MethodName := ⟨RX3, "line", "(I)I"⟩
abbrev cX3_skip : ByteArray := prog_5_method_15_code
def yX3_skip : MethodName := ⟨RX3, "skip", "(I)I"⟩
abbrev cX3_pass : ByteArray := prog_5_method_16_code
def yX3_pass : MethodName := ⟨RX3, "pass", "()V"⟩
abbrev cX3_end : ByteArray := prog_5_method_17_code
def yX3_end : MethodName := ⟨RX3, "end", "()I"⟩
abbrev cX3_at : ByteArray := prog_5_method_18_code
def yX3_at : MethodName := ⟨RX3, "at", "(III)I"⟩
abbrev cX3_isSign : ByteArray := prog_5_method_19_code
def yX3_isSign : MethodName := ⟨RX3, "isSign", "(I)Z"⟩
abbrev cX3_over : ByteArray := prog_5_method_20_code
def yX3_over : MethodName := ⟨RX3, "over", "(II)I"⟩
abbrev cX3_translate : ByteArray := prog_5_method_21_code
def yX3_translate : MethodName := ⟨RX3, "translate", "(II)I"⟩
abbrev cX3_copies : ByteArray := prog_5_method_22_code
def yX3_copies : MethodName := ⟨RX3, "copies", "(III)I"⟩
abbrev cX3_back : ByteArray := prog_5_method_23_code
def yX3_back : MethodName := ⟨RX3, "back", "(I)I"⟩
abbrev cX3_forms : ByteArray := prog_5_method_24_code
def yX3_forms : MethodName := ⟨RX3, "forms", "(I)I"⟩
abbrev cX3_tally : ByteArray := prog_5_method_25_code
def yX3_tally : MethodName := ⟨RX3, "tally", "(I)I"⟩
def RJx00060 : String := "java/lang/ArrayIndexOutOfBoundsException"
def TJx00060 : u_T := fun k => match k with
  | 0 => ("java/lang/Throwable", "cause", "Ljava/lang/Throwable;", false)
  | 1 => ("java/lang/Throwable", "stackTrace", "[Ljava/lang/StackTraceElement;", false)
  | 2 => ("java/lang/Throwable", "suppressedExceptions", "Ljava/util/List;", false)
  | 3 => ("java/lang/Throwable", "detailMessage", "Ljava/lang/String;", false)
  | 4 => ("java/lang/Throwable", "backtrace", "Ljava/lang/Object;", false)
  | _ => ("java/lang/Throwable", "depth", "I", false)
def tyJx00060 : Nat → FieldType := fun k => match k with
  | 0 => .object "java/lang/Throwable"
  | 1 => .array (.object "java/lang/StackTraceElement")
  | 2 => .object "java/util/List"
  | 3 => .object "java/lang/String"
  | 4 => .object "java/lang/Object"
  | _ => .int
abbrev wsJx000600 : List Cond := u_ws RJx00060 TJx00060 6
theorem nmJx00060 : ∀ a, a < 6 → ∀ b, b < 6 → a ≠ b → (TJx00060 a).2.1 ≠ (TJx00060 b).2.1 := by decide +kernel
theorem tyJx00060_ok : ∀ k, k < 6 → parseFieldDescriptor (TJx00060 k).2.2.1 = some (tyJx00060 k) := by decide +kernel
abbrev cJx00060_init_a7421 : ByteArray := prog_6_method_2_code
def yJx00060_init_a7421 : MethodName := ⟨RJx00060, "<init>", "(Ljava/lang/String;)V"⟩
def RJ9 : String := "java/lang/Math"
def TJ9 : u_T := fun k => match k with
  | _ => ("", "", "", false)
def tyJ9 : Nat → FieldType := fun k => match k with
  | _ => .int
abbrev wsJ90 : List Cond := u_ws RJ9 TJ9 0
theorem nmJ9 : ∀ a, a < 0 → ∀ b, b < 0 → a ≠ b → (TJ9 a).2.1 ≠ (TJ9 b).2.1 := by decide +kernel
theorem tyJ9_ok : ∀ k, k < 0 → parseFieldDescriptor (TJ9 k).2.2.1 = some (tyJ9 k) := by decide +kernel
abbrev cJ9_floorMod_7cf53 : ByteArray := prog_9_method_50_code
def yJ9_floorMod_7cf53 : MethodName := ⟨RJ9, "floorMod", "(II)I"⟩
abbrev cJ9_max_7cf53 : ByteArray := prog_9_method_65_code
def yJ9_max_7cf53 : MethodName := ⟨RJ9, "max", "(II)I"⟩
abbrev cJ9_min_7cf53 : ByteArray := prog_9_method_69_code
def yJ9_min_7cf53 : MethodName := ⟨RJ9, "min", "(II)I"⟩
def RJ0 : String := "java/lang/String"
def TJ0 : u_T := fun k => match k with
  | _ => ("", "", "", false)
def tyJ0 : Nat → FieldType := fun k => match k with
  | _ => .int
abbrev wsJ00 : List Cond := u_ws RJ0 TJ0 0
theorem nmJ0 : ∀ a, a < 0 → ∀ b, b < 0 → a ≠ b → (TJ0 a).2.1 ≠ (TJ0 b).2.1 := by decide +kernel
theorem tyJ0_ok : ∀ k, k < 0 → parseFieldDescriptor (TJ0 k).2.2.1 = some (tyJ0 k) := by decide +kernel
def RJ7 : String := "java/util/Arrays"
def TJ7 : u_T := fun k => match k with
  | _ => ("", "", "", false)
def tyJ7 : Nat → FieldType := fun k => match k with
  | _ => .int
abbrev wsJ70 : List Cond := u_ws RJ7 TJ7 0
theorem nmJ7 : ∀ a, a < 0 → ∀ b, b < 0 → a ≠ b → (TJ7 a).2.1 ≠ (TJ7 b).2.1 := by decide +kernel
theorem tyJ7_ok : ∀ k, k < 0 → parseFieldDescriptor (TJ7 k).2.2.1 = some (tyJ7 k) := by decide +kernel
abbrev cJ7_fill_53178 : ByteArray := prog_13_method_103_code
def yJ7_fill_53178 : MethodName := ⟨RJ7, "fill", "([II)V"⟩
def RL : String := "PrinterRowsLaw"
abbrev cL_cell : ByteArray := method_2_code
def yL_cell : MethodName := ⟨RL, "cell", "([II)I"⟩
abbrev cL_at : ByteArray := method_3_code
def yL_at : MethodName := ⟨RL, "at", "(LPrinterRows;III[J)I"⟩
abbrev cL_law : ByteArray := code
def yL_law : MethodName := ⟨RL, "law", "([I)Z"⟩
def wsX0_init : List Cond := .code yX0_init cX0_init 3 none :: ([.methodLink RX0 3 objectInit, .instanceMethod objectInit, .code objectInit ⟨#[0xb1]⟩ 1 none, .methodLink RX0 9 Lib.Math.max.name, .static Lib.Math.max.name, .initialized "java/lang/Math", .code Lib.Math.max.name Lib.Math.max.code 2 (some .int), .classLink RX0 15 RX1, .fieldLink RX0 17 "PrinterRows$Page" "rows" "[LPrinterRows$Row;", .fieldLink RX0 23 "PrinterRows$Page" "columns" "I"] ++ wsX00)
def wsJ7_fill_53178 : List Cond := .code yJ7_fill_53178 cJ7_fill_53178 4 none :: ([])
def wsX1_init : List Cond := .code yX1_init cX1_init 2 none :: ([.methodLink RX1 3 objectInit, .instanceMethod objectInit, .code objectInit ⟨#[0xb1]⟩ 1 none, .methodLink RX1 9 Lib.Math.max.name, .static Lib.Math.max.name, .initialized "java/lang/Math", .code Lib.Math.max.name Lib.Math.max.code 2 (some .int), .arrayClass .int, .fieldLink RX1 15 "PrinterRows$Row" "signs" "[I", .methodLink RX1 21 yJ7_fill_53178, .static yJ7_fill_53178, .initialized RJ7, .code yJ7_fill_53178 cJ7_fill_53178 4 none] ++ wsX10)
def wsX2_darker : List Cond := .code yX2_darker cX2_darker 2 (some .int) :: ([.methodLink RX2 54 Lib.Math.max.name, .static Lib.Math.max.name, .initialized "java/lang/Math", .code Lib.Math.max.name Lib.Math.max.code 2 (some .int)])
def wsX1_joinSign : List Cond := .code yX1_joinSign cX1_joinSign 3 none :: ([.fieldLink RX1 15 "PrinterRows$Row" "signs" "[I", .static yX2_darker, .initialized RX2, .code yX2_darker cX2_darker 2 (some .int), .methodLink RX2 54 Lib.Math.max.name, .static Lib.Math.max.name, .initialized "java/lang/Math", .code Lib.Math.max.name Lib.Math.max.code 2 (some .int)] ++ wsX10)
def wsX0_join_r1 : List Cond := [Cond.fieldLink RX0 17 "PrinterRows$Page" "rows" "[LPrinterRows$Row;", Cond.classLink RX0 15 RX1, Cond.instantiable RX1 1, Cond.initialized RX1, Cond.fieldLink RX0 23 "PrinterRows$Page" "columns" "I", Cond.methodLink RX0 27 yX1_init, Cond.instanceMethod yX1_init, Cond.code yX1_init cX1_init 2 none, Cond.methodLink RX1 3 objectInit, Cond.instanceMethod objectInit, Cond.code objectInit ⟨#[0xb1]⟩ 1 none, Cond.methodLink RX1 9 Lib.Math.max.name, Cond.static Lib.Math.max.name, Cond.initialized "java/lang/Math", Cond.code Lib.Math.max.name Lib.Math.max.code 2 (some .int), Cond.arrayClass .int, Cond.fieldLink RX1 15 "PrinterRows$Row" "signs" "[I", Cond.methodLink RX1 21 yJ7_fill_53178, Cond.static yJ7_fill_53178, Cond.initialized RJ7, Cond.code yJ7_fill_53178 cJ7_fill_53178 4 none, Cond.methodLink RX0 30 yX1_joinSign, Cond.instanceMethod yX1_joinSign, Cond.selects RX1 yX1_joinSign yX1_joinSign]
def wsX0_join_r2 : List Cond := [Cond.code yX1_joinSign cX1_joinSign 3 none, Cond.static yX2_darker, Cond.initialized RX2, Cond.code yX2_darker cX2_darker 2 (some .int), Cond.methodLink RX2 54 Lib.Math.max.name]
def wsX0_join : List Cond := .code yX0_join cX0_join 4 none :: ((wsX0_join_r1 ++ wsX0_join_r2) ++ wsX00 ++ wsX10)
def wsX1_signOf : List Cond := .code yX1_signOf cX1_signOf 2 (some .int) :: ([.fieldLink RX1 15 "PrinterRows$Row" "signs" "[I"] ++ wsX10)
def wsX0_signIn : List Cond := .code yX0_signIn cX0_signIn 3 (some .int) :: ([.fieldLink RX0 17 "PrinterRows$Page" "rows" "[LPrinterRows$Row;", .methodLink RX0 34 yX1_signOf, .instanceMethod yX1_signOf, .selects RX1 yX1_signOf yX1_signOf, .initialized RX1, .code yX1_signOf cX1_signOf 2 (some .int), .fieldLink RX1 15 "PrinterRows$Row" "signs" "[I"] ++ wsX00 ++ wsX10)
def wsX2_heldTo : List Cond := .code yX2_heldTo cX2_heldTo 2 (some .int) :: ([.methodLink RX2 144 Lib.Math.min.name, .static Lib.Math.min.name, .initialized "java/lang/Math", .code Lib.Math.min.name Lib.Math.min.code 2 (some .int), .methodLink RX2 54 Lib.Math.max.name, .static Lib.Math.max.name, .code Lib.Math.max.name Lib.Math.max.code 2 (some .int)])
def wsX2_init_r1 : List Cond := [Cond.methodLink RX2 3 objectInit, Cond.instanceMethod objectInit, Cond.code objectInit ⟨#[0xb1]⟩ 1 none, Cond.fieldLink RX2 13 "PrinterRows" "lines" "I", Cond.fieldLink RX2 17 "PrinterRows" "columns" "I", Cond.arrayClass .int, Cond.fieldLink RX2 20 "PrinterRows" "channelLines" "[I", Cond.fieldLink RX2 30 "PrinterRows" "printedAs" "[I", Cond.fieldLink RX2 33 "PrinterRows" "record" "[I", Cond.classLink RX2 36 RX0, Cond.fieldLink RX2 38 "PrinterRows" "pages" "[LPrinterRows$Page;", Cond.methodLink RX2 9 yX2_heldTo, Cond.static yX2_heldTo, Cond.initialized RX2, Cond.code yX2_heldTo cX2_heldTo 2 (some .int), Cond.methodLink RX2 144 Lib.Math.min.name, Cond.static Lib.Math.min.name, Cond.initialized "java/lang/Math", Cond.code Lib.Math.min.name Lib.Math.min.code 2 (some .int), Cond.methodLink RX2 54 Lib.Math.max.name, Cond.static Lib.Math.max.name, Cond.code Lib.Math.max.name Lib.Math.max.code 2 (some .int), Cond.methodLink RX2 24 yJ7_fill_53178, Cond.static yJ7_fill_53178]
def wsX2_init_r2 : List Cond := [Cond.initialized RJ7, Cond.code yJ7_fill_53178 cJ7_fill_53178 4 none]
def wsX2_init : List Cond := .code yX2_init cX2_init 4 none :: ((wsX2_init_r1 ++ wsX2_init_r2) ++ wsX20)
def wsX2_isChannel : List Cond := .code yX2_isChannel cX2_isChannel 1 (some .boolean) :: ([])
def wsX2_channel : List Cond := .code yX2_channel cX2_channel 4 (some .int) :: ([.fieldLink RX2 13 "PrinterRows" "lines" "I", .fieldLink RX2 20 "PrinterRows" "channelLines" "[I", .methodLink RX2 42 yX2_isChannel, .static yX2_isChannel, .initialized RX2, .code yX2_isChannel cX2_isChannel 1 (some .boolean)] ++ wsX20)
def wsJ9_floorMod_7cf53 : List Cond := .code yJ9_floorMod_7cf53 cJ9_floorMod_7cf53 3 (some .int) :: ([])
def wsX2_sign : List Cond := .code yX2_sign cX2_sign 2 none :: ([.fieldLink RX2 46 "PrinterRows" "recordLength" "I", .fieldLink RX2 33 "PrinterRows" "record" "[I", .methodLink RX2 54 Lib.Math.max.name, .static Lib.Math.max.name, .initialized "java/lang/Math", .code Lib.Math.max.name Lib.Math.max.code 2 (some .int), .methodLink RX2 49 yJ9_floorMod_7cf53, .static yJ9_floorMod_7cf53, .initialized RJ9, .code yJ9_floorMod_7cf53 cJ9_floorMod_7cf53 3 (some .int)] ++ wsX20)
def wsX2_channelOfCode : List Cond := .code yX2_channelOfCode cX2_channelOfCode 2 (some .int) :: ([.methodLink RX2 42 yX2_isChannel, .static yX2_isChannel, .initialized RX2, .code yX2_isChannel cX2_isChannel 1 (some .boolean)])
def wsX2_wayTo : List Cond := .code yX2_wayTo cX2_wayTo 3 (some .int) :: ([.fieldLink RX2 20 "PrinterRows" "channelLines" "[I", .fieldLink RX2 13 "PrinterRows" "lines" "I", .fieldLink RX2 129 "PrinterRows" "standLine" "I", .methodLink RX2 42 yX2_isChannel, .static yX2_isChannel, .initialized RX2, .code yX2_isChannel cX2_isChannel 1 (some .boolean)] ++ wsX20)
def wsX2_isPlainSecondKind : List Cond := .code yX2_isPlainSecondKind cX2_isPlainSecondKind 1 (some .boolean) :: ([])
def wsX2_linesOfCode : List Cond := .code yX2_linesOfCode cX2_linesOfCode 1 (some .int) :: ([.methodLink RX2 147 yX2_isPlainSecondKind, .static yX2_isPlainSecondKind, .initialized RX2, .code yX2_isPlainSecondKind cX2_isPlainSecondKind 1 (some .boolean)])
def wsX2_isSecondKind : List Cond := .code yX2_isSecondKind cX2_isSecondKind 1 (some .boolean) :: ([.methodLink RX2 147 yX2_isPlainSecondKind, .static yX2_isPlainSecondKind, .initialized RX2, .code yX2_isPlainSecondKind cX2_isPlainSecondKind 1 (some .boolean), .methodLink RX2 42 yX2_isChannel, .static yX2_isChannel, .code yX2_isChannel cX2_isChannel 1 (some .boolean)])
def wsX2_standPage : List Cond := .code yX2_standPage cX2_standPage 1 (some .int) :: ([.fieldLink RX2 150 "PrinterRows" "onBegunPage" "Z", .fieldLink RX2 90 "PrinterRows" "begun" "I"] ++ wsX20)
def wsX2_canPrintHere : List Cond := .code yX2_canPrintHere cX2_canPrintHere 1 (some .boolean) :: ([.methodLink RX2 154 yX2_standPage, .instanceMethod yX2_standPage, .selects RX2 yX2_standPage yX2_standPage, .initialized RX2, .code yX2_standPage cX2_standPage 1 (some .int), .fieldLink RX2 150 "PrinterRows" "onBegunPage" "Z", .fieldLink RX2 90 "PrinterRows" "begun" "I"] ++ wsX20)
def wsX2_pageAfter : List Cond := .code yX2_pageAfter cX2_pageAfter 2 (some .int) :: ([.fieldLink RX2 129 "PrinterRows" "standLine" "I", .fieldLink RX2 13 "PrinterRows" "lines" "I", .methodLink RX2 154 yX2_standPage, .instanceMethod yX2_standPage, .selects RX2 yX2_standPage yX2_standPage, .initialized RX2, .code yX2_standPage cX2_standPage 1 (some .int), .fieldLink RX2 150 "PrinterRows" "onBegunPage" "Z", .fieldLink RX2 90 "PrinterRows" "begun" "I"] ++ wsX20)
def wsX2_canMove : List Cond := .code yX2_canMove cX2_canMove 2 (some .boolean) :: ([.methodLink RX2 158 yX2_pageAfter, .instanceMethod yX2_pageAfter, .selects RX2 yX2_pageAfter yX2_pageAfter, .initialized RX2, .code yX2_pageAfter cX2_pageAfter 2 (some .int), .fieldLink RX2 129 "PrinterRows" "standLine" "I", .fieldLink RX2 13 "PrinterRows" "lines" "I", .methodLink RX2 154 yX2_standPage, .instanceMethod yX2_standPage, .selects RX2 yX2_standPage yX2_standPage, .code yX2_standPage cX2_standPage 1 (some .int), .fieldLink RX2 150 "PrinterRows" "onBegunPage" "Z", .fieldLink RX2 90 "PrinterRows" "begun" "I"] ++ wsX20)
def wsX2_addPage : List Cond := .code yX2_addPage cX2_addPage 2 none :: ([.fieldLink RX2 90 "PrinterRows" "begun" "I", .fieldLink RX2 38 "PrinterRows" "pages" "[LPrinterRows$Page;"] ++ wsX20)
def wsX2_beginPage_r1 : List Cond := [Cond.fieldLink RX2 150 "PrinterRows" "onBegunPage" "Z", Cond.classLink RX2 36 RX0, Cond.instantiable RX0 2, Cond.initialized RX0, Cond.fieldLink RX2 13 "PrinterRows" "lines" "I", Cond.fieldLink RX2 17 "PrinterRows" "columns" "I", Cond.methodLink RX2 164 yX0_init, Cond.instanceMethod yX0_init, Cond.code yX0_init cX0_init 3 none, Cond.methodLink RX0 3 objectInit, Cond.instanceMethod objectInit, Cond.code objectInit ⟨#[0xb1]⟩ 1 none, Cond.methodLink RX0 9 Lib.Math.max.name, Cond.static Lib.Math.max.name, Cond.initialized "java/lang/Math", Cond.code Lib.Math.max.name Lib.Math.max.code 2 (some .int), Cond.classLink RX0 15 RX1, Cond.fieldLink RX0 17 "PrinterRows$Page" "rows" "[LPrinterRows$Row;", Cond.fieldLink RX0 23 "PrinterRows$Page" "columns" "I", Cond.methodLink RX2 116 yX2_addPage, Cond.instanceMethod yX2_addPage, Cond.selects RX2 yX2_addPage yX2_addPage, Cond.initialized RX2, Cond.code yX2_addPage cX2_addPage 2 none]
def wsX2_beginPage_r2 : List Cond := [Cond.fieldLink RX2 90 "PrinterRows" "begun" "I", Cond.fieldLink RX2 38 "PrinterRows" "pages" "[LPrinterRows$Page;"]
def wsX2_beginPage : List Cond := .code yX2_beginPage cX2_beginPage 1 none :: ((wsX2_beginPage_r1 ++ wsX2_beginPage_r2) ++ wsX20 ++ wsX00)
def wsX2_begunPage : List Cond := .code yX2_begunPage cX2_begunPage 2 (some (.object "PrinterRows$Page")) :: ([.fieldLink RX2 90 "PrinterRows" "begun" "I", .fieldLink RX2 38 "PrinterRows" "pages" "[LPrinterRows$Page;"] ++ wsX20)
def wsX2_isSign : List Cond := .code yX2_isSign cX2_isSign 1 (some .boolean) :: ([])
def wsX2_printSign_r1 : List Cond := [Cond.fieldLink RX2 30 "PrinterRows" "printedAs" "[I", Cond.fieldLink RX2 129 "PrinterRows" "standLine" "I", Cond.fieldLink RX2 135 "PrinterRows" "signsPrinted" "I", Cond.methodLink RX2 110 yX2_isSign, Cond.static yX2_isSign, Cond.initialized RX2, Cond.code yX2_isSign cX2_isSign 1 (some .boolean), Cond.methodLink RX2 171 yX0_join, Cond.instanceMethod yX0_join, Cond.selects RX0 yX0_join yX0_join, Cond.initialized RX0, Cond.code yX0_join cX0_join 4 none, Cond.fieldLink RX0 17 "PrinterRows$Page" "rows" "[LPrinterRows$Row;", Cond.classLink RX0 15 RX1, Cond.instantiable RX1 1, Cond.initialized RX1, Cond.fieldLink RX0 23 "PrinterRows$Page" "columns" "I", Cond.methodLink RX0 27 yX1_init, Cond.instanceMethod yX1_init, Cond.code yX1_init cX1_init 2 none, Cond.methodLink RX1 3 objectInit, Cond.instanceMethod objectInit, Cond.code objectInit ⟨#[0xb1]⟩ 1 none, Cond.methodLink RX1 9 Lib.Math.max.name]
def wsX2_printSign_r2 : List Cond := [Cond.static Lib.Math.max.name, Cond.initialized "java/lang/Math", Cond.code Lib.Math.max.name Lib.Math.max.code 2 (some .int), Cond.arrayClass .int, Cond.fieldLink RX1 15 "PrinterRows$Row" "signs" "[I", Cond.methodLink RX1 21 yJ7_fill_53178, Cond.static yJ7_fill_53178, Cond.initialized RJ7, Cond.code yJ7_fill_53178 cJ7_fill_53178 4 none, Cond.methodLink RX0 30 yX1_joinSign, Cond.instanceMethod yX1_joinSign, Cond.selects RX1 yX1_joinSign yX1_joinSign, Cond.code yX1_joinSign cX1_joinSign 3 none, Cond.static yX2_darker, Cond.code yX2_darker cX2_darker 2 (some .int), Cond.methodLink RX2 54 Lib.Math.max.name]
def wsX2_printSign : List Cond := .code yX2_printSign cX2_printSign 5 none :: ((wsX2_printSign_r1 ++ wsX2_printSign_r2) ++ wsX20 ++ wsX00 ++ wsX10)
def wsX2_printRecord_r1 : List Cond := [Cond.fieldLink RX2 90 "PrinterRows" "begun" "I", Cond.fieldLink RX2 46 "PrinterRows" "recordLength" "I", Cond.fieldLink RX2 33 "PrinterRows" "record" "[I", Cond.fieldLink RX2 17 "PrinterRows" "columns" "I", Cond.fieldLink RX2 138 "PrinterRows" "signsCut" "I", Cond.fieldLink RX2 132 "PrinterRows" "recordsPrinted" "I", Cond.methodLink RX2 161 yX2_beginPage, Cond.instanceMethod yX2_beginPage, Cond.selects RX2 yX2_beginPage yX2_beginPage, Cond.initialized RX2, Cond.code yX2_beginPage cX2_beginPage 1 none, Cond.fieldLink RX2 150 "PrinterRows" "onBegunPage" "Z", Cond.classLink RX2 36 RX0, Cond.instantiable RX0 2, Cond.initialized RX0, Cond.fieldLink RX2 13 "PrinterRows" "lines" "I", Cond.methodLink RX2 164 yX0_init, Cond.instanceMethod yX0_init, Cond.code yX0_init cX0_init 3 none, Cond.methodLink RX0 3 objectInit, Cond.instanceMethod objectInit, Cond.code objectInit ⟨#[0xb1]⟩ 1 none, Cond.methodLink RX0 9 Lib.Math.max.name, Cond.static Lib.Math.max.name]
def wsX2_printRecord_r2 : List Cond := [Cond.initialized "java/lang/Math", Cond.code Lib.Math.max.name Lib.Math.max.code 2 (some .int), Cond.classLink RX0 15 RX1, Cond.fieldLink RX0 17 "PrinterRows$Page" "rows" "[LPrinterRows$Row;", Cond.fieldLink RX0 23 "PrinterRows$Page" "columns" "I", Cond.methodLink RX2 116 yX2_addPage, Cond.instanceMethod yX2_addPage, Cond.selects RX2 yX2_addPage yX2_addPage, Cond.code yX2_addPage cX2_addPage 2 none, Cond.fieldLink RX2 38 "PrinterRows" "pages" "[LPrinterRows$Page;", Cond.methodLink RX2 96 yX2_begunPage, Cond.instanceMethod yX2_begunPage, Cond.selects RX2 yX2_begunPage yX2_begunPage, Cond.code yX2_begunPage cX2_begunPage 2 (some (.object "PrinterRows$Page")), Cond.methodLink RX2 167 yX2_printSign, Cond.instanceMethod yX2_printSign, Cond.selects RX2 yX2_printSign yX2_printSign, Cond.code yX2_printSign cX2_printSign 5 none, Cond.fieldLink RX2 30 "PrinterRows" "printedAs" "[I", Cond.fieldLink RX2 129 "PrinterRows" "standLine" "I", Cond.fieldLink RX2 135 "PrinterRows" "signsPrinted" "I", Cond.methodLink RX2 110 yX2_isSign, Cond.static yX2_isSign, Cond.code yX2_isSign cX2_isSign 1 (some .boolean)]
def wsX2_printRecord_r3 : List Cond := [Cond.methodLink RX2 171 yX0_join, Cond.instanceMethod yX0_join, Cond.selects RX0 yX0_join yX0_join, Cond.code yX0_join cX0_join 4 none, Cond.instantiable RX1 1, Cond.initialized RX1, Cond.methodLink RX0 27 yX1_init, Cond.instanceMethod yX1_init, Cond.code yX1_init cX1_init 2 none, Cond.methodLink RX1 3 objectInit, Cond.methodLink RX1 9 Lib.Math.max.name, Cond.arrayClass .int, Cond.fieldLink RX1 15 "PrinterRows$Row" "signs" "[I", Cond.methodLink RX1 21 yJ7_fill_53178, Cond.static yJ7_fill_53178, Cond.initialized RJ7, Cond.code yJ7_fill_53178 cJ7_fill_53178 4 none, Cond.methodLink RX0 30 yX1_joinSign, Cond.instanceMethod yX1_joinSign, Cond.selects RX1 yX1_joinSign yX1_joinSign, Cond.code yX1_joinSign cX1_joinSign 3 none, Cond.static yX2_darker, Cond.code yX2_darker cX2_darker 2 (some .int), Cond.methodLink RX2 54 Lib.Math.max.name]
def wsX2_printRecord : List Cond := .code yX2_printRecord cX2_printRecord 3 none :: ((wsX2_printRecord_r1 ++ (wsX2_printRecord_r2 ++ wsX2_printRecord_r3)) ++ wsX20 ++ wsX00 ++ wsX10)
def wsX2_standOnNewPage : List Cond := .code yX2_standOnNewPage cX2_standOnNewPage 1 none :: ([.fieldLink RX2 150 "PrinterRows" "onBegunPage" "Z", .fieldLink RX2 129 "PrinterRows" "standLine" "I"] ++ wsX20)
def wsX2_moveBy_r1 : List Cond := [Cond.fieldLink RX2 129 "PrinterRows" "standLine" "I", Cond.fieldLink RX2 13 "PrinterRows" "lines" "I", Cond.methodLink RX2 161 yX2_beginPage, Cond.instanceMethod yX2_beginPage, Cond.selects RX2 yX2_beginPage yX2_beginPage, Cond.initialized RX2, Cond.code yX2_beginPage cX2_beginPage 1 none, Cond.fieldLink RX2 150 "PrinterRows" "onBegunPage" "Z", Cond.classLink RX2 36 RX0, Cond.instantiable RX0 2, Cond.initialized RX0, Cond.fieldLink RX2 17 "PrinterRows" "columns" "I", Cond.methodLink RX2 164 yX0_init, Cond.instanceMethod yX0_init, Cond.code yX0_init cX0_init 3 none, Cond.methodLink RX0 3 objectInit, Cond.instanceMethod objectInit, Cond.code objectInit ⟨#[0xb1]⟩ 1 none, Cond.methodLink RX0 9 Lib.Math.max.name, Cond.static Lib.Math.max.name, Cond.initialized "java/lang/Math", Cond.code Lib.Math.max.name Lib.Math.max.code 2 (some .int), Cond.classLink RX0 15 RX1, Cond.fieldLink RX0 17 "PrinterRows$Page" "rows" "[LPrinterRows$Row;"]
def wsX2_moveBy_r2 : List Cond := [Cond.fieldLink RX0 23 "PrinterRows$Page" "columns" "I", Cond.methodLink RX2 116 yX2_addPage, Cond.instanceMethod yX2_addPage, Cond.selects RX2 yX2_addPage yX2_addPage, Cond.code yX2_addPage cX2_addPage 2 none, Cond.fieldLink RX2 90 "PrinterRows" "begun" "I", Cond.fieldLink RX2 38 "PrinterRows" "pages" "[LPrinterRows$Page;", Cond.methodLink RX2 93 yX2_standOnNewPage, Cond.instanceMethod yX2_standOnNewPage, Cond.selects RX2 yX2_standOnNewPage yX2_standOnNewPage, Cond.code yX2_standOnNewPage cX2_standOnNewPage 1 none]
def wsX2_moveBy : List Cond := .code yX2_moveBy cX2_moveBy 3 none :: ((wsX2_moveBy_r1 ++ wsX2_moveBy_r2) ++ wsX20 ++ wsX00)
def wsX2_canPrintAfter : List Cond := .code yX2_canPrintAfter cX2_canPrintAfter 2 (some .boolean) :: ([.methodLink RX2 158 yX2_pageAfter, .instanceMethod yX2_pageAfter, .selects RX2 yX2_pageAfter yX2_pageAfter, .initialized RX2, .code yX2_pageAfter cX2_pageAfter 2 (some .int), .fieldLink RX2 129 "PrinterRows" "standLine" "I", .fieldLink RX2 13 "PrinterRows" "lines" "I", .methodLink RX2 154 yX2_standPage, .instanceMethod yX2_standPage, .selects RX2 yX2_standPage yX2_standPage, .code yX2_standPage cX2_standPage 1 (some .int), .fieldLink RX2 150 "PrinterRows" "onBegunPage" "Z", .fieldLink RX2 90 "PrinterRows" "begun" "I"] ++ wsX20)
def wsX2_countSkip : List Cond := .code yX2_countSkip cX2_countSkip 2 none :: ([.fieldLink RX2 20 "PrinterRows" "channelLines" "[I", .fieldLink RX2 141 "PrinterRows" "skipsToNoLine" "I", .methodLink RX2 42 yX2_isChannel, .static yX2_isChannel, .initialized RX2, .code yX2_isChannel cX2_isChannel 1 (some .boolean)] ++ wsX20)
def wsX2_line_r1 : List Cond := [Cond.fieldLink RX2 90 "PrinterRows" "begun" "I", Cond.methodLink RX2 57 yX2_channelOfCode, Cond.static yX2_channelOfCode, Cond.initialized RX2, Cond.code yX2_channelOfCode cX2_channelOfCode 2 (some .int), Cond.methodLink RX2 42 yX2_isChannel, Cond.static yX2_isChannel, Cond.code yX2_isChannel cX2_isChannel 1 (some .boolean), Cond.methodLink RX2 61 yX2_wayTo, Cond.instanceMethod yX2_wayTo, Cond.selects RX2 yX2_wayTo yX2_wayTo, Cond.code yX2_wayTo cX2_wayTo 3 (some .int), Cond.fieldLink RX2 20 "PrinterRows" "channelLines" "[I", Cond.fieldLink RX2 13 "PrinterRows" "lines" "I", Cond.fieldLink RX2 129 "PrinterRows" "standLine" "I", Cond.methodLink RX2 64 yX2_linesOfCode, Cond.static yX2_linesOfCode, Cond.code yX2_linesOfCode cX2_linesOfCode 1 (some .int), Cond.methodLink RX2 147 yX2_isPlainSecondKind, Cond.static yX2_isPlainSecondKind, Cond.code yX2_isPlainSecondKind cX2_isPlainSecondKind 1 (some .boolean), Cond.methodLink RX2 67 yX2_isSecondKind, Cond.static yX2_isSecondKind, Cond.code yX2_isSecondKind cX2_isSecondKind 1 (some .boolean)]
def wsX2_line_r2 : List Cond := [Cond.methodLink RX2 70 yX2_canPrintHere, Cond.instanceMethod yX2_canPrintHere, Cond.selects RX2 yX2_canPrintHere yX2_canPrintHere, Cond.code yX2_canPrintHere cX2_canPrintHere 1 (some .boolean), Cond.methodLink RX2 154 yX2_standPage, Cond.instanceMethod yX2_standPage, Cond.selects RX2 yX2_standPage yX2_standPage, Cond.code yX2_standPage cX2_standPage 1 (some .int), Cond.fieldLink RX2 150 "PrinterRows" "onBegunPage" "Z", Cond.methodLink RX2 74 yX2_canMove, Cond.instanceMethod yX2_canMove, Cond.selects RX2 yX2_canMove yX2_canMove, Cond.code yX2_canMove cX2_canMove 2 (some .boolean), Cond.methodLink RX2 158 yX2_pageAfter, Cond.instanceMethod yX2_pageAfter, Cond.selects RX2 yX2_pageAfter yX2_pageAfter, Cond.code yX2_pageAfter cX2_pageAfter 2 (some .int), Cond.methodLink RX2 77 yX2_printRecord, Cond.instanceMethod yX2_printRecord, Cond.selects RX2 yX2_printRecord yX2_printRecord, Cond.code yX2_printRecord cX2_printRecord 3 none, Cond.fieldLink RX2 46 "PrinterRows" "recordLength" "I", Cond.fieldLink RX2 33 "PrinterRows" "record" "[I", Cond.fieldLink RX2 17 "PrinterRows" "columns" "I"]
def wsX2_line_r3 : List Cond := [Cond.fieldLink RX2 138 "PrinterRows" "signsCut" "I", Cond.fieldLink RX2 132 "PrinterRows" "recordsPrinted" "I", Cond.methodLink RX2 161 yX2_beginPage, Cond.instanceMethod yX2_beginPage, Cond.selects RX2 yX2_beginPage yX2_beginPage, Cond.code yX2_beginPage cX2_beginPage 1 none, Cond.classLink RX2 36 RX0, Cond.instantiable RX0 2, Cond.initialized RX0, Cond.methodLink RX2 164 yX0_init, Cond.instanceMethod yX0_init, Cond.code yX0_init cX0_init 3 none, Cond.methodLink RX0 3 objectInit, Cond.instanceMethod objectInit, Cond.code objectInit ⟨#[0xb1]⟩ 1 none, Cond.methodLink RX0 9 Lib.Math.max.name, Cond.static Lib.Math.max.name, Cond.initialized "java/lang/Math", Cond.code Lib.Math.max.name Lib.Math.max.code 2 (some .int), Cond.classLink RX0 15 RX1, Cond.fieldLink RX0 17 "PrinterRows$Page" "rows" "[LPrinterRows$Row;", Cond.fieldLink RX0 23 "PrinterRows$Page" "columns" "I", Cond.methodLink RX2 116 yX2_addPage, Cond.instanceMethod yX2_addPage]
def wsX2_line_r4 : List Cond := [Cond.selects RX2 yX2_addPage yX2_addPage, Cond.code yX2_addPage cX2_addPage 2 none, Cond.fieldLink RX2 38 "PrinterRows" "pages" "[LPrinterRows$Page;", Cond.methodLink RX2 96 yX2_begunPage, Cond.instanceMethod yX2_begunPage, Cond.selects RX2 yX2_begunPage yX2_begunPage, Cond.code yX2_begunPage cX2_begunPage 2 (some (.object "PrinterRows$Page")), Cond.methodLink RX2 167 yX2_printSign, Cond.instanceMethod yX2_printSign, Cond.selects RX2 yX2_printSign yX2_printSign, Cond.code yX2_printSign cX2_printSign 5 none, Cond.fieldLink RX2 30 "PrinterRows" "printedAs" "[I", Cond.fieldLink RX2 135 "PrinterRows" "signsPrinted" "I", Cond.methodLink RX2 110 yX2_isSign, Cond.static yX2_isSign, Cond.code yX2_isSign cX2_isSign 1 (some .boolean), Cond.methodLink RX2 171 yX0_join, Cond.instanceMethod yX0_join, Cond.selects RX0 yX0_join yX0_join, Cond.code yX0_join cX0_join 4 none, Cond.instantiable RX1 1, Cond.initialized RX1, Cond.methodLink RX0 27 yX1_init, Cond.instanceMethod yX1_init]
def wsX2_line_r5 : List Cond := [Cond.code yX1_init cX1_init 2 none, Cond.methodLink RX1 3 objectInit, Cond.methodLink RX1 9 Lib.Math.max.name, Cond.arrayClass .int, Cond.fieldLink RX1 15 "PrinterRows$Row" "signs" "[I", Cond.methodLink RX1 21 yJ7_fill_53178, Cond.static yJ7_fill_53178, Cond.initialized RJ7, Cond.code yJ7_fill_53178 cJ7_fill_53178 4 none, Cond.methodLink RX0 30 yX1_joinSign, Cond.instanceMethod yX1_joinSign, Cond.selects RX1 yX1_joinSign yX1_joinSign, Cond.code yX1_joinSign cX1_joinSign 3 none, Cond.static yX2_darker, Cond.code yX2_darker cX2_darker 2 (some .int), Cond.methodLink RX2 54 Lib.Math.max.name, Cond.methodLink RX2 80 yX2_moveBy, Cond.instanceMethod yX2_moveBy, Cond.selects RX2 yX2_moveBy yX2_moveBy, Cond.code yX2_moveBy cX2_moveBy 3 none, Cond.methodLink RX2 93 yX2_standOnNewPage, Cond.instanceMethod yX2_standOnNewPage, Cond.selects RX2 yX2_standOnNewPage yX2_standOnNewPage, Cond.code yX2_standOnNewPage cX2_standOnNewPage 1 none]
def wsX2_line_r6 : List Cond := [Cond.methodLink RX2 84 yX2_canPrintAfter, Cond.instanceMethod yX2_canPrintAfter, Cond.selects RX2 yX2_canPrintAfter yX2_canPrintAfter, Cond.code yX2_canPrintAfter cX2_canPrintAfter 2 (some .boolean), Cond.methodLink RX2 87 yX2_countSkip, Cond.instanceMethod yX2_countSkip, Cond.selects RX2 yX2_countSkip yX2_countSkip, Cond.code yX2_countSkip cX2_countSkip 2 none, Cond.fieldLink RX2 141 "PrinterRows" "skipsToNoLine" "I"]
def wsX2_line : List Cond := .code yX2_line cX2_line 4 (some .int) :: ((wsX2_line_r1 ++ (wsX2_line_r2 ++ (wsX2_line_r3 ++ (wsX2_line_r4 ++ (wsX2_line_r5 ++ wsX2_line_r6))))) ++ wsX20 ++ wsX00 ++ wsX10)
def wsX2_skip_r1 : List Cond := [Cond.fieldLink RX2 20 "PrinterRows" "channelLines" "[I", Cond.methodLink RX2 42 yX2_isChannel, Cond.static yX2_isChannel, Cond.initialized RX2, Cond.code yX2_isChannel cX2_isChannel 1 (some .boolean), Cond.methodLink RX2 61 yX2_wayTo, Cond.instanceMethod yX2_wayTo, Cond.selects RX2 yX2_wayTo yX2_wayTo, Cond.code yX2_wayTo cX2_wayTo 3 (some .int), Cond.fieldLink RX2 13 "PrinterRows" "lines" "I", Cond.fieldLink RX2 129 "PrinterRows" "standLine" "I", Cond.methodLink RX2 74 yX2_canMove, Cond.instanceMethod yX2_canMove, Cond.selects RX2 yX2_canMove yX2_canMove, Cond.code yX2_canMove cX2_canMove 2 (some .boolean), Cond.methodLink RX2 158 yX2_pageAfter, Cond.instanceMethod yX2_pageAfter, Cond.selects RX2 yX2_pageAfter yX2_pageAfter, Cond.code yX2_pageAfter cX2_pageAfter 2 (some .int), Cond.methodLink RX2 154 yX2_standPage, Cond.instanceMethod yX2_standPage, Cond.selects RX2 yX2_standPage yX2_standPage, Cond.code yX2_standPage cX2_standPage 1 (some .int), Cond.fieldLink RX2 150 "PrinterRows" "onBegunPage" "Z"]
def wsX2_skip_r2 : List Cond := [Cond.fieldLink RX2 90 "PrinterRows" "begun" "I", Cond.methodLink RX2 80 yX2_moveBy, Cond.instanceMethod yX2_moveBy, Cond.selects RX2 yX2_moveBy yX2_moveBy, Cond.code yX2_moveBy cX2_moveBy 3 none, Cond.methodLink RX2 161 yX2_beginPage, Cond.instanceMethod yX2_beginPage, Cond.selects RX2 yX2_beginPage yX2_beginPage, Cond.code yX2_beginPage cX2_beginPage 1 none, Cond.classLink RX2 36 RX0, Cond.instantiable RX0 2, Cond.initialized RX0, Cond.fieldLink RX2 17 "PrinterRows" "columns" "I", Cond.methodLink RX2 164 yX0_init, Cond.instanceMethod yX0_init, Cond.code yX0_init cX0_init 3 none, Cond.methodLink RX0 3 objectInit, Cond.instanceMethod objectInit, Cond.code objectInit ⟨#[0xb1]⟩ 1 none, Cond.methodLink RX0 9 Lib.Math.max.name, Cond.static Lib.Math.max.name, Cond.initialized "java/lang/Math", Cond.code Lib.Math.max.name Lib.Math.max.code 2 (some .int), Cond.classLink RX0 15 RX1]
def wsX2_skip_r3 : List Cond := [Cond.fieldLink RX0 17 "PrinterRows$Page" "rows" "[LPrinterRows$Row;", Cond.fieldLink RX0 23 "PrinterRows$Page" "columns" "I", Cond.methodLink RX2 116 yX2_addPage, Cond.instanceMethod yX2_addPage, Cond.selects RX2 yX2_addPage yX2_addPage, Cond.code yX2_addPage cX2_addPage 2 none, Cond.fieldLink RX2 38 "PrinterRows" "pages" "[LPrinterRows$Page;", Cond.methodLink RX2 93 yX2_standOnNewPage, Cond.instanceMethod yX2_standOnNewPage, Cond.selects RX2 yX2_standOnNewPage yX2_standOnNewPage, Cond.code yX2_standOnNewPage cX2_standOnNewPage 1 none, Cond.methodLink RX2 87 yX2_countSkip, Cond.instanceMethod yX2_countSkip, Cond.selects RX2 yX2_countSkip yX2_countSkip, Cond.code yX2_countSkip cX2_countSkip 2 none, Cond.fieldLink RX2 141 "PrinterRows" "skipsToNoLine" "I"]
def wsX2_skip : List Cond := .code yX2_skip cX2_skip 3 (some .int) :: ((wsX2_skip_r1 ++ (wsX2_skip_r2 ++ wsX2_skip_r3)) ++ wsX20 ++ wsX00)
def wsX2_end : List Cond := .code yX2_end cX2_end 1 (some .int) :: ([.fieldLink RX2 90 "PrinterRows" "begun" "I", .methodLink RX2 93 yX2_standOnNewPage, .instanceMethod yX2_standOnNewPage, .selects RX2 yX2_standOnNewPage yX2_standOnNewPage, .initialized RX2, .code yX2_standOnNewPage cX2_standOnNewPage 1 none, .fieldLink RX2 150 "PrinterRows" "onBegunPage" "Z", .fieldLink RX2 129 "PrinterRows" "standLine" "I"] ++ wsX20)
def wsX2_at : List Cond := .code yX2_at cX2_at 5 (some .int) :: ([.fieldLink RX2 13 "PrinterRows" "lines" "I", .fieldLink RX2 17 "PrinterRows" "columns" "I", .classLink RX2 100 RJx00060, .instantiable RJx00060 6, .initialized RJx00060, .methodLink RX2 96 yX2_begunPage, .instanceMethod yX2_begunPage, .selects RX2 yX2_begunPage yX2_begunPage, .initialized RX2, .code yX2_begunPage cX2_begunPage 2 (some (.object "PrinterRows$Page")), .fieldLink RX2 90 "PrinterRows" "begun" "I", .fieldLink RX2 38 "PrinterRows" "pages" "[LPrinterRows$Page;", .methodLink RX2 107 yX0_signIn, .instanceMethod yX0_signIn, .selects RX0 yX0_signIn yX0_signIn, .initialized RX0, .code yX0_signIn cX0_signIn 3 (some .int), .fieldLink RX0 17 "PrinterRows$Page" "rows" "[LPrinterRows$Row;", .methodLink RX0 34 yX1_signOf, .instanceMethod yX1_signOf, .selects RX1 yX1_signOf yX1_signOf, .initialized RX1, .code yX1_signOf cX1_signOf 2 (some .int), .fieldLink RX1 15 "PrinterRows$Row" "signs" "[I"] ++ wsX20 ++ wsJx000600 ++ wsX00 ++ wsX10)
def wsX2_over : List Cond := .code yX2_over cX2_over 3 (some .int) :: ([.methodLink RX2 110 yX2_isSign, .static yX2_isSign, .initialized RX2, .code yX2_isSign cX2_isSign 1 (some .boolean), .methodLink RX2 113 yX2_darker, .static yX2_darker, .code yX2_darker cX2_darker 2 (some .int), .methodLink RX2 54 Lib.Math.max.name, .static Lib.Math.max.name, .initialized "java/lang/Math", .code Lib.Math.max.name Lib.Math.max.code 2 (some .int)])
def wsX2_translate : List Cond := .code yX2_translate cX2_translate 4 (some .int) :: ([.fieldLink RX2 30 "PrinterRows" "printedAs" "[I", .methodLink RX2 110 yX2_isSign, .static yX2_isSign, .initialized RX2, .code yX2_isSign cX2_isSign 1 (some .boolean)] ++ wsX20)
def wsX2_copies : List Cond := .code yX2_copies cX2_copies 6 (some .int) :: ([.fieldLink RX2 90 "PrinterRows" "begun" "I", .methodLink RX2 96 yX2_begunPage, .instanceMethod yX2_begunPage, .selects RX2 yX2_begunPage yX2_begunPage, .initialized RX2, .code yX2_begunPage cX2_begunPage 2 (some (.object "PrinterRows$Page")), .fieldLink RX2 38 "PrinterRows" "pages" "[LPrinterRows$Page;", .methodLink RX2 116 yX2_addPage, .instanceMethod yX2_addPage, .selects RX2 yX2_addPage yX2_addPage, .code yX2_addPage cX2_addPage 2 none, .methodLink RX2 93 yX2_standOnNewPage, .instanceMethod yX2_standOnNewPage, .selects RX2 yX2_standOnNewPage yX2_standOnNewPage, .code yX2_standOnNewPage cX2_standOnNewPage 1 none, .fieldLink RX2 150 "PrinterRows" "onBegunPage" "Z", .fieldLink RX2 129 "PrinterRows" "standLine" "I"] ++ wsX20)
def wsX2_takeLastPage : List Cond := .code yX2_takeLastPage cX2_takeLastPage 1 none :: ([.fieldLink RX2 90 "PrinterRows" "begun" "I", .fieldLink RX2 38 "PrinterRows" "pages" "[LPrinterRows$Page;"] ++ wsX20)
def wsX2_back : List Cond := .code yX2_back cX2_back 3 (some .int) :: ([.fieldLink RX2 90 "PrinterRows" "begun" "I", .methodLink RX2 120 yX2_takeLastPage, .instanceMethod yX2_takeLastPage, .selects RX2 yX2_takeLastPage yX2_takeLastPage, .initialized RX2, .code yX2_takeLastPage cX2_takeLastPage 1 none, .fieldLink RX2 38 "PrinterRows" "pages" "[LPrinterRows$Page;", .methodLink RX2 93 yX2_standOnNewPage, .instanceMethod yX2_standOnNewPage, .selects RX2 yX2_standOnNewPage yX2_standOnNewPage, .code yX2_standOnNewPage cX2_standOnNewPage 1 none, .fieldLink RX2 150 "PrinterRows" "onBegunPage" "Z", .fieldLink RX2 129 "PrinterRows" "standLine" "I"] ++ wsX20)
def wsX2_forms : List Cond := .code yX2_forms cX2_forms 2 (some .int) :: ([.fieldLink RX2 123 "PrinterRows" "mountedKind" "I", .fieldLink RX2 126 "PrinterRows" "formsAskedFor" "I", .methodLink RX2 93 yX2_standOnNewPage, .instanceMethod yX2_standOnNewPage, .selects RX2 yX2_standOnNewPage yX2_standOnNewPage, .initialized RX2, .code yX2_standOnNewPage cX2_standOnNewPage 1 none, .fieldLink RX2 150 "PrinterRows" "onBegunPage" "Z", .fieldLink RX2 129 "PrinterRows" "standLine" "I"] ++ wsX20)
def wsX2_tally : List Cond := .code yX2_tally cX2_tally 2 (some .int) :: ([.fieldLink RX2 90 "PrinterRows" "begun" "I", .fieldLink RX2 129 "PrinterRows" "standLine" "I", .fieldLink RX2 132 "PrinterRows" "recordsPrinted" "I", .fieldLink RX2 135 "PrinterRows" "signsPrinted" "I", .fieldLink RX2 138 "PrinterRows" "signsCut" "I", .fieldLink RX2 141 "PrinterRows" "skipsToNoLine" "I", .fieldLink RX2 126 "PrinterRows" "formsAskedFor" "I", .fieldLink RX2 46 "PrinterRows" "recordLength" "I"] ++ wsX20)
def wsX3_init : List Cond := .code yX3_init cX3_init 4 none :: ([.methodLink RX3 1 objectInit, .instanceMethod objectInit, .code objectInit ⟨#[0xb1]⟩ 1 none, .constant RX3 7 (348480), .arrayClass .int, .fieldLink RX3 8 "PrinterRowsModel" "signs" "[I", .fieldLink RX3 14 "PrinterRowsModel" "channels" "[I", .fieldLink RX3 17 "PrinterRowsModel" "table" "[I", .fieldLink RX3 20 "PrinterRowsModel" "record" "[I", .fieldLink RX3 23 "PrinterRowsModel" "tallies" "[I", .fieldLink RX3 26 "PrinterRowsModel" "lines" "I", .fieldLink RX3 30 "PrinterRowsModel" "columns" "I"] ++ wsX30)
def wsX3_thrown : List Cond := .code yX3_thrown cX3_thrown 1 (some .int) :: ([.fieldLink RX3 33 "PrinterRowsModel" "thrown" "I"] ++ wsX30)
def wsX3_channel : List Cond := .code yX3_channel cX3_channel 4 (some .int) :: ([.fieldLink RX3 33 "PrinterRowsModel" "thrown" "I", .fieldLink RX3 26 "PrinterRowsModel" "lines" "I", .fieldLink RX3 14 "PrinterRowsModel" "channels" "[I"] ++ wsX30)
def wsX3_sign : List Cond := .code yX3_sign cX3_sign 2 none :: ([.fieldLink RX3 33 "PrinterRowsModel" "thrown" "I", .fieldLink RX3 36 "PrinterRowsModel" "length" "I", .fieldLink RX3 20 "PrinterRowsModel" "record" "[I"] ++ wsX30)
def wsX3_tries : List Cond := .code yX3_tries cX3_tries 1 none :: ([.fieldLink RX3 39 "PrinterRowsModel" "pages" "I", .fieldLink RX3 42 "PrinterRowsModel" "trialPages" "I", .fieldLink RX3 45 "PrinterRowsModel" "at" "I", .fieldLink RX3 48 "PrinterRowsModel" "trialLine" "I", .fieldLink RX3 51 "PrinterRowsModel" "begun" "Z", .fieldLink RX3 55 "PrinterRowsModel" "trialBegun" "Z"] ++ wsX30)
def wsX3_move : List Cond := .code yX3_move cX3_move 3 none :: ([.fieldLink RX3 48 "PrinterRowsModel" "trialLine" "I", .fieldLink RX3 26 "PrinterRowsModel" "lines" "I", .fieldLink RX3 42 "PrinterRowsModel" "trialPages" "I", .fieldLink RX3 55 "PrinterRowsModel" "trialBegun" "Z"] ++ wsX30)
def wsX3_way : List Cond := .code yX3_way cX3_way 3 (some .int) :: ([.fieldLink RX3 14 "PrinterRowsModel" "channels" "[I", .fieldLink RX3 26 "PrinterRowsModel" "lines" "I", .fieldLink RX3 48 "PrinterRowsModel" "trialLine" "I"] ++ wsX30)
def wsX3_begin : List Cond := .code yX3_begin cX3_begin 1 none :: ([.fieldLink RX3 42 "PrinterRowsModel" "trialPages" "I", .fieldLink RX3 55 "PrinterRowsModel" "trialBegun" "Z"] ++ wsX30)
def wsX3_settle : List Cond := .code yX3_settle cX3_settle 2 none :: ([.fieldLink RX3 39 "PrinterRowsModel" "pages" "I", .fieldLink RX3 42 "PrinterRowsModel" "trialPages" "I", .fieldLink RX3 8 "PrinterRowsModel" "signs" "[I", .fieldLink RX3 48 "PrinterRowsModel" "trialLine" "I", .fieldLink RX3 45 "PrinterRowsModel" "at" "I", .fieldLink RX3 55 "PrinterRowsModel" "trialBegun" "Z", .fieldLink RX3 51 "PrinterRowsModel" "begun" "Z"] ++ wsX30)
def wsX3_darker : List Cond := .code yX3_darker cX3_darker 2 (some .int) :: ([])
def wsX3_print : List Cond := .code yX3_print cX3_print 6 none :: ([.fieldLink RX3 36 "PrinterRowsModel" "length" "I", .fieldLink RX3 17 "PrinterRowsModel" "table" "[I", .fieldLink RX3 20 "PrinterRowsModel" "record" "[I", .fieldLink RX3 30 "PrinterRowsModel" "columns" "I", .fieldLink RX3 23 "PrinterRowsModel" "tallies" "[I", .fieldLink RX3 8 "PrinterRowsModel" "signs" "[I", .methodLink RX3 58 yX3_darker, .static yX3_darker, .initialized RX3, .code yX3_darker cX3_darker 2 (some .int)] ++ wsX30)
def wsX3_ahead : List Cond := .code yX3_ahead cX3_ahead 2 (some .int) :: ([.methodLink RX3 62 yX3_way, .instanceMethod yX3_way, .selects RX3 yX3_way yX3_way, .initialized RX3, .code yX3_way cX3_way 3 (some .int), .fieldLink RX3 14 "PrinterRowsModel" "channels" "[I", .fieldLink RX3 26 "PrinterRowsModel" "lines" "I", .fieldLink RX3 48 "PrinterRowsModel" "trialLine" "I"] ++ wsX30)
def wsX3_channelOf : List Cond := .code yX3_channelOf cX3_channelOf 1 (some .int) :: ([])
def wsX3_line_r1 : List Cond := [Cond.fieldLink RX3 33 "PrinterRowsModel" "thrown" "I", Cond.fieldLink RX3 42 "PrinterRowsModel" "trialPages" "I", Cond.fieldLink RX3 48 "PrinterRowsModel" "trialLine" "I", Cond.fieldLink RX3 23 "PrinterRowsModel" "tallies" "[I", Cond.fieldLink RX3 14 "PrinterRowsModel" "channels" "[I", Cond.fieldLink RX3 39 "PrinterRowsModel" "pages" "I", Cond.methodLink RX3 66 yX3_tries, Cond.instanceMethod yX3_tries, Cond.selects RX3 yX3_tries yX3_tries, Cond.initialized RX3, Cond.code yX3_tries cX3_tries 1 none, Cond.fieldLink RX3 45 "PrinterRowsModel" "at" "I", Cond.fieldLink RX3 51 "PrinterRowsModel" "begun" "Z", Cond.fieldLink RX3 55 "PrinterRowsModel" "trialBegun" "Z", Cond.methodLink RX3 69 yX3_ahead, Cond.instanceMethod yX3_ahead, Cond.selects RX3 yX3_ahead yX3_ahead, Cond.code yX3_ahead cX3_ahead 2 (some .int), Cond.methodLink RX3 62 yX3_way, Cond.instanceMethod yX3_way, Cond.selects RX3 yX3_way yX3_way, Cond.code yX3_way cX3_way 3 (some .int), Cond.fieldLink RX3 26 "PrinterRowsModel" "lines" "I", Cond.methodLink RX3 72 yX3_move]
def wsX3_line_r2 : List Cond := [Cond.instanceMethod yX3_move, Cond.selects RX3 yX3_move yX3_move, Cond.code yX3_move cX3_move 3 none, Cond.methodLink RX3 76 yX3_begin, Cond.instanceMethod yX3_begin, Cond.selects RX3 yX3_begin yX3_begin, Cond.code yX3_begin cX3_begin 1 none, Cond.methodLink RX3 79 yX3_channelOf, Cond.static yX3_channelOf, Cond.code yX3_channelOf cX3_channelOf 1 (some .int), Cond.methodLink RX3 82 yX3_settle, Cond.instanceMethod yX3_settle, Cond.selects RX3 yX3_settle yX3_settle, Cond.code yX3_settle cX3_settle 2 none, Cond.fieldLink RX3 8 "PrinterRowsModel" "signs" "[I", Cond.methodLink RX3 85 yX3_print, Cond.instanceMethod yX3_print, Cond.selects RX3 yX3_print yX3_print, Cond.code yX3_print cX3_print 6 none, Cond.fieldLink RX3 36 "PrinterRowsModel" "length" "I", Cond.fieldLink RX3 17 "PrinterRowsModel" "table" "[I", Cond.fieldLink RX3 20 "PrinterRowsModel" "record" "[I", Cond.fieldLink RX3 30 "PrinterRowsModel" "columns" "I", Cond.methodLink RX3 58 yX3_darker]
def wsX3_line_r3 : List Cond := [Cond.static yX3_darker, Cond.code yX3_darker cX3_darker 2 (some .int)]
def wsX3_line : List Cond := .code yX3_line cX3_line 6 (some .int) :: ((wsX3_line_r1 ++ (wsX3_line_r2 ++ wsX3_line_r3)) ++ wsX30)
def wsX3_skip_r1 : List Cond := [Cond.fieldLink RX3 33 "PrinterRowsModel" "thrown" "I", Cond.fieldLink RX3 42 "PrinterRowsModel" "trialPages" "I", Cond.fieldLink RX3 14 "PrinterRowsModel" "channels" "[I", Cond.fieldLink RX3 23 "PrinterRowsModel" "tallies" "[I", Cond.methodLink RX3 66 yX3_tries, Cond.instanceMethod yX3_tries, Cond.selects RX3 yX3_tries yX3_tries, Cond.initialized RX3, Cond.code yX3_tries cX3_tries 1 none, Cond.fieldLink RX3 39 "PrinterRowsModel" "pages" "I", Cond.fieldLink RX3 45 "PrinterRowsModel" "at" "I", Cond.fieldLink RX3 48 "PrinterRowsModel" "trialLine" "I", Cond.fieldLink RX3 51 "PrinterRowsModel" "begun" "Z", Cond.fieldLink RX3 55 "PrinterRowsModel" "trialBegun" "Z", Cond.methodLink RX3 62 yX3_way, Cond.instanceMethod yX3_way, Cond.selects RX3 yX3_way yX3_way, Cond.code yX3_way cX3_way 3 (some .int), Cond.fieldLink RX3 26 "PrinterRowsModel" "lines" "I", Cond.methodLink RX3 72 yX3_move, Cond.instanceMethod yX3_move, Cond.selects RX3 yX3_move yX3_move, Cond.code yX3_move cX3_move 3 none, Cond.methodLink RX3 82 yX3_settle]
def wsX3_skip_r2 : List Cond := [Cond.instanceMethod yX3_settle, Cond.selects RX3 yX3_settle yX3_settle, Cond.code yX3_settle cX3_settle 2 none, Cond.fieldLink RX3 8 "PrinterRowsModel" "signs" "[I"]
def wsX3_skip : List Cond := .code yX3_skip cX3_skip 3 (some .int) :: ((wsX3_skip_r1 ++ wsX3_skip_r2) ++ wsX30)
def wsX3_pass : List Cond := .code yX3_pass cX3_pass 1 none :: ([.fieldLink RX3 51 "PrinterRowsModel" "begun" "Z", .fieldLink RX3 45 "PrinterRowsModel" "at" "I"] ++ wsX30)
def wsX3_end : List Cond := .code yX3_end cX3_end 1 (some .int) :: ([.fieldLink RX3 33 "PrinterRowsModel" "thrown" "I", .fieldLink RX3 39 "PrinterRowsModel" "pages" "I", .methodLink RX3 89 yX3_pass, .instanceMethod yX3_pass, .selects RX3 yX3_pass yX3_pass, .initialized RX3, .code yX3_pass cX3_pass 1 none, .fieldLink RX3 51 "PrinterRowsModel" "begun" "Z", .fieldLink RX3 45 "PrinterRowsModel" "at" "I"] ++ wsX30)
def wsX3_at : List Cond := .code yX3_at cX3_at 5 (some .int) :: ([.fieldLink RX3 39 "PrinterRowsModel" "pages" "I", .fieldLink RX3 26 "PrinterRowsModel" "lines" "I", .fieldLink RX3 30 "PrinterRowsModel" "columns" "I", .fieldLink RX3 33 "PrinterRowsModel" "thrown" "I", .fieldLink RX3 8 "PrinterRowsModel" "signs" "[I"] ++ wsX30)
def wsX3_isSign : List Cond := .code yX3_isSign cX3_isSign 1 (some .boolean) :: ([])
def wsX3_over : List Cond := .code yX3_over cX3_over 3 (some .int) :: ([.fieldLink RX3 33 "PrinterRowsModel" "thrown" "I", .methodLink RX3 92 yX3_isSign, .static yX3_isSign, .initialized RX3, .code yX3_isSign cX3_isSign 1 (some .boolean), .methodLink RX3 58 yX3_darker, .static yX3_darker, .code yX3_darker cX3_darker 2 (some .int)] ++ wsX30)
def wsX3_translate : List Cond := .code yX3_translate cX3_translate 4 (some .int) :: ([.fieldLink RX3 33 "PrinterRowsModel" "thrown" "I", .fieldLink RX3 17 "PrinterRowsModel" "table" "[I", .methodLink RX3 92 yX3_isSign, .static yX3_isSign, .initialized RX3, .code yX3_isSign cX3_isSign 1 (some .boolean)] ++ wsX30)
def wsX3_copies : List Cond := .code yX3_copies cX3_copies 6 (some .int) :: ([.fieldLink RX3 33 "PrinterRowsModel" "thrown" "I", .fieldLink RX3 39 "PrinterRowsModel" "pages" "I", .fieldLink RX3 8 "PrinterRowsModel" "signs" "[I", .methodLink RX3 89 yX3_pass, .instanceMethod yX3_pass, .selects RX3 yX3_pass yX3_pass, .initialized RX3, .code yX3_pass cX3_pass 1 none, .fieldLink RX3 51 "PrinterRowsModel" "begun" "Z", .fieldLink RX3 45 "PrinterRowsModel" "at" "I"] ++ wsX30)
def wsX3_back : List Cond := .code yX3_back cX3_back 2 (some .int) :: ([.fieldLink RX3 33 "PrinterRowsModel" "thrown" "I", .fieldLink RX3 39 "PrinterRowsModel" "pages" "I", .methodLink RX3 89 yX3_pass, .instanceMethod yX3_pass, .selects RX3 yX3_pass yX3_pass, .initialized RX3, .code yX3_pass cX3_pass 1 none, .fieldLink RX3 51 "PrinterRowsModel" "begun" "Z", .fieldLink RX3 45 "PrinterRowsModel" "at" "I"] ++ wsX30)
def wsX3_forms : List Cond := .code yX3_forms cX3_forms 2 (some .int) :: ([.fieldLink RX3 33 "PrinterRowsModel" "thrown" "I", .fieldLink RX3 96 "PrinterRowsModel" "mounted" "I", .fieldLink RX3 23 "PrinterRowsModel" "tallies" "[I", .methodLink RX3 89 yX3_pass, .instanceMethod yX3_pass, .selects RX3 yX3_pass yX3_pass, .initialized RX3, .code yX3_pass cX3_pass 1 none, .fieldLink RX3 51 "PrinterRowsModel" "begun" "Z", .fieldLink RX3 45 "PrinterRowsModel" "at" "I"] ++ wsX30)
def wsX3_tally : List Cond := .code yX3_tally cX3_tally 2 (some .int) :: ([.fieldLink RX3 33 "PrinterRowsModel" "thrown" "I", .fieldLink RX3 39 "PrinterRowsModel" "pages" "I", .fieldLink RX3 45 "PrinterRowsModel" "at" "I", .fieldLink RX3 23 "PrinterRowsModel" "tallies" "[I", .fieldLink RX3 36 "PrinterRowsModel" "length" "I"] ++ wsX30)
def wsJx00060_init_a7421 : List Cond := .code yJx00060_init_a7421 cJx00060_init_a7421 2 none :: ([])
def wsJ9_max_7cf53 : List Cond := .code yJ9_max_7cf53 cJ9_max_7cf53 2 (some .int) :: ([])
def wsJ9_min_7cf53 : List Cond := .code yJ9_min_7cf53 cJ9_min_7cf53 2 (some .int) :: ([])
def wsL_cell : List Cond := .code yL_cell cL_cell 2 (some .int) :: ([])
def wsL_at_r1 : List Cond := [Cond.methodLink RL 7 yX2_at, Cond.instanceMethod yX2_at, Cond.selects RX2 yX2_at yX2_at, Cond.initialized RX2, Cond.code yX2_at cX2_at 5 (some .int), Cond.fieldLink RX2 13 "PrinterRows" "lines" "I", Cond.fieldLink RX2 17 "PrinterRows" "columns" "I", Cond.classLink RX2 100 RJx00060, Cond.instantiable RJx00060 6, Cond.initialized RJx00060, Cond.methodLink RX2 96 yX2_begunPage, Cond.instanceMethod yX2_begunPage, Cond.selects RX2 yX2_begunPage yX2_begunPage, Cond.code yX2_begunPage cX2_begunPage 2 (some (.object "PrinterRows$Page")), Cond.fieldLink RX2 90 "PrinterRows" "begun" "I", Cond.fieldLink RX2 38 "PrinterRows" "pages" "[LPrinterRows$Page;", Cond.methodLink RX2 107 yX0_signIn, Cond.instanceMethod yX0_signIn, Cond.selects RX0 yX0_signIn yX0_signIn, Cond.initialized RX0, Cond.code yX0_signIn cX0_signIn 3 (some .int), Cond.fieldLink RX0 17 "PrinterRows$Page" "rows" "[LPrinterRows$Row;", Cond.methodLink RX0 34 yX1_signOf, Cond.instanceMethod yX1_signOf]
def wsL_at_r2 : List Cond := [Cond.selects RX1 yX1_signOf yX1_signOf, Cond.initialized RX1, Cond.code yX1_signOf cX1_signOf 2 (some .int), Cond.fieldLink RX1 15 "PrinterRows$Row" "signs" "[I"]
def wsL_at : List Cond := .codeWith yL_at cL_at 6 (some .int) [(0, 12, 15, 13)] :: ((wsL_at_r1 ++ wsL_at_r2) ++ wsX20 ++ wsJx000600 ++ wsX00 ++ wsX10)
def wsL_law_r1 : List Cond := [Cond.classLink RL 8 RX2, Cond.instantiable RX2 16, Cond.initialized RX2, Cond.classLink RL 24 RX3, Cond.instantiable RX3 16, Cond.initialized RX3, Cond.arrayClass .long, Cond.methodLink RL 15 yL_cell, Cond.static yL_cell, Cond.initialized RL, Cond.code yL_cell cL_cell 2 (some .int), Cond.methodLink RL 21 yX2_init, Cond.instanceMethod yX2_init, Cond.code yX2_init cX2_init 4 none, Cond.methodLink RX2 3 objectInit, Cond.instanceMethod objectInit, Cond.code objectInit ⟨#[0xb1]⟩ 1 none, Cond.fieldLink RX2 13 "PrinterRows" "lines" "I", Cond.fieldLink RX2 17 "PrinterRows" "columns" "I", Cond.arrayClass .int, Cond.fieldLink RX2 20 "PrinterRows" "channelLines" "[I", Cond.fieldLink RX2 30 "PrinterRows" "printedAs" "[I", Cond.fieldLink RX2 33 "PrinterRows" "record" "[I", Cond.classLink RX2 36 RX0]
def wsL_law_r2 : List Cond := [Cond.fieldLink RX2 38 "PrinterRows" "pages" "[LPrinterRows$Page;", Cond.methodLink RX2 9 yX2_heldTo, Cond.static yX2_heldTo, Cond.code yX2_heldTo cX2_heldTo 2 (some .int), Cond.methodLink RX2 144 Lib.Math.min.name, Cond.static Lib.Math.min.name, Cond.initialized "java/lang/Math", Cond.code Lib.Math.min.name Lib.Math.min.code 2 (some .int), Cond.methodLink RX2 54 Lib.Math.max.name, Cond.static Lib.Math.max.name, Cond.code Lib.Math.max.name Lib.Math.max.code 2 (some .int), Cond.methodLink RX2 24 yJ7_fill_53178, Cond.static yJ7_fill_53178, Cond.initialized RJ7, Cond.code yJ7_fill_53178 cJ7_fill_53178 4 none, Cond.methodLink RL 26 yX3_init, Cond.instanceMethod yX3_init, Cond.code yX3_init cX3_init 4 none, Cond.methodLink RX3 1 objectInit, Cond.constant RX3 7 (348480), Cond.fieldLink RX3 8 "PrinterRowsModel" "signs" "[I", Cond.fieldLink RX3 14 "PrinterRowsModel" "channels" "[I", Cond.fieldLink RX3 17 "PrinterRowsModel" "table" "[I", Cond.fieldLink RX3 20 "PrinterRowsModel" "record" "[I"]
def wsL_law_r3 : List Cond := [Cond.fieldLink RX3 23 "PrinterRowsModel" "tallies" "[I", Cond.fieldLink RX3 26 "PrinterRowsModel" "lines" "I", Cond.fieldLink RX3 30 "PrinterRowsModel" "columns" "I", Cond.methodLink RL 27 yX2_channel, Cond.instanceMethod yX2_channel, Cond.selects RX2 yX2_channel yX2_channel, Cond.code yX2_channel cX2_channel 4 (some .int), Cond.methodLink RX2 42 yX2_isChannel, Cond.static yX2_isChannel, Cond.code yX2_isChannel cX2_isChannel 1 (some .boolean), Cond.methodLink RL 31 yX3_channel, Cond.instanceMethod yX3_channel, Cond.selects RX3 yX3_channel yX3_channel, Cond.code yX3_channel cX3_channel 4 (some .int), Cond.fieldLink RX3 33 "PrinterRowsModel" "thrown" "I", Cond.methodLink RL 32 yX2_sign, Cond.instanceMethod yX2_sign, Cond.selects RX2 yX2_sign yX2_sign, Cond.code yX2_sign cX2_sign 2 none, Cond.fieldLink RX2 46 "PrinterRows" "recordLength" "I", Cond.methodLink RX2 49 yJ9_floorMod_7cf53, Cond.static yJ9_floorMod_7cf53, Cond.initialized RJ9, Cond.code yJ9_floorMod_7cf53 cJ9_floorMod_7cf53 3 (some .int)]
def wsL_law_r4 : List Cond := [Cond.methodLink RL 36 yX3_sign, Cond.instanceMethod yX3_sign, Cond.selects RX3 yX3_sign yX3_sign, Cond.code yX3_sign cX3_sign 2 none, Cond.fieldLink RX3 36 "PrinterRowsModel" "length" "I", Cond.methodLink RL 37 yX2_line, Cond.instanceMethod yX2_line, Cond.selects RX2 yX2_line yX2_line, Cond.code yX2_line cX2_line 4 (some .int), Cond.fieldLink RX2 90 "PrinterRows" "begun" "I", Cond.methodLink RX2 57 yX2_channelOfCode, Cond.static yX2_channelOfCode, Cond.code yX2_channelOfCode cX2_channelOfCode 2 (some .int), Cond.methodLink RX2 61 yX2_wayTo, Cond.instanceMethod yX2_wayTo, Cond.selects RX2 yX2_wayTo yX2_wayTo, Cond.code yX2_wayTo cX2_wayTo 3 (some .int), Cond.fieldLink RX2 129 "PrinterRows" "standLine" "I", Cond.methodLink RX2 64 yX2_linesOfCode, Cond.static yX2_linesOfCode, Cond.code yX2_linesOfCode cX2_linesOfCode 1 (some .int), Cond.methodLink RX2 147 yX2_isPlainSecondKind, Cond.static yX2_isPlainSecondKind, Cond.code yX2_isPlainSecondKind cX2_isPlainSecondKind 1 (some .boolean)]
def wsL_law_r5 : List Cond := [Cond.methodLink RX2 67 yX2_isSecondKind, Cond.static yX2_isSecondKind, Cond.code yX2_isSecondKind cX2_isSecondKind 1 (some .boolean), Cond.methodLink RX2 70 yX2_canPrintHere, Cond.instanceMethod yX2_canPrintHere, Cond.selects RX2 yX2_canPrintHere yX2_canPrintHere, Cond.code yX2_canPrintHere cX2_canPrintHere 1 (some .boolean), Cond.methodLink RX2 154 yX2_standPage, Cond.instanceMethod yX2_standPage, Cond.selects RX2 yX2_standPage yX2_standPage, Cond.code yX2_standPage cX2_standPage 1 (some .int), Cond.fieldLink RX2 150 "PrinterRows" "onBegunPage" "Z", Cond.methodLink RX2 74 yX2_canMove, Cond.instanceMethod yX2_canMove, Cond.selects RX2 yX2_canMove yX2_canMove, Cond.code yX2_canMove cX2_canMove 2 (some .boolean), Cond.methodLink RX2 158 yX2_pageAfter, Cond.instanceMethod yX2_pageAfter, Cond.selects RX2 yX2_pageAfter yX2_pageAfter, Cond.code yX2_pageAfter cX2_pageAfter 2 (some .int), Cond.methodLink RX2 77 yX2_printRecord, Cond.instanceMethod yX2_printRecord, Cond.selects RX2 yX2_printRecord yX2_printRecord, Cond.code yX2_printRecord cX2_printRecord 3 none]
def wsL_law_r6 : List Cond := [Cond.fieldLink RX2 138 "PrinterRows" "signsCut" "I", Cond.fieldLink RX2 132 "PrinterRows" "recordsPrinted" "I", Cond.methodLink RX2 161 yX2_beginPage, Cond.instanceMethod yX2_beginPage, Cond.selects RX2 yX2_beginPage yX2_beginPage, Cond.code yX2_beginPage cX2_beginPage 1 none, Cond.instantiable RX0 2, Cond.initialized RX0, Cond.methodLink RX2 164 yX0_init, Cond.instanceMethod yX0_init, Cond.code yX0_init cX0_init 3 none, Cond.methodLink RX0 3 objectInit, Cond.methodLink RX0 9 Lib.Math.max.name, Cond.classLink RX0 15 RX1, Cond.fieldLink RX0 17 "PrinterRows$Page" "rows" "[LPrinterRows$Row;", Cond.fieldLink RX0 23 "PrinterRows$Page" "columns" "I", Cond.methodLink RX2 116 yX2_addPage, Cond.instanceMethod yX2_addPage, Cond.selects RX2 yX2_addPage yX2_addPage, Cond.code yX2_addPage cX2_addPage 2 none, Cond.methodLink RX2 96 yX2_begunPage, Cond.instanceMethod yX2_begunPage, Cond.selects RX2 yX2_begunPage yX2_begunPage, Cond.code yX2_begunPage cX2_begunPage 2 (some (.object "PrinterRows$Page"))]
def wsL_law_r7 : List Cond := [Cond.methodLink RX2 167 yX2_printSign, Cond.instanceMethod yX2_printSign, Cond.selects RX2 yX2_printSign yX2_printSign, Cond.code yX2_printSign cX2_printSign 5 none, Cond.fieldLink RX2 135 "PrinterRows" "signsPrinted" "I", Cond.methodLink RX2 110 yX2_isSign, Cond.static yX2_isSign, Cond.code yX2_isSign cX2_isSign 1 (some .boolean), Cond.methodLink RX2 171 yX0_join, Cond.instanceMethod yX0_join, Cond.selects RX0 yX0_join yX0_join, Cond.code yX0_join cX0_join 4 none, Cond.instantiable RX1 1, Cond.initialized RX1, Cond.methodLink RX0 27 yX1_init, Cond.instanceMethod yX1_init, Cond.code yX1_init cX1_init 2 none, Cond.methodLink RX1 3 objectInit, Cond.methodLink RX1 9 Lib.Math.max.name, Cond.fieldLink RX1 15 "PrinterRows$Row" "signs" "[I", Cond.methodLink RX1 21 yJ7_fill_53178, Cond.methodLink RX0 30 yX1_joinSign, Cond.instanceMethod yX1_joinSign, Cond.selects RX1 yX1_joinSign yX1_joinSign]
def wsL_law_r8 : List Cond := [Cond.code yX1_joinSign cX1_joinSign 3 none, Cond.static yX2_darker, Cond.code yX2_darker cX2_darker 2 (some .int), Cond.methodLink RX2 80 yX2_moveBy, Cond.instanceMethod yX2_moveBy, Cond.selects RX2 yX2_moveBy yX2_moveBy, Cond.code yX2_moveBy cX2_moveBy 3 none, Cond.methodLink RX2 93 yX2_standOnNewPage, Cond.instanceMethod yX2_standOnNewPage, Cond.selects RX2 yX2_standOnNewPage yX2_standOnNewPage, Cond.code yX2_standOnNewPage cX2_standOnNewPage 1 none, Cond.methodLink RX2 84 yX2_canPrintAfter, Cond.instanceMethod yX2_canPrintAfter, Cond.selects RX2 yX2_canPrintAfter yX2_canPrintAfter, Cond.code yX2_canPrintAfter cX2_canPrintAfter 2 (some .boolean), Cond.methodLink RX2 87 yX2_countSkip, Cond.instanceMethod yX2_countSkip, Cond.selects RX2 yX2_countSkip yX2_countSkip, Cond.code yX2_countSkip cX2_countSkip 2 none, Cond.fieldLink RX2 141 "PrinterRows" "skipsToNoLine" "I", Cond.methodLink RL 41 yX3_line, Cond.instanceMethod yX3_line, Cond.selects RX3 yX3_line yX3_line, Cond.code yX3_line cX3_line 6 (some .int)]
def wsL_law_r9 : List Cond := [Cond.fieldLink RX3 42 "PrinterRowsModel" "trialPages" "I", Cond.fieldLink RX3 48 "PrinterRowsModel" "trialLine" "I", Cond.fieldLink RX3 39 "PrinterRowsModel" "pages" "I", Cond.methodLink RX3 66 yX3_tries, Cond.instanceMethod yX3_tries, Cond.selects RX3 yX3_tries yX3_tries, Cond.code yX3_tries cX3_tries 1 none, Cond.fieldLink RX3 45 "PrinterRowsModel" "at" "I", Cond.fieldLink RX3 51 "PrinterRowsModel" "begun" "Z", Cond.fieldLink RX3 55 "PrinterRowsModel" "trialBegun" "Z", Cond.methodLink RX3 69 yX3_ahead, Cond.instanceMethod yX3_ahead, Cond.selects RX3 yX3_ahead yX3_ahead, Cond.code yX3_ahead cX3_ahead 2 (some .int), Cond.methodLink RX3 62 yX3_way, Cond.instanceMethod yX3_way, Cond.selects RX3 yX3_way yX3_way, Cond.code yX3_way cX3_way 3 (some .int), Cond.methodLink RX3 72 yX3_move, Cond.instanceMethod yX3_move, Cond.selects RX3 yX3_move yX3_move, Cond.code yX3_move cX3_move 3 none, Cond.methodLink RX3 76 yX3_begin, Cond.instanceMethod yX3_begin]
def wsL_law_r10 : List Cond := [Cond.selects RX3 yX3_begin yX3_begin, Cond.code yX3_begin cX3_begin 1 none, Cond.methodLink RX3 79 yX3_channelOf, Cond.static yX3_channelOf, Cond.code yX3_channelOf cX3_channelOf 1 (some .int), Cond.methodLink RX3 82 yX3_settle, Cond.instanceMethod yX3_settle, Cond.selects RX3 yX3_settle yX3_settle, Cond.code yX3_settle cX3_settle 2 none, Cond.methodLink RX3 85 yX3_print, Cond.instanceMethod yX3_print, Cond.selects RX3 yX3_print yX3_print, Cond.code yX3_print cX3_print 6 none, Cond.methodLink RX3 58 yX3_darker, Cond.static yX3_darker, Cond.code yX3_darker cX3_darker 2 (some .int), Cond.methodLink RL 42 yX2_skip, Cond.instanceMethod yX2_skip, Cond.selects RX2 yX2_skip yX2_skip, Cond.code yX2_skip cX2_skip 3 (some .int), Cond.methodLink RL 45 yX3_skip, Cond.instanceMethod yX3_skip, Cond.selects RX3 yX3_skip yX3_skip, Cond.code yX3_skip cX3_skip 3 (some .int)]
def wsL_law_r11 : List Cond := [Cond.methodLink RL 46 yX2_end, Cond.instanceMethod yX2_end, Cond.selects RX2 yX2_end yX2_end, Cond.code yX2_end cX2_end 1 (some .int), Cond.methodLink RL 50 yX3_end, Cond.instanceMethod yX3_end, Cond.selects RX3 yX3_end yX3_end, Cond.code yX3_end cX3_end 1 (some .int), Cond.methodLink RX3 89 yX3_pass, Cond.instanceMethod yX3_pass, Cond.selects RX3 yX3_pass yX3_pass, Cond.code yX3_pass cX3_pass 1 none, Cond.methodLink RL 51 yL_at, Cond.static yL_at, Cond.codeWith yL_at cL_at 6 (some .int) [(0, 12, 15, 13)], Cond.methodLink RL 7 yX2_at, Cond.instanceMethod yX2_at, Cond.selects RX2 yX2_at yX2_at, Cond.code yX2_at cX2_at 5 (some .int), Cond.classLink RX2 100 RJx00060, Cond.instantiable RJx00060 6, Cond.initialized RJx00060, Cond.methodLink RX2 107 yX0_signIn, Cond.instanceMethod yX0_signIn]
def wsL_law_r12 : List Cond := [Cond.selects RX0 yX0_signIn yX0_signIn, Cond.code yX0_signIn cX0_signIn 3 (some .int), Cond.methodLink RX0 34 yX1_signOf, Cond.instanceMethod yX1_signOf, Cond.selects RX1 yX1_signOf yX1_signOf, Cond.code yX1_signOf cX1_signOf 2 (some .int), Cond.methodLink RL 54 yX3_at, Cond.instanceMethod yX3_at, Cond.selects RX3 yX3_at yX3_at, Cond.code yX3_at cX3_at 5 (some .int), Cond.methodLink RL 55 yX3_thrown, Cond.instanceMethod yX3_thrown, Cond.selects RX3 yX3_thrown yX3_thrown, Cond.code yX3_thrown cX3_thrown 1 (some .int), Cond.methodLink RL 58 yX2_over, Cond.instanceMethod yX2_over, Cond.selects RX2 yX2_over yX2_over, Cond.code yX2_over cX2_over 3 (some .int), Cond.methodLink RX2 113 yX2_darker, Cond.methodLink RL 61 yX3_over, Cond.instanceMethod yX3_over, Cond.selects RX3 yX3_over yX3_over, Cond.code yX3_over cX3_over 3 (some .int), Cond.methodLink RX3 92 yX3_isSign]
def wsL_law_r13 : List Cond := [Cond.static yX3_isSign, Cond.code yX3_isSign cX3_isSign 1 (some .boolean), Cond.methodLink RL 62 yX2_translate, Cond.instanceMethod yX2_translate, Cond.selects RX2 yX2_translate yX2_translate, Cond.code yX2_translate cX2_translate 4 (some .int), Cond.methodLink RL 65 yX3_translate, Cond.instanceMethod yX3_translate, Cond.selects RX3 yX3_translate yX3_translate, Cond.code yX3_translate cX3_translate 4 (some .int), Cond.methodLink RL 66 yX2_copies, Cond.instanceMethod yX2_copies, Cond.selects RX2 yX2_copies yX2_copies, Cond.code yX2_copies cX2_copies 6 (some .int), Cond.methodLink RL 69 yX3_copies, Cond.instanceMethod yX3_copies, Cond.selects RX3 yX3_copies yX3_copies, Cond.code yX3_copies cX3_copies 6 (some .int), Cond.methodLink RL 70 yX2_back, Cond.instanceMethod yX2_back, Cond.selects RX2 yX2_back yX2_back, Cond.code yX2_back cX2_back 3 (some .int), Cond.methodLink RX2 120 yX2_takeLastPage, Cond.instanceMethod yX2_takeLastPage]
def wsL_law_r14 : List Cond := [Cond.selects RX2 yX2_takeLastPage yX2_takeLastPage, Cond.code yX2_takeLastPage cX2_takeLastPage 1 none, Cond.methodLink RL 73 yX3_back, Cond.instanceMethod yX3_back, Cond.selects RX3 yX3_back yX3_back, Cond.code yX3_back cX3_back 2 (some .int), Cond.methodLink RL 74 yX2_forms, Cond.instanceMethod yX2_forms, Cond.selects RX2 yX2_forms yX2_forms, Cond.code yX2_forms cX2_forms 2 (some .int), Cond.fieldLink RX2 123 "PrinterRows" "mountedKind" "I", Cond.fieldLink RX2 126 "PrinterRows" "formsAskedFor" "I", Cond.methodLink RL 77 yX3_forms, Cond.instanceMethod yX3_forms, Cond.selects RX3 yX3_forms yX3_forms, Cond.code yX3_forms cX3_forms 2 (some .int), Cond.fieldLink RX3 96 "PrinterRowsModel" "mounted" "I", Cond.methodLink RL 78 yX2_tally, Cond.instanceMethod yX2_tally, Cond.selects RX2 yX2_tally yX2_tally, Cond.code yX2_tally cX2_tally 2 (some .int), Cond.methodLink RL 81 yX3_tally, Cond.instanceMethod yX3_tally, Cond.selects RX3 yX3_tally yX3_tally]
def wsL_law_r15 : List Cond := [Cond.code yX3_tally cX3_tally 2 (some .int)]
def wsL_law : List Cond := (wsL_law_r1 ++ (wsL_law_r2 ++ (wsL_law_r3 ++ (wsL_law_r4 ++ (wsL_law_r5 ++ (wsL_law_r6 ++ (wsL_law_r7 ++ (wsL_law_r8 ++ (wsL_law_r9 ++ (wsL_law_r10 ++ (wsL_law_r11 ++ (wsL_law_r12 ++ (wsL_law_r13 ++ (wsL_law_r14 ++ wsL_law_r15)))))))))))))) ++ wsX20 ++ wsX30 ++ wsX00 ++ wsX10 ++ wsJx000600 ++ ([] : List Cond)
set_option maxRecDepth 20000 in
theorem wsL_law_in : ∀ w ∈ wsL_law, w ∈ lw_tbl := fun w h => (goodIn_p wsL_law [273, 40, 43, 46, 49, 52, 55, 365, 111, 114, 424, 118, 121, 428, 125, 128, 132, 135, 138, 141, 145, 149, 153, 157, 161, 165, 169, 184, 188, 192, 195, 199, 203, 214, 217, 221, 225, 229, 233, 432, 436, 440, 444, 448, 452, 455, 459, 463, 466, 237, 470, 241, 474, 478, 281, 356, 360, 482, 420, 245, 486, 489, 250, 493, 254, 497, 258, 262, 501, 266, 505, 270, 509] (by decide +kernel) (by decide +kernel) w h).1
theorem inlX0 : ∀ w ∈ wsX00, w ∈ wsL_law := fun _ h => List.mem_append_left _ (List.mem_append_left _ (List.mem_append_left _ (List.mem_append_right _ h)))
theorem inX0 : ∀ w ∈ wsX00, w ∈ lw_tbl := fun w h => wsL_law_in w (inlX0 w h)
theorem inlX1 : ∀ w ∈ wsX10, w ∈ wsL_law := fun _ h => List.mem_append_left _ (List.mem_append_left _ (List.mem_append_right _ h))
theorem inX1 : ∀ w ∈ wsX10, w ∈ lw_tbl := fun w h => wsL_law_in w (inlX1 w h)
theorem inlX2 : ∀ w ∈ wsX20, w ∈ wsL_law := fun _ h => List.mem_append_left _ (List.mem_append_left _ (List.mem_append_left _ (List.mem_append_left _ (List.mem_append_left _ (List.mem_append_right _ h)))))
theorem inX2 : ∀ w ∈ wsX20, w ∈ lw_tbl := fun w h => wsL_law_in w (inlX2 w h)
theorem inlX3 : ∀ w ∈ wsX30, w ∈ wsL_law := fun _ h => List.mem_append_left _ (List.mem_append_left _ (List.mem_append_left _ (List.mem_append_left _ (List.mem_append_right _ h))))
theorem inX3 : ∀ w ∈ wsX30, w ∈ lw_tbl := fun w h => wsL_law_in w (inlX3 w h)
theorem inlJx00060 : ∀ w ∈ wsJx000600, w ∈ wsL_law := fun _ h => List.mem_append_left _ (List.mem_append_right _ h)
theorem inJx00060 : ∀ w ∈ wsJx000600, w ∈ lw_tbl := fun w h => wsL_law_in w (inlJx00060 w h)
theorem inJ9 : ∀ w ∈ wsJ90, w ∈ lw_tbl := by decide +kernel
theorem inJ0 : ∀ w ∈ wsJ00, w ∈ lw_tbl := by decide +kernel
theorem inJ7 : ∀ w ∈ wsJ70, w ∈ lw_tbl := by decide +kernel
abbrev vwCl : List vw_C := [(RJx00060, TJx00060, 6), (RX0, TX0, 2), (RX1, TX1, 1), (RX2, TX2, 16), (RX3, TX3, 16)]
end
section
theorem dX0_init_0 : decode cX0_init 0 = .ok (.aload_n 0, 1) := by decide +kernel
theorem dX0_init_1 : decode cX0_init 1 = .ok (.invokespecial 3, 3) := by decide +kernel
theorem dX0_init_4 : decode cX0_init 4 = .ok (.aload_n 0, 1) := by decide +kernel
theorem dX0_init_5 : decode cX0_init 5 = .ok (.iconst 0, 1) := by decide +kernel
theorem dX0_init_6 : decode cX0_init 6 = .ok (.iload_n 1, 1) := by decide +kernel
theorem dX0_init_7 : decode cX0_init 7 = .ok (.invokestatic 9, 3) := by decide +kernel
theorem dX0_init_10 : decode cX0_init 10 = .ok (.anewarray 15, 3) := by decide +kernel
theorem dX0_init_13 : decode cX0_init 13 = .ok (.putfield 17, 3) := by decide +kernel
theorem dX0_init_16 : decode cX0_init 16 = .ok (.aload_n 0, 1) := by decide +kernel
theorem dX0_init_17 : decode cX0_init 17 = .ok (.iload_n 2, 1) := by decide +kernel
theorem dX0_init_18 : decode cX0_init 18 = .ok (.putfield 23, 3) := by decide +kernel
theorem dX0_init_21 : decode cX0_init 21 = .ok (.return_, 1) := by decide +kernel
set_option maxRecDepth 20000 in
theorem ggX0_join_X1_init : GoodIn wsX0_join wsX1_init := goodIn_r _ [8, 9, 10, 11, 12, 13, 14, 15, 16, 17, 18, 19, 20, 21, 32] (by decide +kernel) (by decide +kernel)
set_option maxRecDepth 20000 in
theorem gX0_join_X1_init : GoodIn wsX0_join (wsX1_init) := ggX0_join_X1_init
set_option maxRecDepth 20000 in
theorem ggX0_join_X1_joinSign : GoodIn wsX0_join wsX1_joinSign := goodIn_r _ [25, 17, 26, 27, 28, 29, 13, 14, 15, 32] (by decide +kernel) (by decide +kernel)
set_option maxRecDepth 20000 in
theorem gX0_join_X1_joinSign : GoodIn wsX0_join (wsV RX0 30 RX1 yX1_joinSign wsX1_joinSign) := goodIn_app (goodIn_of _ (by decide +kernel)) ggX0_join_X1_joinSign
theorem dX0_join_0 : decode cX0_join 0 = .ok (.iload_n 1, 1) := by decide +kernel
theorem dX0_join_1 : decode cX0_join 1 = .ok (.ifCond .lt 12, 3) := by decide +kernel
theorem dX0_join_4 : decode cX0_join 4 = .ok (.iload_n 1, 1) := by decide +kernel
theorem dX0_join_5 : decode cX0_join 5 = .ok (.aload_n 0, 1) := by decide +kernel
theorem dX0_join_6 : decode cX0_join 6 = .ok (.getfield 17, 3) := by decide +kernel
theorem dX0_join_9 : decode cX0_join 9 = .ok (.arraylength, 1) := by decide +kernel
theorem dX0_join_10 : decode cX0_join 10 = .ok (.if_icmp .lt 4, 3) := by decide +kernel
theorem dX0_join_13 : decode cX0_join 13 = .ok (.return_, 1) := by decide +kernel
theorem dX0_join_14 : decode cX0_join 14 = .ok (.aload_n 0, 1) := by decide +kernel
theorem dX0_join_15 : decode cX0_join 15 = .ok (.getfield 17, 3) := by decide +kernel
theorem dX0_join_18 : decode cX0_join 18 = .ok (.iload_n 1, 1) := by decide +kernel
theorem dX0_join_19 : decode cX0_join 19 = .ok (.aaload, 1) := by decide +kernel
theorem dX0_join_20 : decode cX0_join 20 = .ok (.ifnonnull 20, 3) := by decide +kernel
theorem dX0_join_23 : decode cX0_join 23 = .ok (.aload_n 0, 1) := by decide +kernel
theorem dX0_join_24 : decode cX0_join 24 = .ok (.getfield 17, 3) := by decide +kernel
theorem dX0_join_27 : decode cX0_join 27 = .ok (.iload_n 1, 1) := by decide +kernel
theorem dX0_join_28 : decode cX0_join 28 = .ok (.new 15, 3) := by decide +kernel
theorem dX0_join_31 : decode cX0_join 31 = .ok (.dup, 1) := by decide +kernel
theorem dX0_join_32 : decode cX0_join 32 = .ok (.aload_n 0, 1) := by decide +kernel
theorem dX0_join_33 : decode cX0_join 33 = .ok (.getfield 23, 3) := by decide +kernel
theorem dX0_join_36 : decode cX0_join 36 = .ok (.invokespecial 27, 3) := by decide +kernel
theorem dX0_join_39 : decode cX0_join 39 = .ok (.aastore, 1) := by decide +kernel
theorem dX0_join_40 : decode cX0_join 40 = .ok (.aload_n 0, 1) := by decide +kernel
theorem dX0_join_41 : decode cX0_join 41 = .ok (.getfield 17, 3) := by decide +kernel
theorem dX0_join_44 : decode cX0_join 44 = .ok (.iload_n 1, 1) := by decide +kernel
theorem dX0_join_45 : decode cX0_join 45 = .ok (.aaload, 1) := by decide +kernel
theorem dX0_join_46 : decode cX0_join 46 = .ok (.iload_n 2, 1) := by decide +kernel
theorem dX0_join_47 : decode cX0_join 47 = .ok (.iload_n 3, 1) := by decide +kernel
theorem dX0_join_48 : decode cX0_join 48 = .ok (.invokevirtual 30, 3) := by decide +kernel
theorem dX0_join_51 : decode cX0_join 51 = .ok (.return_, 1) := by decide +kernel
set_option maxRecDepth 20000 in
theorem ggX0_signIn_X1_signOf : GoodIn wsX0_signIn wsX1_signOf := goodIn_r _ [6, 7, 10] (by decide +kernel) (by decide +kernel)
set_option maxRecDepth 20000 in
theorem gX0_signIn_X1_signOf : GoodIn wsX0_signIn (wsV RX0 34 RX1 yX1_signOf wsX1_signOf) := goodIn_app (goodIn_of _ (by decide +kernel)) ggX0_signIn_X1_signOf
theorem dX0_signIn_0 : decode cX0_signIn 0 = .ok (.iload_n 1, 1) := by decide +kernel
theorem dX0_signIn_1 : decode cX0_signIn 1 = .ok (.ifCond .lt 21, 3) := by decide +kernel
theorem dX0_signIn_4 : decode cX0_signIn 4 = .ok (.iload_n 1, 1) := by decide +kernel
theorem dX0_signIn_5 : decode cX0_signIn 5 = .ok (.aload_n 0, 1) := by decide +kernel
theorem dX0_signIn_6 : decode cX0_signIn 6 = .ok (.getfield 17, 3) := by decide +kernel
theorem dX0_signIn_9 : decode cX0_signIn 9 = .ok (.arraylength, 1) := by decide +kernel
theorem dX0_signIn_10 : decode cX0_signIn 10 = .ok (.if_icmp .ge 12, 3) := by decide +kernel
theorem dX0_signIn_13 : decode cX0_signIn 13 = .ok (.aload_n 0, 1) := by decide +kernel
theorem dX0_signIn_14 : decode cX0_signIn 14 = .ok (.getfield 17, 3) := by decide +kernel
theorem dX0_signIn_17 : decode cX0_signIn 17 = .ok (.iload_n 1, 1) := by decide +kernel
theorem dX0_signIn_18 : decode cX0_signIn 18 = .ok (.aaload, 1) := by decide +kernel
theorem dX0_signIn_19 : decode cX0_signIn 19 = .ok (.ifnonnull 6, 3) := by decide +kernel
theorem dX0_signIn_22 : decode cX0_signIn 22 = .ok (.bipush 32, 2) := by decide +kernel
theorem dX0_signIn_24 : decode cX0_signIn 24 = .ok (.ireturn, 1) := by decide +kernel
theorem dX0_signIn_25 : decode cX0_signIn 25 = .ok (.aload_n 0, 1) := by decide +kernel
theorem dX0_signIn_26 : decode cX0_signIn 26 = .ok (.getfield 17, 3) := by decide +kernel
theorem dX0_signIn_29 : decode cX0_signIn 29 = .ok (.iload_n 1, 1) := by decide +kernel
theorem dX0_signIn_30 : decode cX0_signIn 30 = .ok (.aaload, 1) := by decide +kernel
theorem dX0_signIn_31 : decode cX0_signIn 31 = .ok (.iload_n 2, 1) := by decide +kernel
theorem dX0_signIn_32 : decode cX0_signIn 32 = .ok (.invokevirtual 34, 3) := by decide +kernel
theorem dX0_signIn_35 : decode cX0_signIn 35 = .ok (.ireturn, 1) := by decide +kernel
set_option maxRecDepth 20000 in
theorem ggX1_init_J7_fill_53178 : GoodIn wsX1_init wsJ7_fill_53178 := goodIn_r _ [13] (by decide +kernel) (by decide +kernel)
set_option maxRecDepth 20000 in
theorem gX1_init_J7_fill_53178 : GoodIn wsX1_init (va_wsS RX1 21 yJ7_fill_53178 wsJ7_fill_53178) := goodIn_app (goodIn_of _ (by decide +kernel)) ggX1_init_J7_fill_53178
theorem dX1_init_0 : decode cX1_init 0 = .ok (.aload_n 0, 1) := by decide +kernel
theorem dX1_init_1 : decode cX1_init 1 = .ok (.invokespecial 3, 3) := by decide +kernel
theorem dX1_init_4 : decode cX1_init 4 = .ok (.aload_n 0, 1) := by decide +kernel
theorem dX1_init_5 : decode cX1_init 5 = .ok (.iconst 0, 1) := by decide +kernel
theorem dX1_init_6 : decode cX1_init 6 = .ok (.iload_n 1, 1) := by decide +kernel
theorem dX1_init_7 : decode cX1_init 7 = .ok (.invokestatic 9, 3) := by decide +kernel
theorem dX1_init_10 : decode cX1_init 10 = .ok (.newarray .int, 2) := by decide +kernel
theorem dX1_init_12 : decode cX1_init 12 = .ok (.putfield 15, 3) := by decide +kernel
theorem dX1_init_15 : decode cX1_init 15 = .ok (.aload_n 0, 1) := by decide +kernel
theorem dX1_init_16 : decode cX1_init 16 = .ok (.getfield 15, 3) := by decide +kernel
theorem dX1_init_19 : decode cX1_init 19 = .ok (.bipush 32, 2) := by decide +kernel
theorem dX1_init_21 : decode cX1_init 21 = .ok (.invokestatic 21, 3) := by decide +kernel
theorem dX1_init_24 : decode cX1_init 24 = .ok (.return_, 1) := by decide +kernel
set_option maxRecDepth 20000 in
theorem ggX1_joinSign_X2_darker : GoodIn wsX1_joinSign wsX2_darker := goodIn_r _ [4, 5, 6, 7, 8] (by decide +kernel) (by decide +kernel)
set_option maxRecDepth 20000 in
theorem gX1_joinSign_X2_darker_n27 : GoodIn wsX1_joinSign (wsX2_darker) := ggX1_joinSign_X2_darker
theorem dX1_joinSign_0 : decode cX1_joinSign 0 = .ok (.iload_n 1, 1) := by decide +kernel
theorem dX1_joinSign_1 : decode cX1_joinSign 1 = .ok (.ifCond .lt 28, 3) := by decide +kernel
theorem dX1_joinSign_4 : decode cX1_joinSign 4 = .ok (.iload_n 1, 1) := by decide +kernel
theorem dX1_joinSign_5 : decode cX1_joinSign 5 = .ok (.aload_n 0, 1) := by decide +kernel
theorem dX1_joinSign_6 : decode cX1_joinSign 6 = .ok (.getfield 15, 3) := by decide +kernel
theorem dX1_joinSign_9 : decode cX1_joinSign 9 = .ok (.arraylength, 1) := by decide +kernel
theorem dX1_joinSign_10 : decode cX1_joinSign 10 = .ok (.if_icmp .ge 19, 3) := by decide +kernel
theorem dX1_joinSign_13 : decode cX1_joinSign 13 = .ok (.aload_n 0, 1) := by decide +kernel
theorem dX1_joinSign_14 : decode cX1_joinSign 14 = .ok (.getfield 15, 3) := by decide +kernel
theorem dX1_joinSign_17 : decode cX1_joinSign 17 = .ok (.iload_n 1, 1) := by decide +kernel
theorem dX1_joinSign_18 : decode cX1_joinSign 18 = .ok (.aload_n 0, 1) := by decide +kernel
theorem dX1_joinSign_19 : decode cX1_joinSign 19 = .ok (.getfield 15, 3) := by decide +kernel
theorem dX1_joinSign_22 : decode cX1_joinSign 22 = .ok (.iload_n 1, 1) := by decide +kernel
theorem dX1_joinSign_23 : decode cX1_joinSign 23 = .ok (.iaload, 1) := by decide +kernel
theorem dX1_joinSign_24 : decode cX1_joinSign 24 = .ok (.iload_n 2, 1) := by decide +kernel
theorem dX1_joinSign_25 : decode cX1_joinSign 25 = .ok (.invokestatic 27, 3) := by decide +kernel
theorem dX1_joinSign_28 : decode cX1_joinSign 28 = .ok (.iastore, 1) := by decide +kernel
theorem dX1_joinSign_29 : decode cX1_joinSign 29 = .ok (.return_, 1) := by decide +kernel
theorem dX1_signOf_0 : decode cX1_signOf 0 = .ok (.iload_n 1, 1) := by decide +kernel
theorem dX1_signOf_1 : decode cX1_signOf 1 = .ok (.ifCond .lt 21, 3) := by decide +kernel
theorem dX1_signOf_4 : decode cX1_signOf 4 = .ok (.iload_n 1, 1) := by decide +kernel
theorem dX1_signOf_5 : decode cX1_signOf 5 = .ok (.aload_n 0, 1) := by decide +kernel
theorem dX1_signOf_6 : decode cX1_signOf 6 = .ok (.getfield 15, 3) := by decide +kernel
theorem dX1_signOf_9 : decode cX1_signOf 9 = .ok (.arraylength, 1) := by decide +kernel
theorem dX1_signOf_10 : decode cX1_signOf 10 = .ok (.if_icmp .ge 12, 3) := by decide +kernel
theorem dX1_signOf_13 : decode cX1_signOf 13 = .ok (.aload_n 0, 1) := by decide +kernel
theorem dX1_signOf_14 : decode cX1_signOf 14 = .ok (.getfield 15, 3) := by decide +kernel
theorem dX1_signOf_17 : decode cX1_signOf 17 = .ok (.iload_n 1, 1) := by decide +kernel
theorem dX1_signOf_18 : decode cX1_signOf 18 = .ok (.iaload, 1) := by decide +kernel
theorem dX1_signOf_19 : decode cX1_signOf 19 = .ok (.goto 5, 3) := by decide +kernel
theorem dX1_signOf_22 : decode cX1_signOf 22 = .ok (.bipush 32, 2) := by decide +kernel
theorem dX1_signOf_24 : decode cX1_signOf 24 = .ok (.ireturn, 1) := by decide +kernel
set_option maxRecDepth 20000 in
theorem ggX2_init_X2_heldTo : GoodIn wsX2_init wsX2_heldTo := goodIn_r _ [15, 16, 17, 18, 19, 20, 21, 22] (by decide +kernel) (by decide +kernel)
set_option maxRecDepth 20000 in
theorem gX2_init_X2_heldTo : GoodIn wsX2_init (va_wsS RX2 9 yX2_heldTo wsX2_heldTo) := goodIn_app (goodIn_of _ (by decide +kernel)) ggX2_init_X2_heldTo
set_option maxRecDepth 20000 in
theorem ggX2_init_J7_fill_53178 : GoodIn wsX2_init wsJ7_fill_53178 := goodIn_r _ [26] (by decide +kernel) (by decide +kernel)
set_option maxRecDepth 20000 in
theorem gX2_init_J7_fill_53178 : GoodIn wsX2_init (va_wsS RX2 24 yJ7_fill_53178 wsJ7_fill_53178) := goodIn_app (goodIn_of _ (by decide +kernel)) ggX2_init_J7_fill_53178
theorem dX2_init_0 : decode cX2_init 0 = .ok (.aload_n 0, 1) := by decide +kernel
theorem dX2_init_1 : decode cX2_init 1 = .ok (.invokespecial 3, 3) := by decide +kernel
theorem dX2_init_4 : decode cX2_init 4 = .ok (.aload_n 0, 1) := by decide +kernel
theorem dX2_init_5 : decode cX2_init 5 = .ok (.iload_n 1, 1) := by decide +kernel
theorem dX2_init_6 : decode cX2_init 6 = .ok (.bipush 66, 2) := by decide +kernel
theorem dX2_init_8 : decode cX2_init 8 = .ok (.invokestatic 9, 3) := by decide +kernel
theorem dX2_init_11 : decode cX2_init 11 = .ok (.putfield 13, 3) := by decide +kernel
theorem dX2_init_14 : decode cX2_init 14 = .ok (.aload_n 0, 1) := by decide +kernel
theorem dX2_init_15 : decode cX2_init 15 = .ok (.iload_n 2, 1) := by decide +kernel
theorem dX2_init_16 : decode cX2_init 16 = .ok (.sipush 132, 3) := by decide +kernel
theorem dX2_init_19 : decode cX2_init 19 = .ok (.invokestatic 9, 3) := by decide +kernel
theorem dX2_init_22 : decode cX2_init 22 = .ok (.putfield 17, 3) := by decide +kernel
theorem dX2_init_25 : decode cX2_init 25 = .ok (.aload_n 0, 1) := by decide +kernel
theorem dX2_init_26 : decode cX2_init 26 = .ok (.bipush 13, 2) := by decide +kernel
theorem dX2_init_28 : decode cX2_init 28 = .ok (.newarray .int, 2) := by decide +kernel
theorem dX2_init_30 : decode cX2_init 30 = .ok (.putfield 20, 3) := by decide +kernel
theorem dX2_init_33 : decode cX2_init 33 = .ok (.aload_n 0, 1) := by decide +kernel
theorem dX2_init_34 : decode cX2_init 34 = .ok (.getfield 20, 3) := by decide +kernel
theorem dX2_init_37 : decode cX2_init 37 = .ok (.iconst (-1), 1) := by decide +kernel
theorem dX2_init_38 : decode cX2_init 38 = .ok (.invokestatic 24, 3) := by decide +kernel
theorem dX2_init_41 : decode cX2_init 41 = .ok (.aload_n 0, 1) := by decide +kernel
theorem dX2_init_42 : decode cX2_init 42 = .ok (.sipush 256, 3) := by decide +kernel
theorem dX2_init_45 : decode cX2_init 45 = .ok (.newarray .int, 2) := by decide +kernel
theorem dX2_init_47 : decode cX2_init 47 = .ok (.putfield 30, 3) := by decide +kernel
theorem dX2_init_50 : decode cX2_init 50 = .ok (.iconst 0, 1) := by decide +kernel
theorem dX2_init_51 : decode cX2_init 51 = .ok (.istore_n 3, 1) := by decide +kernel
theorem dX2_init_52 : decode cX2_init 52 = .ok (.iload_n 3, 1) := by decide +kernel
theorem dX2_init_53 : decode cX2_init 53 = .ok (.sipush 256, 3) := by decide +kernel
theorem dX2_init_56 : decode cX2_init 56 = .ok (.if_icmp .ge 16, 3) := by decide +kernel
theorem dX2_init_59 : decode cX2_init 59 = .ok (.aload_n 0, 1) := by decide +kernel
theorem dX2_init_60 : decode cX2_init 60 = .ok (.getfield 30, 3) := by decide +kernel
theorem dX2_init_63 : decode cX2_init 63 = .ok (.iload_n 3, 1) := by decide +kernel
theorem dX2_init_64 : decode cX2_init 64 = .ok (.iload_n 3, 1) := by decide +kernel
theorem dX2_init_65 : decode cX2_init 65 = .ok (.iastore, 1) := by decide +kernel
theorem dX2_init_66 : decode cX2_init 66 = .ok (.iinc 3 1, 3) := by decide +kernel
theorem dX2_init_69 : decode cX2_init 69 = .ok (.goto (-17), 3) := by decide +kernel
theorem dX2_init_72 : decode cX2_init 72 = .ok (.aload_n 0, 1) := by decide +kernel
theorem dX2_init_73 : decode cX2_init 73 = .ok (.sipush 200, 3) := by decide +kernel
theorem dX2_init_76 : decode cX2_init 76 = .ok (.newarray .int, 2) := by decide +kernel
theorem dX2_init_78 : decode cX2_init 78 = .ok (.putfield 33, 3) := by decide +kernel
theorem dX2_init_81 : decode cX2_init 81 = .ok (.aload_n 0, 1) := by decide +kernel
theorem dX2_init_82 : decode cX2_init 82 = .ok (.bipush 40, 2) := by decide +kernel
theorem dX2_init_84 : decode cX2_init 84 = .ok (.anewarray 36, 3) := by decide +kernel
theorem dX2_init_87 : decode cX2_init 87 = .ok (.putfield 38, 3) := by decide +kernel
theorem dX2_init_90 : decode cX2_init 90 = .ok (.return_, 1) := by decide +kernel
set_option maxRecDepth 20000 in
theorem ggX2_channel_X2_isChannel : GoodIn wsX2_channel wsX2_isChannel := goodIn_r _ [6] (by decide +kernel) (by decide +kernel)
set_option maxRecDepth 20000 in
theorem gX2_channel_X2_isChannel : GoodIn wsX2_channel (va_wsS RX2 42 yX2_isChannel wsX2_isChannel) := goodIn_app (goodIn_of _ (by decide +kernel)) ggX2_channel_X2_isChannel
theorem dX2_channel_0 : decode cX2_channel 0 = .ok (.iload_n 1, 1) := by decide +kernel
theorem dX2_channel_1 : decode cX2_channel 1 = .ok (.invokestatic 42, 3) := by decide +kernel
theorem dX2_channel_4 : decode cX2_channel 4 = .ok (.ifCond .eq 16, 3) := by decide +kernel
theorem dX2_channel_7 : decode cX2_channel 7 = .ok (.iload_n 2, 1) := by decide +kernel
theorem dX2_channel_8 : decode cX2_channel 8 = .ok (.iconst (-1), 1) := by decide +kernel
theorem dX2_channel_9 : decode cX2_channel 9 = .ok (.if_icmp .lt 11, 3) := by decide +kernel
theorem dX2_channel_12 : decode cX2_channel 12 = .ok (.iload_n 2, 1) := by decide +kernel
theorem dX2_channel_13 : decode cX2_channel 13 = .ok (.aload_n 0, 1) := by decide +kernel
theorem dX2_channel_14 : decode cX2_channel 14 = .ok (.getfield 13, 3) := by decide +kernel
theorem dX2_channel_17 : decode cX2_channel 17 = .ok (.if_icmp .lt 6, 3) := by decide +kernel
theorem dX2_channel_20 : decode cX2_channel 20 = .ok (.bipush (-2), 2) := by decide +kernel
theorem dX2_channel_22 : decode cX2_channel 22 = .ok (.ireturn, 1) := by decide +kernel
theorem dX2_channel_23 : decode cX2_channel 23 = .ok (.aload_n 0, 1) := by decide +kernel
theorem dX2_channel_24 : decode cX2_channel 24 = .ok (.getfield 20, 3) := by decide +kernel
theorem dX2_channel_27 : decode cX2_channel 27 = .ok (.iload_n 1, 1) := by decide +kernel
theorem dX2_channel_28 : decode cX2_channel 28 = .ok (.iaload, 1) := by decide +kernel
theorem dX2_channel_29 : decode cX2_channel 29 = .ok (.istore_n 3, 1) := by decide +kernel
theorem dX2_channel_30 : decode cX2_channel 30 = .ok (.aload_n 0, 1) := by decide +kernel
theorem dX2_channel_31 : decode cX2_channel 31 = .ok (.getfield 20, 3) := by decide +kernel
theorem dX2_channel_34 : decode cX2_channel 34 = .ok (.iload_n 1, 1) := by decide +kernel
theorem dX2_channel_35 : decode cX2_channel 35 = .ok (.iload_n 2, 1) := by decide +kernel
theorem dX2_channel_36 : decode cX2_channel 36 = .ok (.iastore, 1) := by decide +kernel
theorem dX2_channel_37 : decode cX2_channel 37 = .ok (.iload_n 3, 1) := by decide +kernel
theorem dX2_channel_38 : decode cX2_channel 38 = .ok (.ireturn, 1) := by decide +kernel
set_option maxRecDepth 20000 in
theorem ggX2_sign_J9_floorMod_7cf53 : GoodIn wsX2_sign wsJ9_floorMod_7cf53 := goodIn_r _ [10] (by decide +kernel) (by decide +kernel)
set_option maxRecDepth 20000 in
theorem gX2_sign_J9_floorMod_7cf53 : GoodIn wsX2_sign (va_wsS RX2 49 yJ9_floorMod_7cf53 wsJ9_floorMod_7cf53) := goodIn_app (goodIn_of _ (by decide +kernel)) ggX2_sign_J9_floorMod_7cf53
theorem dX2_sign_0 : decode cX2_sign 0 = .ok (.aload_n 0, 1) := by decide +kernel
theorem dX2_sign_1 : decode cX2_sign 1 = .ok (.getfield 46, 3) := by decide +kernel
theorem dX2_sign_4 : decode cX2_sign 4 = .ok (.ifCond .lt 15, 3) := by decide +kernel
theorem dX2_sign_7 : decode cX2_sign 7 = .ok (.aload_n 0, 1) := by decide +kernel
theorem dX2_sign_8 : decode cX2_sign 8 = .ok (.getfield 46, 3) := by decide +kernel
theorem dX2_sign_11 : decode cX2_sign 11 = .ok (.aload_n 0, 1) := by decide +kernel
theorem dX2_sign_12 : decode cX2_sign 12 = .ok (.getfield 33, 3) := by decide +kernel
theorem dX2_sign_15 : decode cX2_sign 15 = .ok (.arraylength, 1) := by decide +kernel
theorem dX2_sign_16 : decode cX2_sign 16 = .ok (.if_icmp .lt 4, 3) := by decide +kernel
theorem dX2_sign_19 : decode cX2_sign 19 = .ok (.return_, 1) := by decide +kernel
theorem dX2_sign_20 : decode cX2_sign 20 = .ok (.aload_n 0, 1) := by decide +kernel
theorem dX2_sign_21 : decode cX2_sign 21 = .ok (.getfield 33, 3) := by decide +kernel
theorem dX2_sign_24 : decode cX2_sign 24 = .ok (.aload_n 0, 1) := by decide +kernel
theorem dX2_sign_25 : decode cX2_sign 25 = .ok (.getfield 46, 3) := by decide +kernel
theorem dX2_sign_28 : decode cX2_sign 28 = .ok (.bipush 32, 2) := by decide +kernel
theorem dX2_sign_30 : decode cX2_sign 30 = .ok (.iload_n 1, 1) := by decide +kernel
theorem dX2_sign_31 : decode cX2_sign 31 = .ok (.sipush 256, 3) := by decide +kernel
theorem dX2_sign_34 : decode cX2_sign 34 = .ok (.invokestatic 49, 3) := by decide +kernel
theorem dX2_sign_37 : decode cX2_sign 37 = .ok (.invokestatic 54, 3) := by decide +kernel
theorem dX2_sign_40 : decode cX2_sign 40 = .ok (.iastore, 1) := by decide +kernel
theorem dX2_sign_41 : decode cX2_sign 41 = .ok (.aload_n 0, 1) := by decide +kernel
theorem dX2_sign_42 : decode cX2_sign 42 = .ok (.dup, 1) := by decide +kernel
theorem dX2_sign_43 : decode cX2_sign 43 = .ok (.getfield 46, 3) := by decide +kernel
theorem dX2_sign_46 : decode cX2_sign 46 = .ok (.iconst 1, 1) := by decide +kernel
theorem dX2_sign_47 : decode cX2_sign 47 = .ok (.iadd, 1) := by decide +kernel
theorem dX2_sign_48 : decode cX2_sign 48 = .ok (.putfield 46, 3) := by decide +kernel
theorem dX2_sign_51 : decode cX2_sign 51 = .ok (.return_, 1) := by decide +kernel
set_option maxRecDepth 20000 in
theorem ggX2_line_X2_channelOfCode : GoodIn wsX2_line wsX2_channelOfCode := goodIn_r _ [5, 6, 7, 4, 8] (by decide +kernel) (by decide +kernel)
set_option maxRecDepth 20000 in
theorem gX2_line_X2_channelOfCode : GoodIn wsX2_line (va_wsS RX2 57 yX2_channelOfCode wsX2_channelOfCode) := goodIn_app (goodIn_of _ (by decide +kernel)) ggX2_line_X2_channelOfCode
set_option maxRecDepth 20000 in
theorem ggX2_line_X2_isChannel : GoodIn wsX2_line wsX2_isChannel := goodIn_r _ [8] (by decide +kernel) (by decide +kernel)
set_option maxRecDepth 20000 in
theorem gX2_line_X2_isChannel : GoodIn wsX2_line (va_wsS RX2 42 yX2_isChannel wsX2_isChannel) := goodIn_app (goodIn_of _ (by decide +kernel)) ggX2_line_X2_isChannel
set_option maxRecDepth 20000 in
theorem ggX2_line_X2_wayTo : GoodIn wsX2_line wsX2_wayTo := goodIn_r _ [12, 13, 14, 15, 6, 7, 4, 8, 130, 131, 132, 133, 134, 135, 136, 137, 138, 139, 140, 141, 142, 143, 144, 145] (by decide +kernel) (by decide +kernel)
set_option maxRecDepth 20000 in
theorem gX2_line_X2_wayTo : GoodIn wsX2_line (wsV RX2 61 RX2 yX2_wayTo wsX2_wayTo) := goodIn_app (goodIn_of _ (by decide +kernel)) ggX2_line_X2_wayTo
set_option maxRecDepth 20000 in
theorem ggX2_line_X2_linesOfCode : GoodIn wsX2_line wsX2_linesOfCode := goodIn_r _ [18, 19, 20, 4, 21] (by decide +kernel) (by decide +kernel)
set_option maxRecDepth 20000 in
theorem gX2_line_X2_linesOfCode : GoodIn wsX2_line (va_wsS RX2 64 yX2_linesOfCode wsX2_linesOfCode) := goodIn_app (goodIn_of _ (by decide +kernel)) ggX2_line_X2_linesOfCode
set_option maxRecDepth 20000 in
theorem ggX2_line_X2_isSecondKind : GoodIn wsX2_line wsX2_isSecondKind := goodIn_r _ [24, 19, 20, 4, 21, 6, 7, 8] (by decide +kernel) (by decide +kernel)
set_option maxRecDepth 20000 in
theorem gX2_line_X2_isSecondKind : GoodIn wsX2_line (va_wsS RX2 67 yX2_isSecondKind wsX2_isSecondKind) := goodIn_app (goodIn_of _ (by decide +kernel)) ggX2_line_X2_isSecondKind
set_option maxRecDepth 20000 in
theorem ggX2_line_X2_canPrintHere : GoodIn wsX2_line wsX2_canPrintHere := goodIn_r _ [28, 29, 30, 31, 4, 32, 33, 1, 130, 131, 132, 133, 134, 135, 136, 137, 138, 139, 140, 141, 142, 143, 144, 145] (by decide +kernel) (by decide +kernel)
set_option maxRecDepth 20000 in
theorem gX2_line_X2_canPrintHere : GoodIn wsX2_line (wsV RX2 70 RX2 yX2_canPrintHere wsX2_canPrintHere) := goodIn_app (goodIn_of _ (by decide +kernel)) ggX2_line_X2_canPrintHere
set_option maxRecDepth 20000 in
theorem ggX2_line_X2_canMove : GoodIn wsX2_line wsX2_canMove := goodIn_r _ [37, 38, 39, 40, 4, 41, 15, 14, 29, 30, 31, 32, 33, 1, 130, 131, 132, 133, 134, 135, 136, 137, 138, 139, 140, 141, 142, 143, 144, 145] (by decide +kernel) (by decide +kernel)
set_option maxRecDepth 20000 in
theorem gX2_line_X2_canMove : GoodIn wsX2_line (wsV RX2 74 RX2 yX2_canMove wsX2_canMove) := goodIn_app (goodIn_of _ (by decide +kernel)) ggX2_line_X2_canMove
set_option maxRecDepth 20000 in
theorem ggX2_line_X2_printRecord : GoodIn wsX2_line wsX2_printRecord := goodIn_r _ [45, 1, 46, 47, 48, 49, 50, 51, 52, 53, 4, 54, 33, 55, 56, 57, 14, 58, 59, 60, 61, 62, 63, 64, 65, 66, 67, 68, 69, 70, 71, 72, 73, 74, 75, 76, 77, 78, 79, 80, 81, 82, 83, 84, 15, 85, 86, 87, 88, 89, 90, 91, 92, 93, 94, 95, 96, 97, 98, 99, 100, 101, 102, 103, 104, 105, 106, 107, 108, 109, 110, 111, 112, 130, 131, 132, 133, 134, 135, 136, 137, 138, 139, 140, 141, 142, 143, 144, 145, 146, 147, 148] (by decide +kernel) (by decide +kernel)
set_option maxRecDepth 20000 in
theorem gX2_line_X2_printRecord : GoodIn wsX2_line (wsV RX2 77 RX2 yX2_printRecord wsX2_printRecord) := goodIn_app (goodIn_of _ (by decide +kernel)) ggX2_line_X2_printRecord
set_option maxRecDepth 20000 in
theorem ggX2_line_X2_moveBy : GoodIn wsX2_line wsX2_moveBy := goodIn_r _ [116, 15, 14, 51, 52, 53, 4, 54, 33, 55, 56, 57, 48, 58, 59, 60, 61, 62, 63, 64, 65, 66, 67, 68, 69, 70, 71, 72, 73, 74, 1, 75, 117, 118, 119, 120, 130, 131, 132, 133, 134, 135, 136, 137, 138, 139, 140, 141, 142, 143, 144, 145, 146, 147] (by decide +kernel) (by decide +kernel)
set_option maxRecDepth 20000 in
theorem gX2_line_X2_moveBy : GoodIn wsX2_line (wsV RX2 80 RX2 yX2_moveBy wsX2_moveBy) := goodIn_app (goodIn_of _ (by decide +kernel)) ggX2_line_X2_moveBy
set_option maxRecDepth 20000 in
theorem ggX2_line_X2_canPrintAfter : GoodIn wsX2_line wsX2_canPrintAfter := goodIn_r _ [124, 38, 39, 40, 4, 41, 15, 14, 29, 30, 31, 32, 33, 1, 130, 131, 132, 133, 134, 135, 136, 137, 138, 139, 140, 141, 142, 143, 144, 145] (by decide +kernel) (by decide +kernel)
set_option maxRecDepth 20000 in
theorem gX2_line_X2_canPrintAfter : GoodIn wsX2_line (wsV RX2 84 RX2 yX2_canPrintAfter wsX2_canPrintAfter) := goodIn_app (goodIn_of _ (by decide +kernel)) ggX2_line_X2_canPrintAfter
set_option maxRecDepth 20000 in
theorem ggX2_line_X2_countSkip : GoodIn wsX2_line wsX2_countSkip := goodIn_r _ [128, 13, 129, 6, 7, 4, 8, 130, 131, 132, 133, 134, 135, 136, 137, 138, 139, 140, 141, 142, 143, 144, 145] (by decide +kernel) (by decide +kernel)
set_option maxRecDepth 20000 in
theorem gX2_line_X2_countSkip : GoodIn wsX2_line (wsV RX2 87 RX2 yX2_countSkip wsX2_countSkip) := goodIn_app (goodIn_of _ (by decide +kernel)) ggX2_line_X2_countSkip
theorem dX2_line_0 : decode cX2_line 0 = .ok (.iload_n 1, 1) := by decide +kernel
theorem dX2_line_1 : decode cX2_line 1 = .ok (.invokestatic 57, 3) := by decide +kernel
theorem dX2_line_4 : decode cX2_line 4 = .ok (.istore_n 2, 1) := by decide +kernel
theorem dX2_line_5 : decode cX2_line 5 = .ok (.iload_n 2, 1) := by decide +kernel
theorem dX2_line_6 : decode cX2_line 6 = .ok (.invokestatic 42, 3) := by decide +kernel
theorem dX2_line_9 : decode cX2_line 9 = .ok (.ifCond .eq 11, 3) := by decide +kernel
theorem dX2_line_12 : decode cX2_line 12 = .ok (.aload_n 0, 1) := by decide +kernel
theorem dX2_line_13 : decode cX2_line 13 = .ok (.iload_n 2, 1) := by decide +kernel
theorem dX2_line_14 : decode cX2_line 14 = .ok (.invokevirtual 61, 3) := by decide +kernel
theorem dX2_line_17 : decode cX2_line 17 = .ok (.goto 7, 3) := by decide +kernel
theorem dX2_line_20 : decode cX2_line 20 = .ok (.iload_n 1, 1) := by decide +kernel
theorem dX2_line_21 : decode cX2_line 21 = .ok (.invokestatic 64, 3) := by decide +kernel
theorem dX2_line_24 : decode cX2_line 24 = .ok (.istore_n 3, 1) := by decide +kernel
theorem dX2_line_25 : decode cX2_line 25 = .ok (.iload_n 1, 1) := by decide +kernel
theorem dX2_line_26 : decode cX2_line 26 = .ok (.invokestatic 67, 3) := by decide +kernel
theorem dX2_line_29 : decode cX2_line 29 = .ok (.ifCond .eq 33, 3) := by decide +kernel
theorem dX2_line_32 : decode cX2_line 32 = .ok (.aload_n 0, 1) := by decide +kernel
theorem dX2_line_33 : decode cX2_line 33 = .ok (.invokevirtual 70, 3) := by decide +kernel
theorem dX2_line_36 : decode cX2_line 36 = .ok (.ifCond .eq 11, 3) := by decide +kernel
theorem dX2_line_39 : decode cX2_line 39 = .ok (.aload_n 0, 1) := by decide +kernel
theorem dX2_line_40 : decode cX2_line 40 = .ok (.iload_n 3, 1) := by decide +kernel
theorem dX2_line_41 : decode cX2_line 41 = .ok (.invokevirtual 74, 3) := by decide +kernel
theorem dX2_line_44 : decode cX2_line 44 = .ok (.ifCond .ne 6, 3) := by decide +kernel
theorem dX2_line_47 : decode cX2_line 47 = .ok (.bipush (-6), 2) := by decide +kernel
theorem dX2_line_49 : decode cX2_line 49 = .ok (.ireturn, 1) := by decide +kernel
theorem dX2_line_50 : decode cX2_line 50 = .ok (.aload_n 0, 1) := by decide +kernel
theorem dX2_line_51 : decode cX2_line 51 = .ok (.invokevirtual 77, 3) := by decide +kernel
theorem dX2_line_54 : decode cX2_line 54 = .ok (.aload_n 0, 1) := by decide +kernel
theorem dX2_line_55 : decode cX2_line 55 = .ok (.iload_n 3, 1) := by decide +kernel
theorem dX2_line_56 : decode cX2_line 56 = .ok (.invokevirtual 80, 3) := by decide +kernel
theorem dX2_line_59 : decode cX2_line 59 = .ok (.goto 23, 3) := by decide +kernel
theorem dX2_line_62 : decode cX2_line 62 = .ok (.aload_n 0, 1) := by decide +kernel
theorem dX2_line_63 : decode cX2_line 63 = .ok (.iload_n 3, 1) := by decide +kernel
theorem dX2_line_64 : decode cX2_line 64 = .ok (.invokevirtual 84, 3) := by decide +kernel
theorem dX2_line_67 : decode cX2_line 67 = .ok (.ifCond .ne 6, 3) := by decide +kernel
theorem dX2_line_70 : decode cX2_line 70 = .ok (.bipush (-6), 2) := by decide +kernel
theorem dX2_line_72 : decode cX2_line 72 = .ok (.ireturn, 1) := by decide +kernel
theorem dX2_line_73 : decode cX2_line 73 = .ok (.aload_n 0, 1) := by decide +kernel
theorem dX2_line_74 : decode cX2_line 74 = .ok (.iload_n 3, 1) := by decide +kernel
theorem dX2_line_75 : decode cX2_line 75 = .ok (.invokevirtual 80, 3) := by decide +kernel
theorem dX2_line_78 : decode cX2_line 78 = .ok (.aload_n 0, 1) := by decide +kernel
theorem dX2_line_79 : decode cX2_line 79 = .ok (.invokevirtual 77, 3) := by decide +kernel
theorem dX2_line_82 : decode cX2_line 82 = .ok (.iload_n 2, 1) := by decide +kernel
theorem dX2_line_83 : decode cX2_line 83 = .ok (.invokestatic 42, 3) := by decide +kernel
theorem dX2_line_86 : decode cX2_line 86 = .ok (.ifCond .eq 8, 3) := by decide +kernel
theorem dX2_line_89 : decode cX2_line 89 = .ok (.aload_n 0, 1) := by decide +kernel
theorem dX2_line_90 : decode cX2_line 90 = .ok (.iload_n 2, 1) := by decide +kernel
theorem dX2_line_91 : decode cX2_line 91 = .ok (.invokevirtual 87, 3) := by decide +kernel
theorem dX2_line_94 : decode cX2_line 94 = .ok (.aload_n 0, 1) := by decide +kernel
theorem dX2_line_95 : decode cX2_line 95 = .ok (.getfield 90, 3) := by decide +kernel
theorem dX2_line_98 : decode cX2_line 98 = .ok (.ireturn, 1) := by decide +kernel
set_option maxRecDepth 20000 in
theorem ggX2_skip_X2_isChannel : GoodIn wsX2_skip wsX2_isChannel := goodIn_r _ [5] (by decide +kernel) (by decide +kernel)
set_option maxRecDepth 20000 in
theorem gX2_skip_X2_isChannel : GoodIn wsX2_skip (va_wsS RX2 42 yX2_isChannel wsX2_isChannel) := goodIn_app (goodIn_of _ (by decide +kernel)) ggX2_skip_X2_isChannel
set_option maxRecDepth 20000 in
theorem ggX2_skip_X2_wayTo : GoodIn wsX2_skip wsX2_wayTo := goodIn_r _ [9, 1, 10, 11, 2, 3, 4, 5, 65, 66, 67, 68, 69, 70, 71, 72, 73, 74, 75, 76, 77, 78, 79, 80] (by decide +kernel) (by decide +kernel)
set_option maxRecDepth 20000 in
theorem gX2_skip_X2_wayTo : GoodIn wsX2_skip (wsV RX2 61 RX2 yX2_wayTo wsX2_wayTo) := goodIn_app (goodIn_of _ (by decide +kernel)) ggX2_skip_X2_wayTo
set_option maxRecDepth 20000 in
theorem ggX2_skip_X2_canMove : GoodIn wsX2_skip wsX2_canMove := goodIn_r _ [15, 16, 17, 18, 4, 19, 11, 10, 20, 21, 22, 23, 24, 25, 65, 66, 67, 68, 69, 70, 71, 72, 73, 74, 75, 76, 77, 78, 79, 80] (by decide +kernel) (by decide +kernel)
set_option maxRecDepth 20000 in
theorem gX2_skip_X2_canMove : GoodIn wsX2_skip (wsV RX2 74 RX2 yX2_canMove wsX2_canMove) := goodIn_app (goodIn_of _ (by decide +kernel)) ggX2_skip_X2_canMove
set_option maxRecDepth 20000 in
theorem ggX2_skip_X2_moveBy : GoodIn wsX2_skip wsX2_moveBy := goodIn_r _ [29, 11, 10, 30, 31, 32, 4, 33, 24, 34, 35, 36, 37, 38, 39, 40, 41, 42, 43, 44, 45, 46, 47, 48, 49, 50, 51, 52, 53, 54, 25, 55, 56, 57, 58, 59, 65, 66, 67, 68, 69, 70, 71, 72, 73, 74, 75, 76, 77, 78, 79, 80, 81, 82] (by decide +kernel) (by decide +kernel)
set_option maxRecDepth 20000 in
theorem gX2_skip_X2_moveBy : GoodIn wsX2_skip (wsV RX2 80 RX2 yX2_moveBy wsX2_moveBy) := goodIn_app (goodIn_of _ (by decide +kernel)) ggX2_skip_X2_moveBy
set_option maxRecDepth 20000 in
theorem ggX2_skip_X2_countSkip : GoodIn wsX2_skip wsX2_countSkip := goodIn_r _ [63, 1, 64, 2, 3, 4, 5, 65, 66, 67, 68, 69, 70, 71, 72, 73, 74, 75, 76, 77, 78, 79, 80] (by decide +kernel) (by decide +kernel)
set_option maxRecDepth 20000 in
theorem gX2_skip_X2_countSkip : GoodIn wsX2_skip (wsV RX2 87 RX2 yX2_countSkip wsX2_countSkip) := goodIn_app (goodIn_of _ (by decide +kernel)) ggX2_skip_X2_countSkip
theorem dX2_skip_0 : decode cX2_skip 0 = .ok (.iload_n 1, 1) := by decide +kernel
theorem dX2_skip_1 : decode cX2_skip 1 = .ok (.invokestatic 42, 3) := by decide +kernel
theorem dX2_skip_4 : decode cX2_skip 4 = .ok (.ifCond .ne 5, 3) := by decide +kernel
theorem dX2_skip_7 : decode cX2_skip 7 = .ok (.iconst 0, 1) := by decide +kernel
theorem dX2_skip_8 : decode cX2_skip 8 = .ok (.ireturn, 1) := by decide +kernel
theorem dX2_skip_9 : decode cX2_skip 9 = .ok (.aload_n 0, 1) := by decide +kernel
theorem dX2_skip_10 : decode cX2_skip 10 = .ok (.iload_n 1, 1) := by decide +kernel
theorem dX2_skip_11 : decode cX2_skip 11 = .ok (.invokevirtual 61, 3) := by decide +kernel
theorem dX2_skip_14 : decode cX2_skip 14 = .ok (.istore_n 2, 1) := by decide +kernel
theorem dX2_skip_15 : decode cX2_skip 15 = .ok (.aload_n 0, 1) := by decide +kernel
theorem dX2_skip_16 : decode cX2_skip 16 = .ok (.iload_n 2, 1) := by decide +kernel
theorem dX2_skip_17 : decode cX2_skip 17 = .ok (.invokevirtual 74, 3) := by decide +kernel
theorem dX2_skip_20 : decode cX2_skip 20 = .ok (.ifCond .ne 6, 3) := by decide +kernel
theorem dX2_skip_23 : decode cX2_skip 23 = .ok (.bipush (-6), 2) := by decide +kernel
theorem dX2_skip_25 : decode cX2_skip 25 = .ok (.ireturn, 1) := by decide +kernel
theorem dX2_skip_26 : decode cX2_skip 26 = .ok (.aload_n 0, 1) := by decide +kernel
theorem dX2_skip_27 : decode cX2_skip 27 = .ok (.iload_n 2, 1) := by decide +kernel
theorem dX2_skip_28 : decode cX2_skip 28 = .ok (.invokevirtual 80, 3) := by decide +kernel
theorem dX2_skip_31 : decode cX2_skip 31 = .ok (.aload_n 0, 1) := by decide +kernel
theorem dX2_skip_32 : decode cX2_skip 32 = .ok (.iload_n 1, 1) := by decide +kernel
theorem dX2_skip_33 : decode cX2_skip 33 = .ok (.invokevirtual 87, 3) := by decide +kernel
theorem dX2_skip_36 : decode cX2_skip 36 = .ok (.aload_n 0, 1) := by decide +kernel
theorem dX2_skip_37 : decode cX2_skip 37 = .ok (.getfield 20, 3) := by decide +kernel
theorem dX2_skip_40 : decode cX2_skip 40 = .ok (.iload_n 1, 1) := by decide +kernel
theorem dX2_skip_41 : decode cX2_skip 41 = .ok (.iaload, 1) := by decide +kernel
theorem dX2_skip_42 : decode cX2_skip 42 = .ok (.iconst (-1), 1) := by decide +kernel
theorem dX2_skip_43 : decode cX2_skip 43 = .ok (.if_icmp .ne 7, 3) := by decide +kernel
theorem dX2_skip_46 : decode cX2_skip 46 = .ok (.iconst (-1), 1) := by decide +kernel
theorem dX2_skip_47 : decode cX2_skip 47 = .ok (.goto 4, 3) := by decide +kernel
theorem dX2_skip_50 : decode cX2_skip 50 = .ok (.iload_n 2, 1) := by decide +kernel
theorem dX2_skip_51 : decode cX2_skip 51 = .ok (.ireturn, 1) := by decide +kernel
set_option maxRecDepth 20000 in
theorem ggX2_end_X2_standOnNewPage : GoodIn wsX2_end wsX2_standOnNewPage := goodIn_r _ [6, 7, 8, 9, 10, 11, 12, 13, 14, 15, 16, 17, 18, 19, 20, 21, 22, 23, 24] (by decide +kernel) (by decide +kernel)
set_option maxRecDepth 20000 in
theorem gX2_end_X2_standOnNewPage : GoodIn wsX2_end (wsV RX2 93 RX2 yX2_standOnNewPage wsX2_standOnNewPage) := goodIn_app (goodIn_of _ (by decide +kernel)) ggX2_end_X2_standOnNewPage
theorem dX2_end_0 : decode cX2_end 0 = .ok (.aload_n 0, 1) := by decide +kernel
theorem dX2_end_1 : decode cX2_end 1 = .ok (.invokevirtual 93, 3) := by decide +kernel
theorem dX2_end_4 : decode cX2_end 4 = .ok (.aload_n 0, 1) := by decide +kernel
theorem dX2_end_5 : decode cX2_end 5 = .ok (.getfield 90, 3) := by decide +kernel
theorem dX2_end_8 : decode cX2_end 8 = .ok (.ireturn, 1) := by decide +kernel
set_option maxRecDepth 20000 in
theorem ggX2_at_X2_begunPage : GoodIn wsX2_at wsX2_begunPage := goodIn_r _ [10, 11, 12, 25, 26, 27, 28, 29, 30, 31, 32, 33, 34, 35, 36, 37, 38, 39, 40] (by decide +kernel) (by decide +kernel)
set_option maxRecDepth 20000 in
theorem gX2_at_X2_begunPage : GoodIn wsX2_at (wsV RX2 96 RX2 yX2_begunPage wsX2_begunPage) := goodIn_app (goodIn_of _ (by decide +kernel)) ggX2_at_X2_begunPage
set_option maxRecDepth 20000 in
theorem ggX2_at_X0_signIn : GoodIn wsX2_at wsX0_signIn := goodIn_r _ [17, 18, 19, 20, 21, 22, 23, 24, 47, 48, 49] (by decide +kernel) (by decide +kernel)
set_option maxRecDepth 20000 in
theorem gX2_at_X0_signIn : GoodIn wsX2_at (wsV RX2 107 RX0 yX0_signIn wsX0_signIn) := goodIn_app (goodIn_of _ (by decide +kernel)) ggX2_at_X0_signIn
theorem dX2_at_0 : decode cX2_at 0 = .ok (.aload_n 0, 1) := by decide +kernel
theorem dX2_at_1 : decode cX2_at 1 = .ok (.iload_n 1, 1) := by decide +kernel
theorem dX2_at_2 : decode cX2_at 2 = .ok (.invokevirtual 96, 3) := by decide +kernel
theorem dX2_at_5 : decode cX2_at 5 = .ok (.astore 4, 2) := by decide +kernel
theorem dX2_at_7 : decode cX2_at 7 = .ok (.aload 4, 2) := by decide +kernel
theorem dX2_at_9 : decode cX2_at 9 = .ok (.ifnull 27, 3) := by decide +kernel
theorem dX2_at_12 : decode cX2_at 12 = .ok (.iload_n 2, 1) := by decide +kernel
theorem dX2_at_13 : decode cX2_at 13 = .ok (.ifCond .lt 23, 3) := by decide +kernel
theorem dX2_at_16 : decode cX2_at 16 = .ok (.iload_n 2, 1) := by decide +kernel
theorem dX2_at_17 : decode cX2_at 17 = .ok (.aload_n 0, 1) := by decide +kernel
theorem dX2_at_18 : decode cX2_at 18 = .ok (.getfield 13, 3) := by decide +kernel
theorem dX2_at_21 : decode cX2_at 21 = .ok (.if_icmp .ge 15, 3) := by decide +kernel
theorem dX2_at_24 : decode cX2_at 24 = .ok (.iload_n 3, 1) := by decide +kernel
theorem dX2_at_25 : decode cX2_at 25 = .ok (.ifCond .lt 11, 3) := by decide +kernel
theorem dX2_at_28 : decode cX2_at 28 = .ok (.iload_n 3, 1) := by decide +kernel
theorem dX2_at_29 : decode cX2_at 29 = .ok (.aload_n 0, 1) := by decide +kernel
theorem dX2_at_30 : decode cX2_at 30 = .ok (.getfield 17, 3) := by decide +kernel
theorem dX2_at_33 : decode cX2_at 33 = .ok (.if_icmp .lt 13, 3) := by decide +kernel
theorem dX2_at_36 : decode cX2_at 36 = .ok (.new 100, 3) := by decide +kernel
theorem dX2_at_39 : decode cX2_at 39 = .ok (.dup, 1) := by decide +kernel
theorem dX2_at_40 : decode cX2_at 40 = .ok (.ldc 102, 2) := by decide +kernel
theorem dX2_at_42 : decode cX2_at 42 = .ok (.invokespecial 104, 3) := by decide +kernel
theorem dX2_at_45 : decode cX2_at 45 = .ok (.athrow, 1) := by decide +kernel
theorem dX2_at_46 : decode cX2_at 46 = .ok (.aload 4, 2) := by decide +kernel
theorem dX2_at_48 : decode cX2_at 48 = .ok (.iload_n 2, 1) := by decide +kernel
theorem dX2_at_49 : decode cX2_at 49 = .ok (.iload_n 3, 1) := by decide +kernel
theorem dX2_at_50 : decode cX2_at 50 = .ok (.invokevirtual 107, 3) := by decide +kernel
theorem dX2_at_53 : decode cX2_at 53 = .ok (.ireturn, 1) := by decide +kernel
set_option maxRecDepth 20000 in
theorem ggX2_over_X2_isSign : GoodIn wsX2_over wsX2_isSign := goodIn_r _ [4] (by decide +kernel) (by decide +kernel)
set_option maxRecDepth 20000 in
theorem gX2_over_X2_isSign : GoodIn wsX2_over (va_wsS RX2 110 yX2_isSign wsX2_isSign) := goodIn_app (goodIn_of _ (by decide +kernel)) ggX2_over_X2_isSign
set_option maxRecDepth 20000 in
theorem ggX2_over_X2_darker : GoodIn wsX2_over wsX2_darker := goodIn_r _ [7, 8, 9, 10, 11] (by decide +kernel) (by decide +kernel)
set_option maxRecDepth 20000 in
theorem gX2_over_X2_darker : GoodIn wsX2_over (va_wsS RX2 113 yX2_darker wsX2_darker) := goodIn_app (goodIn_of _ (by decide +kernel)) ggX2_over_X2_darker
theorem dX2_over_0 : decode cX2_over 0 = .ok (.iload_n 1, 1) := by decide +kernel
theorem dX2_over_1 : decode cX2_over 1 = .ok (.invokestatic 110, 3) := by decide +kernel
theorem dX2_over_4 : decode cX2_over 4 = .ok (.ifCond .eq 10, 3) := by decide +kernel
theorem dX2_over_7 : decode cX2_over 7 = .ok (.iload_n 2, 1) := by decide +kernel
theorem dX2_over_8 : decode cX2_over 8 = .ok (.invokestatic 110, 3) := by decide +kernel
theorem dX2_over_11 : decode cX2_over 11 = .ok (.ifCond .ne 5, 3) := by decide +kernel
theorem dX2_over_14 : decode cX2_over 14 = .ok (.iconst (-1), 1) := by decide +kernel
theorem dX2_over_15 : decode cX2_over 15 = .ok (.ireturn, 1) := by decide +kernel
theorem dX2_over_16 : decode cX2_over 16 = .ok (.iload_n 1, 1) := by decide +kernel
theorem dX2_over_17 : decode cX2_over 17 = .ok (.iload_n 2, 1) := by decide +kernel
theorem dX2_over_18 : decode cX2_over 18 = .ok (.invokestatic 113, 3) := by decide +kernel
theorem dX2_over_21 : decode cX2_over 21 = .ok (.ireturn, 1) := by decide +kernel
set_option maxRecDepth 20000 in
theorem ggX2_translate_X2_isSign : GoodIn wsX2_translate wsX2_isSign := goodIn_r _ [5] (by decide +kernel) (by decide +kernel)
set_option maxRecDepth 20000 in
theorem gX2_translate_X2_isSign : GoodIn wsX2_translate (va_wsS RX2 110 yX2_isSign wsX2_isSign) := goodIn_app (goodIn_of _ (by decide +kernel)) ggX2_translate_X2_isSign
theorem dX2_translate_0 : decode cX2_translate 0 = .ok (.iload_n 1, 1) := by decide +kernel
theorem dX2_translate_1 : decode cX2_translate 1 = .ok (.invokestatic 110, 3) := by decide +kernel
theorem dX2_translate_4 : decode cX2_translate 4 = .ok (.ifCond .eq 10, 3) := by decide +kernel
theorem dX2_translate_7 : decode cX2_translate 7 = .ok (.iload_n 2, 1) := by decide +kernel
theorem dX2_translate_8 : decode cX2_translate 8 = .ok (.invokestatic 110, 3) := by decide +kernel
theorem dX2_translate_11 : decode cX2_translate 11 = .ok (.ifCond .ne 5, 3) := by decide +kernel
theorem dX2_translate_14 : decode cX2_translate 14 = .ok (.iconst (-1), 1) := by decide +kernel
theorem dX2_translate_15 : decode cX2_translate 15 = .ok (.ireturn, 1) := by decide +kernel
theorem dX2_translate_16 : decode cX2_translate 16 = .ok (.aload_n 0, 1) := by decide +kernel
theorem dX2_translate_17 : decode cX2_translate 17 = .ok (.getfield 30, 3) := by decide +kernel
theorem dX2_translate_20 : decode cX2_translate 20 = .ok (.iload_n 1, 1) := by decide +kernel
theorem dX2_translate_21 : decode cX2_translate 21 = .ok (.iaload, 1) := by decide +kernel
theorem dX2_translate_22 : decode cX2_translate 22 = .ok (.istore_n 3, 1) := by decide +kernel
theorem dX2_translate_23 : decode cX2_translate 23 = .ok (.aload_n 0, 1) := by decide +kernel
theorem dX2_translate_24 : decode cX2_translate 24 = .ok (.getfield 30, 3) := by decide +kernel
theorem dX2_translate_27 : decode cX2_translate 27 = .ok (.iload_n 1, 1) := by decide +kernel
theorem dX2_translate_28 : decode cX2_translate 28 = .ok (.iload_n 2, 1) := by decide +kernel
theorem dX2_translate_29 : decode cX2_translate 29 = .ok (.iastore, 1) := by decide +kernel
theorem dX2_translate_30 : decode cX2_translate 30 = .ok (.iload_n 3, 1) := by decide +kernel
theorem dX2_translate_31 : decode cX2_translate 31 = .ok (.ireturn, 1) := by decide +kernel
set_option maxRecDepth 20000 in
theorem ggX2_copies_X2_begunPage : GoodIn wsX2_copies wsX2_begunPage := goodIn_r _ [6, 1, 7, 18, 19, 20, 21, 22, 23, 24, 25, 26, 27, 28, 29, 30, 31, 32, 33] (by decide +kernel) (by decide +kernel)
set_option maxRecDepth 20000 in
theorem gX2_copies_X2_begunPage : GoodIn wsX2_copies (wsV RX2 96 RX2 yX2_begunPage wsX2_begunPage) := goodIn_app (goodIn_of _ (by decide +kernel)) ggX2_copies_X2_begunPage
set_option maxRecDepth 20000 in
theorem ggX2_copies_X2_addPage : GoodIn wsX2_copies wsX2_addPage := goodIn_r _ [11, 1, 7, 18, 19, 20, 21, 22, 23, 24, 25, 26, 27, 28, 29, 30, 31, 32, 33] (by decide +kernel) (by decide +kernel)
set_option maxRecDepth 20000 in
theorem gX2_copies_X2_addPage : GoodIn wsX2_copies (wsV RX2 116 RX2 yX2_addPage wsX2_addPage) := goodIn_app (goodIn_of _ (by decide +kernel)) ggX2_copies_X2_addPage
set_option maxRecDepth 20000 in
theorem ggX2_copies_X2_standOnNewPage : GoodIn wsX2_copies wsX2_standOnNewPage := goodIn_r _ [15, 16, 17, 18, 19, 20, 21, 22, 23, 24, 25, 26, 27, 28, 29, 30, 31, 32, 33] (by decide +kernel) (by decide +kernel)
set_option maxRecDepth 20000 in
theorem gX2_copies_X2_standOnNewPage : GoodIn wsX2_copies (wsV RX2 93 RX2 yX2_standOnNewPage wsX2_standOnNewPage) := goodIn_app (goodIn_of _ (by decide +kernel)) ggX2_copies_X2_standOnNewPage
theorem dX2_copies_0 : decode cX2_copies 0 = .ok (.iload_n 1, 1) := by decide +kernel
theorem dX2_copies_1 : decode cX2_copies 1 = .ok (.iconst 1, 1) := by decide +kernel
theorem dX2_copies_2 : decode cX2_copies 2 = .ok (.if_icmp .lt 26, 3) := by decide +kernel
theorem dX2_copies_5 : decode cX2_copies 5 = .ok (.iload_n 1, 1) := by decide +kernel
theorem dX2_copies_6 : decode cX2_copies 6 = .ok (.bipush 9, 2) := by decide +kernel
theorem dX2_copies_8 : decode cX2_copies 8 = .ok (.if_icmp .gt 20, 3) := by decide +kernel
theorem dX2_copies_11 : decode cX2_copies 11 = .ok (.iload_n 2, 1) := by decide +kernel
theorem dX2_copies_12 : decode cX2_copies 12 = .ok (.ifCond .lt 16, 3) := by decide +kernel
theorem dX2_copies_15 : decode cX2_copies 15 = .ok (.iload_n 2, 1) := by decide +kernel
theorem dX2_copies_16 : decode cX2_copies 16 = .ok (.iload_n 3, 1) := by decide +kernel
theorem dX2_copies_17 : decode cX2_copies 17 = .ok (.if_icmp .gt 11, 3) := by decide +kernel
theorem dX2_copies_20 : decode cX2_copies 20 = .ok (.iload_n 3, 1) := by decide +kernel
theorem dX2_copies_21 : decode cX2_copies 21 = .ok (.aload_n 0, 1) := by decide +kernel
theorem dX2_copies_22 : decode cX2_copies 22 = .ok (.getfield 90, 3) := by decide +kernel
theorem dX2_copies_25 : decode cX2_copies 25 = .ok (.if_icmp .lt 6, 3) := by decide +kernel
theorem dX2_copies_28 : decode cX2_copies 28 = .ok (.bipush (-2), 2) := by decide +kernel
theorem dX2_copies_30 : decode cX2_copies 30 = .ok (.ireturn, 1) := by decide +kernel
theorem dX2_copies_31 : decode cX2_copies 31 = .ok (.aload_n 0, 1) := by decide +kernel
theorem dX2_copies_32 : decode cX2_copies 32 = .ok (.getfield 90, 3) := by decide +kernel
theorem dX2_copies_35 : decode cX2_copies 35 = .ok (.iload_n 1, 1) := by decide +kernel
theorem dX2_copies_36 : decode cX2_copies 36 = .ok (.iload_n 3, 1) := by decide +kernel
theorem dX2_copies_37 : decode cX2_copies 37 = .ok (.iload_n 2, 1) := by decide +kernel
theorem dX2_copies_38 : decode cX2_copies 38 = .ok (.isub, 1) := by decide +kernel
theorem dX2_copies_39 : decode cX2_copies 39 = .ok (.iconst 1, 1) := by decide +kernel
theorem dX2_copies_40 : decode cX2_copies 40 = .ok (.iadd, 1) := by decide +kernel
theorem dX2_copies_41 : decode cX2_copies 41 = .ok (.imul, 1) := by decide +kernel
theorem dX2_copies_42 : decode cX2_copies 42 = .ok (.iadd, 1) := by decide +kernel
theorem dX2_copies_43 : decode cX2_copies 43 = .ok (.bipush 40, 2) := by decide +kernel
theorem dX2_copies_45 : decode cX2_copies 45 = .ok (.if_icmp .le 6, 3) := by decide +kernel
theorem dX2_copies_48 : decode cX2_copies 48 = .ok (.bipush (-6), 2) := by decide +kernel
theorem dX2_copies_50 : decode cX2_copies 50 = .ok (.ireturn, 1) := by decide +kernel
theorem dX2_copies_51 : decode cX2_copies 51 = .ok (.iconst 0, 1) := by decide +kernel
theorem dX2_copies_52 : decode cX2_copies 52 = .ok (.istore 4, 2) := by decide +kernel
theorem dX2_copies_54 : decode cX2_copies 54 = .ok (.iload 4, 2) := by decide +kernel
theorem dX2_copies_56 : decode cX2_copies 56 = .ok (.iload_n 1, 1) := by decide +kernel
theorem dX2_copies_57 : decode cX2_copies 57 = .ok (.if_icmp .ge 34, 3) := by decide +kernel
theorem dX2_copies_60 : decode cX2_copies 60 = .ok (.iload_n 2, 1) := by decide +kernel
theorem dX2_copies_61 : decode cX2_copies 61 = .ok (.istore 5, 2) := by decide +kernel
theorem dX2_copies_63 : decode cX2_copies 63 = .ok (.iload 5, 2) := by decide +kernel
theorem dX2_copies_65 : decode cX2_copies 65 = .ok (.iload_n 3, 1) := by decide +kernel
theorem dX2_copies_66 : decode cX2_copies 66 = .ok (.if_icmp .gt 19, 3) := by decide +kernel
theorem dX2_copies_69 : decode cX2_copies 69 = .ok (.aload_n 0, 1) := by decide +kernel
theorem dX2_copies_70 : decode cX2_copies 70 = .ok (.aload_n 0, 1) := by decide +kernel
theorem dX2_copies_71 : decode cX2_copies 71 = .ok (.iload 5, 2) := by decide +kernel
theorem dX2_copies_73 : decode cX2_copies 73 = .ok (.invokevirtual 96, 3) := by decide +kernel
theorem dX2_copies_76 : decode cX2_copies 76 = .ok (.invokevirtual 116, 3) := by decide +kernel
theorem dX2_copies_79 : decode cX2_copies 79 = .ok (.iinc 5 1, 3) := by decide +kernel
theorem dX2_copies_82 : decode cX2_copies 82 = .ok (.goto (-19), 3) := by decide +kernel
theorem dX2_copies_85 : decode cX2_copies 85 = .ok (.iinc 4 1, 3) := by decide +kernel
theorem dX2_copies_88 : decode cX2_copies 88 = .ok (.goto (-34), 3) := by decide +kernel
theorem dX2_copies_91 : decode cX2_copies 91 = .ok (.aload_n 0, 1) := by decide +kernel
theorem dX2_copies_92 : decode cX2_copies 92 = .ok (.invokevirtual 93, 3) := by decide +kernel
theorem dX2_copies_95 : decode cX2_copies 95 = .ok (.aload_n 0, 1) := by decide +kernel
theorem dX2_copies_96 : decode cX2_copies 96 = .ok (.getfield 90, 3) := by decide +kernel
theorem dX2_copies_99 : decode cX2_copies 99 = .ok (.ireturn, 1) := by decide +kernel
set_option maxRecDepth 20000 in
theorem ggX2_back_X2_takeLastPage : GoodIn wsX2_back wsX2_takeLastPage := goodIn_r _ [6, 1, 7, 14, 15, 16, 17, 18, 19, 20, 21, 22, 23, 24, 25, 26, 27, 28, 29] (by decide +kernel) (by decide +kernel)
set_option maxRecDepth 20000 in
theorem gX2_back_X2_takeLastPage : GoodIn wsX2_back (wsV RX2 120 RX2 yX2_takeLastPage wsX2_takeLastPage) := goodIn_app (goodIn_of _ (by decide +kernel)) ggX2_back_X2_takeLastPage
set_option maxRecDepth 20000 in
theorem ggX2_back_X2_standOnNewPage : GoodIn wsX2_back wsX2_standOnNewPage := goodIn_r _ [11, 12, 13, 14, 15, 16, 17, 18, 19, 20, 21, 22, 23, 24, 25, 26, 27, 28, 29] (by decide +kernel) (by decide +kernel)
set_option maxRecDepth 20000 in
theorem gX2_back_X2_standOnNewPage : GoodIn wsX2_back (wsV RX2 93 RX2 yX2_standOnNewPage wsX2_standOnNewPage) := goodIn_app (goodIn_of _ (by decide +kernel)) ggX2_back_X2_standOnNewPage
theorem dX2_back_0 : decode cX2_back 0 = .ok (.iload_n 1, 1) := by decide +kernel
theorem dX2_back_1 : decode cX2_back 1 = .ok (.ifCond .lt 11, 3) := by decide +kernel
theorem dX2_back_4 : decode cX2_back 4 = .ok (.iload_n 1, 1) := by decide +kernel
theorem dX2_back_5 : decode cX2_back 5 = .ok (.aload_n 0, 1) := by decide +kernel
theorem dX2_back_6 : decode cX2_back 6 = .ok (.getfield 90, 3) := by decide +kernel
theorem dX2_back_9 : decode cX2_back 9 = .ok (.if_icmp .le 6, 3) := by decide +kernel
theorem dX2_back_12 : decode cX2_back 12 = .ok (.bipush (-2), 2) := by decide +kernel
theorem dX2_back_14 : decode cX2_back 14 = .ok (.ireturn, 1) := by decide +kernel
theorem dX2_back_15 : decode cX2_back 15 = .ok (.iconst 0, 1) := by decide +kernel
theorem dX2_back_16 : decode cX2_back 16 = .ok (.istore_n 2, 1) := by decide +kernel
theorem dX2_back_17 : decode cX2_back 17 = .ok (.iload_n 2, 1) := by decide +kernel
theorem dX2_back_18 : decode cX2_back 18 = .ok (.iload_n 1, 1) := by decide +kernel
theorem dX2_back_19 : decode cX2_back 19 = .ok (.if_icmp .ge 13, 3) := by decide +kernel
theorem dX2_back_22 : decode cX2_back 22 = .ok (.aload_n 0, 1) := by decide +kernel
theorem dX2_back_23 : decode cX2_back 23 = .ok (.invokevirtual 120, 3) := by decide +kernel
theorem dX2_back_26 : decode cX2_back 26 = .ok (.iinc 2 1, 3) := by decide +kernel
theorem dX2_back_29 : decode cX2_back 29 = .ok (.goto (-12), 3) := by decide +kernel
theorem dX2_back_32 : decode cX2_back 32 = .ok (.aload_n 0, 1) := by decide +kernel
theorem dX2_back_33 : decode cX2_back 33 = .ok (.invokevirtual 93, 3) := by decide +kernel
theorem dX2_back_36 : decode cX2_back 36 = .ok (.aload_n 0, 1) := by decide +kernel
theorem dX2_back_37 : decode cX2_back 37 = .ok (.getfield 90, 3) := by decide +kernel
theorem dX2_back_40 : decode cX2_back 40 = .ok (.ireturn, 1) := by decide +kernel
set_option maxRecDepth 20000 in
theorem ggX2_forms_X2_standOnNewPage : GoodIn wsX2_forms wsX2_standOnNewPage := goodIn_r _ [7, 8, 9, 10, 11, 12, 13, 14, 15, 16, 17, 18, 19, 20, 21, 22, 23, 24, 25] (by decide +kernel) (by decide +kernel)
set_option maxRecDepth 20000 in
theorem gX2_forms_X2_standOnNewPage : GoodIn wsX2_forms (wsV RX2 93 RX2 yX2_standOnNewPage wsX2_standOnNewPage) := goodIn_app (goodIn_of _ (by decide +kernel)) ggX2_forms_X2_standOnNewPage
theorem dX2_forms_0 : decode cX2_forms 0 = .ok (.iload_n 1, 1) := by decide +kernel
theorem dX2_forms_1 : decode cX2_forms 1 = .ok (.ifCond .ge 6, 3) := by decide +kernel
theorem dX2_forms_4 : decode cX2_forms 4 = .ok (.bipush (-2), 2) := by decide +kernel
theorem dX2_forms_6 : decode cX2_forms 6 = .ok (.ireturn, 1) := by decide +kernel
theorem dX2_forms_7 : decode cX2_forms 7 = .ok (.iload_n 1, 1) := by decide +kernel
theorem dX2_forms_8 : decode cX2_forms 8 = .ok (.aload_n 0, 1) := by decide +kernel
theorem dX2_forms_9 : decode cX2_forms 9 = .ok (.getfield 123, 3) := by decide +kernel
theorem dX2_forms_12 : decode cX2_forms 12 = .ok (.if_icmp .ne 5, 3) := by decide +kernel
theorem dX2_forms_15 : decode cX2_forms 15 = .ok (.iconst 1, 1) := by decide +kernel
theorem dX2_forms_16 : decode cX2_forms 16 = .ok (.ireturn, 1) := by decide +kernel
theorem dX2_forms_17 : decode cX2_forms 17 = .ok (.aload_n 0, 1) := by decide +kernel
theorem dX2_forms_18 : decode cX2_forms 18 = .ok (.iload_n 1, 1) := by decide +kernel
theorem dX2_forms_19 : decode cX2_forms 19 = .ok (.putfield 123, 3) := by decide +kernel
theorem dX2_forms_22 : decode cX2_forms 22 = .ok (.aload_n 0, 1) := by decide +kernel
theorem dX2_forms_23 : decode cX2_forms 23 = .ok (.dup, 1) := by decide +kernel
theorem dX2_forms_24 : decode cX2_forms 24 = .ok (.getfield 126, 3) := by decide +kernel
theorem dX2_forms_27 : decode cX2_forms 27 = .ok (.iconst 1, 1) := by decide +kernel
theorem dX2_forms_28 : decode cX2_forms 28 = .ok (.iadd, 1) := by decide +kernel
theorem dX2_forms_29 : decode cX2_forms 29 = .ok (.putfield 126, 3) := by decide +kernel
theorem dX2_forms_32 : decode cX2_forms 32 = .ok (.aload_n 0, 1) := by decide +kernel
theorem dX2_forms_33 : decode cX2_forms 33 = .ok (.invokevirtual 93, 3) := by decide +kernel
theorem dX2_forms_36 : decode cX2_forms 36 = .ok (.iconst 2, 1) := by decide +kernel
theorem dX2_forms_37 : decode cX2_forms 37 = .ok (.ireturn, 1) := by decide +kernel
theorem dX2_tally_0 : decode cX2_tally 0 = .ok (.iload_n 1, 1) := by decide +kernel
theorem dX2_tally_1 : decode cX2_tally 1 = .ok (.tableswitch 87 0 7 #[47, 52, 57, 62, 67, 72, 77, 82], 47) := by decide +kernel
theorem dX2_tally_48 : decode cX2_tally 48 = .ok (.aload_n 0, 1) := by decide +kernel
theorem dX2_tally_49 : decode cX2_tally 49 = .ok (.getfield 90, 3) := by decide +kernel
theorem dX2_tally_52 : decode cX2_tally 52 = .ok (.ireturn, 1) := by decide +kernel
theorem dX2_tally_53 : decode cX2_tally 53 = .ok (.aload_n 0, 1) := by decide +kernel
theorem dX2_tally_54 : decode cX2_tally 54 = .ok (.getfield 129, 3) := by decide +kernel
theorem dX2_tally_57 : decode cX2_tally 57 = .ok (.ireturn, 1) := by decide +kernel
theorem dX2_tally_58 : decode cX2_tally 58 = .ok (.aload_n 0, 1) := by decide +kernel
theorem dX2_tally_59 : decode cX2_tally 59 = .ok (.getfield 132, 3) := by decide +kernel
theorem dX2_tally_62 : decode cX2_tally 62 = .ok (.ireturn, 1) := by decide +kernel
theorem dX2_tally_63 : decode cX2_tally 63 = .ok (.aload_n 0, 1) := by decide +kernel
theorem dX2_tally_64 : decode cX2_tally 64 = .ok (.getfield 135, 3) := by decide +kernel
theorem dX2_tally_67 : decode cX2_tally 67 = .ok (.ireturn, 1) := by decide +kernel
theorem dX2_tally_68 : decode cX2_tally 68 = .ok (.aload_n 0, 1) := by decide +kernel
theorem dX2_tally_69 : decode cX2_tally 69 = .ok (.getfield 138, 3) := by decide +kernel
theorem dX2_tally_72 : decode cX2_tally 72 = .ok (.ireturn, 1) := by decide +kernel
theorem dX2_tally_73 : decode cX2_tally 73 = .ok (.aload_n 0, 1) := by decide +kernel
theorem dX2_tally_74 : decode cX2_tally 74 = .ok (.getfield 141, 3) := by decide +kernel
theorem dX2_tally_77 : decode cX2_tally 77 = .ok (.ireturn, 1) := by decide +kernel
theorem dX2_tally_78 : decode cX2_tally 78 = .ok (.aload_n 0, 1) := by decide +kernel
theorem dX2_tally_79 : decode cX2_tally 79 = .ok (.getfield 126, 3) := by decide +kernel
theorem dX2_tally_82 : decode cX2_tally 82 = .ok (.ireturn, 1) := by decide +kernel
theorem dX2_tally_83 : decode cX2_tally 83 = .ok (.aload_n 0, 1) := by decide +kernel
theorem dX2_tally_84 : decode cX2_tally 84 = .ok (.getfield 46, 3) := by decide +kernel
theorem dX2_tally_87 : decode cX2_tally 87 = .ok (.ireturn, 1) := by decide +kernel
theorem dX2_tally_88 : decode cX2_tally 88 = .ok (.iconst (-1), 1) := by decide +kernel
theorem dX2_tally_89 : decode cX2_tally 89 = .ok (.ireturn, 1) := by decide +kernel
theorem dX2_heldTo_0 : decode cX2_heldTo 0 = .ok (.iconst 1, 1) := by decide +kernel
theorem dX2_heldTo_1 : decode cX2_heldTo 1 = .ok (.iload_n 0, 1) := by decide +kernel
theorem dX2_heldTo_2 : decode cX2_heldTo 2 = .ok (.iload_n 1, 1) := by decide +kernel
theorem dX2_heldTo_3 : decode cX2_heldTo 3 = .ok (.invokestatic 144, 3) := by decide +kernel
theorem dX2_heldTo_6 : decode cX2_heldTo 6 = .ok (.invokestatic 54, 3) := by decide +kernel
theorem dX2_heldTo_9 : decode cX2_heldTo 9 = .ok (.ireturn, 1) := by decide +kernel
theorem dX2_isChannel_0 : decode cX2_isChannel 0 = .ok (.iload_n 0, 1) := by decide +kernel
theorem dX2_isChannel_1 : decode cX2_isChannel 1 = .ok (.iconst 1, 1) := by decide +kernel
theorem dX2_isChannel_2 : decode cX2_isChannel 2 = .ok (.if_icmp .lt 13, 3) := by decide +kernel
theorem dX2_isChannel_5 : decode cX2_isChannel 5 = .ok (.iload_n 0, 1) := by decide +kernel
theorem dX2_isChannel_6 : decode cX2_isChannel 6 = .ok (.bipush 12, 2) := by decide +kernel
theorem dX2_isChannel_8 : decode cX2_isChannel 8 = .ok (.if_icmp .gt 7, 3) := by decide +kernel
theorem dX2_isChannel_11 : decode cX2_isChannel 11 = .ok (.iconst 1, 1) := by decide +kernel
theorem dX2_isChannel_12 : decode cX2_isChannel 12 = .ok (.goto 4, 3) := by decide +kernel
theorem dX2_isChannel_15 : decode cX2_isChannel 15 = .ok (.iconst 0, 1) := by decide +kernel
theorem dX2_isChannel_16 : decode cX2_isChannel 16 = .ok (.ireturn, 1) := by decide +kernel
theorem dX2_isSign_0 : decode cX2_isSign 0 = .ok (.iload_n 0, 1) := by decide +kernel
theorem dX2_isSign_1 : decode cX2_isSign 1 = .ok (.bipush 32, 2) := by decide +kernel
theorem dX2_isSign_3 : decode cX2_isSign 3 = .ok (.if_icmp .lt 14, 3) := by decide +kernel
theorem dX2_isSign_6 : decode cX2_isSign 6 = .ok (.iload_n 0, 1) := by decide +kernel
theorem dX2_isSign_7 : decode cX2_isSign 7 = .ok (.sipush 255, 3) := by decide +kernel
theorem dX2_isSign_10 : decode cX2_isSign 10 = .ok (.if_icmp .gt 7, 3) := by decide +kernel
theorem dX2_isSign_13 : decode cX2_isSign 13 = .ok (.iconst 1, 1) := by decide +kernel
theorem dX2_isSign_14 : decode cX2_isSign 14 = .ok (.goto 4, 3) := by decide +kernel
theorem dX2_isSign_17 : decode cX2_isSign 17 = .ok (.iconst 0, 1) := by decide +kernel
theorem dX2_isSign_18 : decode cX2_isSign 18 = .ok (.ireturn, 1) := by decide +kernel
theorem dX2_darker_0 : decode cX2_darker 0 = .ok (.iload_n 0, 1) := by decide +kernel
theorem dX2_darker_1 : decode cX2_darker 1 = .ok (.iload_n 1, 1) := by decide +kernel
theorem dX2_darker_2 : decode cX2_darker 2 = .ok (.invokestatic 54, 3) := by decide +kernel
theorem dX2_darker_5 : decode cX2_darker 5 = .ok (.ireturn, 1) := by decide +kernel
set_option maxRecDepth 20000 in
theorem ggX2_isSecondKind_X2_isPlainSecondKind : GoodIn wsX2_isSecondKind wsX2_isPlainSecondKind := goodIn_r _ [4] (by decide +kernel) (by decide +kernel)
set_option maxRecDepth 20000 in
theorem gX2_isSecondKind_X2_isPlainSecondKind : GoodIn wsX2_isSecondKind (va_wsS RX2 147 yX2_isPlainSecondKind wsX2_isPlainSecondKind) := goodIn_app (goodIn_of _ (by decide +kernel)) ggX2_isSecondKind_X2_isPlainSecondKind
set_option maxRecDepth 20000 in
theorem ggX2_isSecondKind_X2_isChannel : GoodIn wsX2_isSecondKind wsX2_isChannel := goodIn_r _ [7] (by decide +kernel) (by decide +kernel)
set_option maxRecDepth 20000 in
theorem gX2_isSecondKind_X2_isChannel : GoodIn wsX2_isSecondKind (va_wsS RX2 42 yX2_isChannel wsX2_isChannel) := goodIn_app (goodIn_of _ (by decide +kernel)) ggX2_isSecondKind_X2_isChannel
theorem dX2_isSecondKind_0 : decode cX2_isSecondKind 0 = .ok (.iload_n 0, 1) := by decide +kernel
theorem dX2_isSecondKind_1 : decode cX2_isSecondKind 1 = .ok (.invokestatic 147, 3) := by decide +kernel
theorem dX2_isSecondKind_4 : decode cX2_isSecondKind 4 = .ok (.ifCond .ne 14, 3) := by decide +kernel
theorem dX2_isSecondKind_7 : decode cX2_isSecondKind 7 = .ok (.iload_n 0, 1) := by decide +kernel
theorem dX2_isSecondKind_8 : decode cX2_isSecondKind 8 = .ok (.sipush 272, 3) := by decide +kernel
theorem dX2_isSecondKind_11 : decode cX2_isSecondKind 11 = .ok (.isub, 1) := by decide +kernel
theorem dX2_isSecondKind_12 : decode cX2_isSecondKind 12 = .ok (.invokestatic 42, 3) := by decide +kernel
theorem dX2_isSecondKind_15 : decode cX2_isSecondKind 15 = .ok (.ifCond .eq 7, 3) := by decide +kernel
theorem dX2_isSecondKind_18 : decode cX2_isSecondKind 18 = .ok (.iconst 1, 1) := by decide +kernel
theorem dX2_isSecondKind_19 : decode cX2_isSecondKind 19 = .ok (.goto 4, 3) := by decide +kernel
theorem dX2_isSecondKind_22 : decode cX2_isSecondKind 22 = .ok (.iconst 0, 1) := by decide +kernel
theorem dX2_isSecondKind_23 : decode cX2_isSecondKind 23 = .ok (.ireturn, 1) := by decide +kernel
theorem dX2_isPlainSecondKind_0 : decode cX2_isPlainSecondKind 0 = .ok (.iload_n 0, 1) := by decide +kernel
theorem dX2_isPlainSecondKind_1 : decode cX2_isPlainSecondKind 1 = .ok (.sipush 256, 3) := by decide +kernel
theorem dX2_isPlainSecondKind_4 : decode cX2_isPlainSecondKind 4 = .ok (.if_icmp .lt 14, 3) := by decide +kernel
theorem dX2_isPlainSecondKind_7 : decode cX2_isPlainSecondKind 7 = .ok (.iload_n 0, 1) := by decide +kernel
theorem dX2_isPlainSecondKind_8 : decode cX2_isPlainSecondKind 8 = .ok (.sipush 259, 3) := by decide +kernel
theorem dX2_isPlainSecondKind_11 : decode cX2_isPlainSecondKind 11 = .ok (.if_icmp .gt 7, 3) := by decide +kernel
theorem dX2_isPlainSecondKind_14 : decode cX2_isPlainSecondKind 14 = .ok (.iconst 1, 1) := by decide +kernel
theorem dX2_isPlainSecondKind_15 : decode cX2_isPlainSecondKind 15 = .ok (.goto 4, 3) := by decide +kernel
theorem dX2_isPlainSecondKind_18 : decode cX2_isPlainSecondKind 18 = .ok (.iconst 0, 1) := by decide +kernel
theorem dX2_isPlainSecondKind_19 : decode cX2_isPlainSecondKind 19 = .ok (.ireturn, 1) := by decide +kernel
set_option maxRecDepth 20000 in
theorem ggX2_channelOfCode_X2_isChannel : GoodIn wsX2_channelOfCode wsX2_isChannel := goodIn_r _ [4] (by decide +kernel) (by decide +kernel)
set_option maxRecDepth 20000 in
theorem gX2_channelOfCode_X2_isChannel : GoodIn wsX2_channelOfCode (va_wsS RX2 42 yX2_isChannel wsX2_isChannel) := goodIn_app (goodIn_of _ (by decide +kernel)) ggX2_channelOfCode_X2_isChannel
theorem dX2_channelOfCode_0 : decode cX2_channelOfCode 0 = .ok (.iload_n 0, 1) := by decide +kernel
theorem dX2_channelOfCode_1 : decode cX2_channelOfCode 1 = .ok (.bipush 49, 2) := by decide +kernel
theorem dX2_channelOfCode_3 : decode cX2_channelOfCode 3 = .ok (.if_icmp .lt 14, 3) := by decide +kernel
theorem dX2_channelOfCode_6 : decode cX2_channelOfCode 6 = .ok (.iload_n 0, 1) := by decide +kernel
theorem dX2_channelOfCode_7 : decode cX2_channelOfCode 7 = .ok (.bipush 57, 2) := by decide +kernel
theorem dX2_channelOfCode_9 : decode cX2_channelOfCode 9 = .ok (.if_icmp .gt 8, 3) := by decide +kernel
theorem dX2_channelOfCode_12 : decode cX2_channelOfCode 12 = .ok (.iload_n 0, 1) := by decide +kernel
theorem dX2_channelOfCode_13 : decode cX2_channelOfCode 13 = .ok (.bipush 48, 2) := by decide +kernel
theorem dX2_channelOfCode_15 : decode cX2_channelOfCode 15 = .ok (.isub, 1) := by decide +kernel
theorem dX2_channelOfCode_16 : decode cX2_channelOfCode 16 = .ok (.ireturn, 1) := by decide +kernel
theorem dX2_channelOfCode_17 : decode cX2_channelOfCode 17 = .ok (.iload_n 0, 1) := by decide +kernel
theorem dX2_channelOfCode_18 : decode cX2_channelOfCode 18 = .ok (.bipush 65, 2) := by decide +kernel
theorem dX2_channelOfCode_20 : decode cX2_channelOfCode 20 = .ok (.if_icmp .lt 17, 3) := by decide +kernel
theorem dX2_channelOfCode_23 : decode cX2_channelOfCode 23 = .ok (.iload_n 0, 1) := by decide +kernel
theorem dX2_channelOfCode_24 : decode cX2_channelOfCode 24 = .ok (.bipush 67, 2) := by decide +kernel
theorem dX2_channelOfCode_26 : decode cX2_channelOfCode 26 = .ok (.if_icmp .gt 11, 3) := by decide +kernel
theorem dX2_channelOfCode_29 : decode cX2_channelOfCode 29 = .ok (.iload_n 0, 1) := by decide +kernel
theorem dX2_channelOfCode_30 : decode cX2_channelOfCode 30 = .ok (.bipush 65, 2) := by decide +kernel
theorem dX2_channelOfCode_32 : decode cX2_channelOfCode 32 = .ok (.isub, 1) := by decide +kernel
theorem dX2_channelOfCode_33 : decode cX2_channelOfCode 33 = .ok (.bipush 10, 2) := by decide +kernel
theorem dX2_channelOfCode_35 : decode cX2_channelOfCode 35 = .ok (.iadd, 1) := by decide +kernel
theorem dX2_channelOfCode_36 : decode cX2_channelOfCode 36 = .ok (.ireturn, 1) := by decide +kernel
theorem dX2_channelOfCode_37 : decode cX2_channelOfCode 37 = .ok (.iload_n 0, 1) := by decide +kernel
theorem dX2_channelOfCode_38 : decode cX2_channelOfCode 38 = .ok (.sipush 272, 3) := by decide +kernel
theorem dX2_channelOfCode_41 : decode cX2_channelOfCode 41 = .ok (.isub, 1) := by decide +kernel
theorem dX2_channelOfCode_42 : decode cX2_channelOfCode 42 = .ok (.istore_n 1, 1) := by decide +kernel
theorem dX2_channelOfCode_43 : decode cX2_channelOfCode 43 = .ok (.iload_n 1, 1) := by decide +kernel
theorem dX2_channelOfCode_44 : decode cX2_channelOfCode 44 = .ok (.invokestatic 42, 3) := by decide +kernel
theorem dX2_channelOfCode_47 : decode cX2_channelOfCode 47 = .ok (.ifCond .eq 7, 3) := by decide +kernel
theorem dX2_channelOfCode_50 : decode cX2_channelOfCode 50 = .ok (.iload_n 1, 1) := by decide +kernel
theorem dX2_channelOfCode_51 : decode cX2_channelOfCode 51 = .ok (.goto 4, 3) := by decide +kernel
theorem dX2_channelOfCode_54 : decode cX2_channelOfCode 54 = .ok (.iconst (-1), 1) := by decide +kernel
theorem dX2_channelOfCode_55 : decode cX2_channelOfCode 55 = .ok (.ireturn, 1) := by decide +kernel
set_option maxRecDepth 20000 in
theorem ggX2_linesOfCode_X2_isPlainSecondKind : GoodIn wsX2_linesOfCode wsX2_isPlainSecondKind := goodIn_r _ [4] (by decide +kernel) (by decide +kernel)
set_option maxRecDepth 20000 in
theorem gX2_linesOfCode_X2_isPlainSecondKind : GoodIn wsX2_linesOfCode (va_wsS RX2 147 yX2_isPlainSecondKind wsX2_isPlainSecondKind) := goodIn_app (goodIn_of _ (by decide +kernel)) ggX2_linesOfCode_X2_isPlainSecondKind
theorem dX2_linesOfCode_0 : decode cX2_linesOfCode 0 = .ok (.iload_n 0, 1) := by decide +kernel
theorem dX2_linesOfCode_1 : decode cX2_linesOfCode 1 = .ok (.invokestatic 147, 3) := by decide +kernel
theorem dX2_linesOfCode_4 : decode cX2_linesOfCode 4 = .ok (.ifCond .eq 9, 3) := by decide +kernel
theorem dX2_linesOfCode_7 : decode cX2_linesOfCode 7 = .ok (.iload_n 0, 1) := by decide +kernel
theorem dX2_linesOfCode_8 : decode cX2_linesOfCode 8 = .ok (.sipush 256, 3) := by decide +kernel
theorem dX2_linesOfCode_11 : decode cX2_linesOfCode 11 = .ok (.isub, 1) := by decide +kernel
theorem dX2_linesOfCode_12 : decode cX2_linesOfCode 12 = .ok (.ireturn, 1) := by decide +kernel
theorem dX2_linesOfCode_13 : decode cX2_linesOfCode 13 = .ok (.iload_n 0, 1) := by decide +kernel
theorem dX2_linesOfCode_14 : decode cX2_linesOfCode 14 = .ok (.lookupswitch 40 #[(43, 34), (45, 38), (48, 36)], 34) := by decide +kernel
theorem dX2_linesOfCode_48 : decode cX2_linesOfCode 48 = .ok (.iconst 0, 1) := by decide +kernel
theorem dX2_linesOfCode_49 : decode cX2_linesOfCode 49 = .ok (.ireturn, 1) := by decide +kernel
theorem dX2_linesOfCode_50 : decode cX2_linesOfCode 50 = .ok (.iconst 2, 1) := by decide +kernel
theorem dX2_linesOfCode_51 : decode cX2_linesOfCode 51 = .ok (.ireturn, 1) := by decide +kernel
theorem dX2_linesOfCode_52 : decode cX2_linesOfCode 52 = .ok (.iconst 3, 1) := by decide +kernel
theorem dX2_linesOfCode_53 : decode cX2_linesOfCode 53 = .ok (.ireturn, 1) := by decide +kernel
theorem dX2_linesOfCode_54 : decode cX2_linesOfCode 54 = .ok (.iconst 1, 1) := by decide +kernel
theorem dX2_linesOfCode_55 : decode cX2_linesOfCode 55 = .ok (.ireturn, 1) := by decide +kernel
set_option maxRecDepth 20000 in
theorem ggX2_wayTo_X2_isChannel : GoodIn wsX2_wayTo wsX2_isChannel := goodIn_r _ [7] (by decide +kernel) (by decide +kernel)
set_option maxRecDepth 20000 in
theorem gX2_wayTo_X2_isChannel : GoodIn wsX2_wayTo (va_wsS RX2 42 yX2_isChannel wsX2_isChannel) := goodIn_app (goodIn_of _ (by decide +kernel)) ggX2_wayTo_X2_isChannel
theorem dX2_wayTo_0 : decode cX2_wayTo 0 = .ok (.iload_n 1, 1) := by decide +kernel
theorem dX2_wayTo_1 : decode cX2_wayTo 1 = .ok (.invokestatic 42, 3) := by decide +kernel
theorem dX2_wayTo_4 : decode cX2_wayTo 4 = .ok (.ifCond .eq 12, 3) := by decide +kernel
theorem dX2_wayTo_7 : decode cX2_wayTo 7 = .ok (.aload_n 0, 1) := by decide +kernel
theorem dX2_wayTo_8 : decode cX2_wayTo 8 = .ok (.getfield 20, 3) := by decide +kernel
theorem dX2_wayTo_11 : decode cX2_wayTo 11 = .ok (.iload_n 1, 1) := by decide +kernel
theorem dX2_wayTo_12 : decode cX2_wayTo 12 = .ok (.iaload, 1) := by decide +kernel
theorem dX2_wayTo_13 : decode cX2_wayTo 13 = .ok (.goto 4, 3) := by decide +kernel
theorem dX2_wayTo_16 : decode cX2_wayTo 16 = .ok (.iconst (-1), 1) := by decide +kernel
theorem dX2_wayTo_17 : decode cX2_wayTo 17 = .ok (.istore_n 2, 1) := by decide +kernel
theorem dX2_wayTo_18 : decode cX2_wayTo 18 = .ok (.iload_n 2, 1) := by decide +kernel
theorem dX2_wayTo_19 : decode cX2_wayTo 19 = .ok (.iconst (-1), 1) := by decide +kernel
theorem dX2_wayTo_20 : decode cX2_wayTo 20 = .ok (.if_icmp .ne 8, 3) := by decide +kernel
theorem dX2_wayTo_23 : decode cX2_wayTo 23 = .ok (.aload_n 0, 1) := by decide +kernel
theorem dX2_wayTo_24 : decode cX2_wayTo 24 = .ok (.getfield 13, 3) := by decide +kernel
theorem dX2_wayTo_27 : decode cX2_wayTo 27 = .ok (.ireturn, 1) := by decide +kernel
theorem dX2_wayTo_28 : decode cX2_wayTo 28 = .ok (.iload_n 2, 1) := by decide +kernel
theorem dX2_wayTo_29 : decode cX2_wayTo 29 = .ok (.aload_n 0, 1) := by decide +kernel
theorem dX2_wayTo_30 : decode cX2_wayTo 30 = .ok (.getfield 129, 3) := by decide +kernel
theorem dX2_wayTo_33 : decode cX2_wayTo 33 = .ok (.if_icmp .le 12, 3) := by decide +kernel
theorem dX2_wayTo_36 : decode cX2_wayTo 36 = .ok (.iload_n 2, 1) := by decide +kernel
theorem dX2_wayTo_37 : decode cX2_wayTo 37 = .ok (.aload_n 0, 1) := by decide +kernel
theorem dX2_wayTo_38 : decode cX2_wayTo 38 = .ok (.getfield 129, 3) := by decide +kernel
theorem dX2_wayTo_41 : decode cX2_wayTo 41 = .ok (.isub, 1) := by decide +kernel
theorem dX2_wayTo_42 : decode cX2_wayTo 42 = .ok (.goto 14, 3) := by decide +kernel
theorem dX2_wayTo_45 : decode cX2_wayTo 45 = .ok (.iload_n 2, 1) := by decide +kernel
theorem dX2_wayTo_46 : decode cX2_wayTo 46 = .ok (.aload_n 0, 1) := by decide +kernel
theorem dX2_wayTo_47 : decode cX2_wayTo 47 = .ok (.getfield 129, 3) := by decide +kernel
theorem dX2_wayTo_50 : decode cX2_wayTo 50 = .ok (.isub, 1) := by decide +kernel
theorem dX2_wayTo_51 : decode cX2_wayTo 51 = .ok (.aload_n 0, 1) := by decide +kernel
theorem dX2_wayTo_52 : decode cX2_wayTo 52 = .ok (.getfield 13, 3) := by decide +kernel
theorem dX2_wayTo_55 : decode cX2_wayTo 55 = .ok (.iadd, 1) := by decide +kernel
theorem dX2_wayTo_56 : decode cX2_wayTo 56 = .ok (.ireturn, 1) := by decide +kernel
set_option maxRecDepth 20000 in
theorem ggX2_countSkip_X2_isChannel : GoodIn wsX2_countSkip wsX2_isChannel := goodIn_r _ [6] (by decide +kernel) (by decide +kernel)
set_option maxRecDepth 20000 in
theorem gX2_countSkip_X2_isChannel : GoodIn wsX2_countSkip (va_wsS RX2 42 yX2_isChannel wsX2_isChannel) := goodIn_app (goodIn_of _ (by decide +kernel)) ggX2_countSkip_X2_isChannel
theorem dX2_countSkip_0 : decode cX2_countSkip 0 = .ok (.iload_n 1, 1) := by decide +kernel
theorem dX2_countSkip_1 : decode cX2_countSkip 1 = .ok (.invokestatic 42, 3) := by decide +kernel
theorem dX2_countSkip_4 : decode cX2_countSkip 4 = .ok (.ifCond .eq 23, 3) := by decide +kernel
theorem dX2_countSkip_7 : decode cX2_countSkip 7 = .ok (.aload_n 0, 1) := by decide +kernel
theorem dX2_countSkip_8 : decode cX2_countSkip 8 = .ok (.getfield 20, 3) := by decide +kernel
theorem dX2_countSkip_11 : decode cX2_countSkip 11 = .ok (.iload_n 1, 1) := by decide +kernel
theorem dX2_countSkip_12 : decode cX2_countSkip 12 = .ok (.iaload, 1) := by decide +kernel
theorem dX2_countSkip_13 : decode cX2_countSkip 13 = .ok (.iconst (-1), 1) := by decide +kernel
theorem dX2_countSkip_14 : decode cX2_countSkip 14 = .ok (.if_icmp .ne 13, 3) := by decide +kernel
theorem dX2_countSkip_17 : decode cX2_countSkip 17 = .ok (.aload_n 0, 1) := by decide +kernel
theorem dX2_countSkip_18 : decode cX2_countSkip 18 = .ok (.dup, 1) := by decide +kernel
theorem dX2_countSkip_19 : decode cX2_countSkip 19 = .ok (.getfield 141, 3) := by decide +kernel
theorem dX2_countSkip_22 : decode cX2_countSkip 22 = .ok (.iconst 1, 1) := by decide +kernel
theorem dX2_countSkip_23 : decode cX2_countSkip 23 = .ok (.iadd, 1) := by decide +kernel
theorem dX2_countSkip_24 : decode cX2_countSkip 24 = .ok (.putfield 141, 3) := by decide +kernel
theorem dX2_countSkip_27 : decode cX2_countSkip 27 = .ok (.return_, 1) := by decide +kernel
theorem dX2_standPage_0 : decode cX2_standPage 0 = .ok (.aload_n 0, 1) := by decide +kernel
theorem dX2_standPage_1 : decode cX2_standPage 1 = .ok (.getfield 150, 3) := by decide +kernel
theorem dX2_standPage_4 : decode cX2_standPage 4 = .ok (.ifCond .eq 12, 3) := by decide +kernel
theorem dX2_standPage_7 : decode cX2_standPage 7 = .ok (.aload_n 0, 1) := by decide +kernel
theorem dX2_standPage_8 : decode cX2_standPage 8 = .ok (.getfield 90, 3) := by decide +kernel
theorem dX2_standPage_11 : decode cX2_standPage 11 = .ok (.iconst 1, 1) := by decide +kernel
theorem dX2_standPage_12 : decode cX2_standPage 12 = .ok (.isub, 1) := by decide +kernel
theorem dX2_standPage_13 : decode cX2_standPage 13 = .ok (.goto 7, 3) := by decide +kernel
theorem dX2_standPage_16 : decode cX2_standPage 16 = .ok (.aload_n 0, 1) := by decide +kernel
theorem dX2_standPage_17 : decode cX2_standPage 17 = .ok (.getfield 90, 3) := by decide +kernel
theorem dX2_standPage_20 : decode cX2_standPage 20 = .ok (.ireturn, 1) := by decide +kernel
set_option maxRecDepth 20000 in
theorem ggX2_pageAfter_X2_standPage : GoodIn wsX2_pageAfter wsX2_standPage := goodIn_r _ [7, 8, 9, 10, 11, 12, 13, 14, 15, 16, 17, 18, 19, 20, 21, 22, 23, 24, 25] (by decide +kernel) (by decide +kernel)
set_option maxRecDepth 20000 in
theorem gX2_pageAfter_X2_standPage : GoodIn wsX2_pageAfter (wsV RX2 154 RX2 yX2_standPage wsX2_standPage) := goodIn_app (goodIn_of _ (by decide +kernel)) ggX2_pageAfter_X2_standPage
theorem dX2_pageAfter_0 : decode cX2_pageAfter 0 = .ok (.aload_n 0, 1) := by decide +kernel
theorem dX2_pageAfter_1 : decode cX2_pageAfter 1 = .ok (.invokevirtual 154, 3) := by decide +kernel
theorem dX2_pageAfter_4 : decode cX2_pageAfter 4 = .ok (.aload_n 0, 1) := by decide +kernel
theorem dX2_pageAfter_5 : decode cX2_pageAfter 5 = .ok (.getfield 129, 3) := by decide +kernel
theorem dX2_pageAfter_8 : decode cX2_pageAfter 8 = .ok (.iload_n 1, 1) := by decide +kernel
theorem dX2_pageAfter_9 : decode cX2_pageAfter 9 = .ok (.iadd, 1) := by decide +kernel
theorem dX2_pageAfter_10 : decode cX2_pageAfter 10 = .ok (.aload_n 0, 1) := by decide +kernel
theorem dX2_pageAfter_11 : decode cX2_pageAfter 11 = .ok (.getfield 13, 3) := by decide +kernel
theorem dX2_pageAfter_14 : decode cX2_pageAfter 14 = .ok (.idiv, 1) := by decide +kernel
theorem dX2_pageAfter_15 : decode cX2_pageAfter 15 = .ok (.iadd, 1) := by decide +kernel
theorem dX2_pageAfter_16 : decode cX2_pageAfter 16 = .ok (.ireturn, 1) := by decide +kernel
set_option maxRecDepth 20000 in
theorem ggX2_canPrintHere_X2_standPage : GoodIn wsX2_canPrintHere wsX2_standPage := goodIn_r _ [5, 6, 7, 8, 9, 10, 11, 12, 13, 14, 15, 16, 17, 18, 19, 20, 21, 22, 23] (by decide +kernel) (by decide +kernel)
set_option maxRecDepth 20000 in
theorem gX2_canPrintHere_X2_standPage : GoodIn wsX2_canPrintHere (wsV RX2 154 RX2 yX2_standPage wsX2_standPage) := goodIn_app (goodIn_of _ (by decide +kernel)) ggX2_canPrintHere_X2_standPage
theorem dX2_canPrintHere_0 : decode cX2_canPrintHere 0 = .ok (.aload_n 0, 1) := by decide +kernel
theorem dX2_canPrintHere_1 : decode cX2_canPrintHere 1 = .ok (.invokevirtual 154, 3) := by decide +kernel
theorem dX2_canPrintHere_4 : decode cX2_canPrintHere 4 = .ok (.bipush 40, 2) := by decide +kernel
theorem dX2_canPrintHere_6 : decode cX2_canPrintHere 6 = .ok (.if_icmp .ge 7, 3) := by decide +kernel
theorem dX2_canPrintHere_9 : decode cX2_canPrintHere 9 = .ok (.iconst 1, 1) := by decide +kernel
theorem dX2_canPrintHere_10 : decode cX2_canPrintHere 10 = .ok (.goto 4, 3) := by decide +kernel
theorem dX2_canPrintHere_13 : decode cX2_canPrintHere 13 = .ok (.iconst 0, 1) := by decide +kernel
theorem dX2_canPrintHere_14 : decode cX2_canPrintHere 14 = .ok (.ireturn, 1) := by decide +kernel
set_option maxRecDepth 20000 in
theorem ggX2_canPrintAfter_X2_pageAfter : GoodIn wsX2_canPrintAfter wsX2_pageAfter := goodIn_r _ [5, 6, 7, 8, 9, 10, 4, 11, 12, 13, 14, 15, 16, 17, 18, 19, 20, 21, 22, 23, 24, 25, 26, 27, 28, 29] (by decide +kernel) (by decide +kernel)
set_option maxRecDepth 20000 in
theorem gX2_canPrintAfter_X2_pageAfter : GoodIn wsX2_canPrintAfter (wsV RX2 158 RX2 yX2_pageAfter wsX2_pageAfter) := goodIn_app (goodIn_of _ (by decide +kernel)) ggX2_canPrintAfter_X2_pageAfter
theorem dX2_canPrintAfter_0 : decode cX2_canPrintAfter 0 = .ok (.aload_n 0, 1) := by decide +kernel
theorem dX2_canPrintAfter_1 : decode cX2_canPrintAfter 1 = .ok (.iload_n 1, 1) := by decide +kernel
theorem dX2_canPrintAfter_2 : decode cX2_canPrintAfter 2 = .ok (.invokevirtual 158, 3) := by decide +kernel
theorem dX2_canPrintAfter_5 : decode cX2_canPrintAfter 5 = .ok (.bipush 40, 2) := by decide +kernel
theorem dX2_canPrintAfter_7 : decode cX2_canPrintAfter 7 = .ok (.if_icmp .ge 7, 3) := by decide +kernel
theorem dX2_canPrintAfter_10 : decode cX2_canPrintAfter 10 = .ok (.iconst 1, 1) := by decide +kernel
theorem dX2_canPrintAfter_11 : decode cX2_canPrintAfter 11 = .ok (.goto 4, 3) := by decide +kernel
theorem dX2_canPrintAfter_14 : decode cX2_canPrintAfter 14 = .ok (.iconst 0, 1) := by decide +kernel
theorem dX2_canPrintAfter_15 : decode cX2_canPrintAfter 15 = .ok (.ireturn, 1) := by decide +kernel
set_option maxRecDepth 20000 in
theorem ggX2_canMove_X2_pageAfter : GoodIn wsX2_canMove wsX2_pageAfter := goodIn_r _ [5, 6, 7, 8, 9, 10, 4, 11, 12, 13, 14, 15, 16, 17, 18, 19, 20, 21, 22, 23, 24, 25, 26, 27, 28, 29] (by decide +kernel) (by decide +kernel)
set_option maxRecDepth 20000 in
theorem gX2_canMove_X2_pageAfter : GoodIn wsX2_canMove (wsV RX2 158 RX2 yX2_pageAfter wsX2_pageAfter) := goodIn_app (goodIn_of _ (by decide +kernel)) ggX2_canMove_X2_pageAfter
theorem dX2_canMove_0 : decode cX2_canMove 0 = .ok (.aload_n 0, 1) := by decide +kernel
theorem dX2_canMove_1 : decode cX2_canMove 1 = .ok (.iload_n 1, 1) := by decide +kernel
theorem dX2_canMove_2 : decode cX2_canMove 2 = .ok (.invokevirtual 158, 3) := by decide +kernel
theorem dX2_canMove_5 : decode cX2_canMove 5 = .ok (.bipush 40, 2) := by decide +kernel
theorem dX2_canMove_7 : decode cX2_canMove 7 = .ok (.if_icmp .gt 7, 3) := by decide +kernel
theorem dX2_canMove_10 : decode cX2_canMove 10 = .ok (.iconst 1, 1) := by decide +kernel
theorem dX2_canMove_11 : decode cX2_canMove 11 = .ok (.goto 4, 3) := by decide +kernel
theorem dX2_canMove_14 : decode cX2_canMove 14 = .ok (.iconst 0, 1) := by decide +kernel
theorem dX2_canMove_15 : decode cX2_canMove 15 = .ok (.ireturn, 1) := by decide +kernel
set_option maxRecDepth 20000 in
theorem ggX2_moveBy_X2_beginPage : GoodIn wsX2_moveBy wsX2_beginPage := goodIn_r _ [7, 8, 9, 10, 11, 2, 12, 13, 14, 15, 16, 17, 18, 19, 20, 21, 22, 23, 24, 25, 26, 27, 28, 6, 29, 30, 31, 36, 37, 38, 39, 40, 41, 42, 43, 44, 45, 46, 47, 48, 49, 50, 51, 52, 53] (by decide +kernel) (by decide +kernel)
set_option maxRecDepth 20000 in
theorem gX2_moveBy_X2_beginPage : GoodIn wsX2_moveBy (wsV RX2 161 RX2 yX2_beginPage wsX2_beginPage) := goodIn_app (goodIn_of _ (by decide +kernel)) ggX2_moveBy_X2_beginPage
set_option maxRecDepth 20000 in
theorem ggX2_moveBy_X2_standOnNewPage : GoodIn wsX2_moveBy wsX2_standOnNewPage := goodIn_r _ [35, 8, 1, 36, 37, 38, 39, 40, 41, 42, 43, 44, 45, 46, 47, 48, 49, 50, 51] (by decide +kernel) (by decide +kernel)
set_option maxRecDepth 20000 in
theorem gX2_moveBy_X2_standOnNewPage : GoodIn wsX2_moveBy (wsV RX2 93 RX2 yX2_standOnNewPage wsX2_standOnNewPage) := goodIn_app (goodIn_of _ (by decide +kernel)) ggX2_moveBy_X2_standOnNewPage
theorem dX2_moveBy_0 : decode cX2_moveBy 0 = .ok (.iconst 0, 1) := by decide +kernel
theorem dX2_moveBy_1 : decode cX2_moveBy 1 = .ok (.istore_n 2, 1) := by decide +kernel
theorem dX2_moveBy_2 : decode cX2_moveBy 2 = .ok (.iload_n 2, 1) := by decide +kernel
theorem dX2_moveBy_3 : decode cX2_moveBy 3 = .ok (.iload_n 1, 1) := by decide +kernel
theorem dX2_moveBy_4 : decode cX2_moveBy 4 = .ok (.if_icmp .ge 43, 3) := by decide +kernel
theorem dX2_moveBy_7 : decode cX2_moveBy 7 = .ok (.aload_n 0, 1) := by decide +kernel
theorem dX2_moveBy_8 : decode cX2_moveBy 8 = .ok (.getfield 129, 3) := by decide +kernel
theorem dX2_moveBy_11 : decode cX2_moveBy 11 = .ok (.iconst 1, 1) := by decide +kernel
theorem dX2_moveBy_12 : decode cX2_moveBy 12 = .ok (.iadd, 1) := by decide +kernel
theorem dX2_moveBy_13 : decode cX2_moveBy 13 = .ok (.aload_n 0, 1) := by decide +kernel
theorem dX2_moveBy_14 : decode cX2_moveBy 14 = .ok (.getfield 13, 3) := by decide +kernel
theorem dX2_moveBy_17 : decode cX2_moveBy 17 = .ok (.if_icmp .ge 16, 3) := by decide +kernel
theorem dX2_moveBy_20 : decode cX2_moveBy 20 = .ok (.aload_n 0, 1) := by decide +kernel
theorem dX2_moveBy_21 : decode cX2_moveBy 21 = .ok (.dup, 1) := by decide +kernel
theorem dX2_moveBy_22 : decode cX2_moveBy 22 = .ok (.getfield 129, 3) := by decide +kernel
theorem dX2_moveBy_25 : decode cX2_moveBy 25 = .ok (.iconst 1, 1) := by decide +kernel
theorem dX2_moveBy_26 : decode cX2_moveBy 26 = .ok (.iadd, 1) := by decide +kernel
theorem dX2_moveBy_27 : decode cX2_moveBy 27 = .ok (.putfield 129, 3) := by decide +kernel
theorem dX2_moveBy_30 : decode cX2_moveBy 30 = .ok (.goto 11, 3) := by decide +kernel
theorem dX2_moveBy_33 : decode cX2_moveBy 33 = .ok (.aload_n 0, 1) := by decide +kernel
theorem dX2_moveBy_34 : decode cX2_moveBy 34 = .ok (.invokevirtual 161, 3) := by decide +kernel
theorem dX2_moveBy_37 : decode cX2_moveBy 37 = .ok (.aload_n 0, 1) := by decide +kernel
theorem dX2_moveBy_38 : decode cX2_moveBy 38 = .ok (.invokevirtual 93, 3) := by decide +kernel
theorem dX2_moveBy_41 : decode cX2_moveBy 41 = .ok (.iinc 2 1, 3) := by decide +kernel
theorem dX2_moveBy_44 : decode cX2_moveBy 44 = .ok (.goto (-42), 3) := by decide +kernel
theorem dX2_moveBy_47 : decode cX2_moveBy 47 = .ok (.return_, 1) := by decide +kernel
theorem dX2_standOnNewPage_0 : decode cX2_standOnNewPage 0 = .ok (.aload_n 0, 1) := by decide +kernel
theorem dX2_standOnNewPage_1 : decode cX2_standOnNewPage 1 = .ok (.iconst 0, 1) := by decide +kernel
theorem dX2_standOnNewPage_2 : decode cX2_standOnNewPage 2 = .ok (.putfield 150, 3) := by decide +kernel
theorem dX2_standOnNewPage_5 : decode cX2_standOnNewPage 5 = .ok (.aload_n 0, 1) := by decide +kernel
theorem dX2_standOnNewPage_6 : decode cX2_standOnNewPage 6 = .ok (.iconst 0, 1) := by decide +kernel
theorem dX2_standOnNewPage_7 : decode cX2_standOnNewPage 7 = .ok (.putfield 129, 3) := by decide +kernel
theorem dX2_standOnNewPage_10 : decode cX2_standOnNewPage 10 = .ok (.return_, 1) := by decide +kernel
set_option maxRecDepth 20000 in
theorem ggX2_beginPage_X0_init : GoodIn wsX2_beginPage wsX0_init := goodIn_r _ [9, 10, 11, 12, 13, 14, 15, 16, 17, 18, 19, 43, 44] (by decide +kernel) (by decide +kernel)
set_option maxRecDepth 20000 in
theorem gX2_beginPage_X0_init : GoodIn wsX2_beginPage (wsX0_init) := ggX2_beginPage_X0_init
set_option maxRecDepth 20000 in
theorem ggX2_beginPage_X2_addPage : GoodIn wsX2_beginPage wsX2_addPage := goodIn_r _ [24, 25, 26, 27, 28, 29, 30, 31, 32, 33, 34, 35, 36, 37, 38, 39, 40, 41, 42] (by decide +kernel) (by decide +kernel)
set_option maxRecDepth 20000 in
theorem gX2_beginPage_X2_addPage : GoodIn wsX2_beginPage (wsV RX2 116 RX2 yX2_addPage wsX2_addPage) := goodIn_app (goodIn_of _ (by decide +kernel)) ggX2_beginPage_X2_addPage
theorem dX2_beginPage_0 : decode cX2_beginPage 0 = .ok (.aload_n 0, 1) := by decide +kernel
theorem dX2_beginPage_1 : decode cX2_beginPage 1 = .ok (.getfield 150, 3) := by decide +kernel
theorem dX2_beginPage_4 : decode cX2_beginPage 4 = .ok (.ifCond .ne 27, 3) := by decide +kernel
theorem dX2_beginPage_7 : decode cX2_beginPage 7 = .ok (.aload_n 0, 1) := by decide +kernel
theorem dX2_beginPage_8 : decode cX2_beginPage 8 = .ok (.new 36, 3) := by decide +kernel
theorem dX2_beginPage_11 : decode cX2_beginPage 11 = .ok (.dup, 1) := by decide +kernel
theorem dX2_beginPage_12 : decode cX2_beginPage 12 = .ok (.aload_n 0, 1) := by decide +kernel
theorem dX2_beginPage_13 : decode cX2_beginPage 13 = .ok (.getfield 13, 3) := by decide +kernel
theorem dX2_beginPage_16 : decode cX2_beginPage 16 = .ok (.aload_n 0, 1) := by decide +kernel
theorem dX2_beginPage_17 : decode cX2_beginPage 17 = .ok (.getfield 17, 3) := by decide +kernel
theorem dX2_beginPage_20 : decode cX2_beginPage 20 = .ok (.invokespecial 164, 3) := by decide +kernel
theorem dX2_beginPage_23 : decode cX2_beginPage 23 = .ok (.invokevirtual 116, 3) := by decide +kernel
theorem dX2_beginPage_26 : decode cX2_beginPage 26 = .ok (.aload_n 0, 1) := by decide +kernel
theorem dX2_beginPage_27 : decode cX2_beginPage 27 = .ok (.iconst 1, 1) := by decide +kernel
theorem dX2_beginPage_28 : decode cX2_beginPage 28 = .ok (.putfield 150, 3) := by decide +kernel
theorem dX2_beginPage_31 : decode cX2_beginPage 31 = .ok (.return_, 1) := by decide +kernel
theorem dX2_addPage_0 : decode cX2_addPage 0 = .ok (.aload_n 0, 1) := by decide +kernel
theorem dX2_addPage_1 : decode cX2_addPage 1 = .ok (.getfield 90, 3) := by decide +kernel
theorem dX2_addPage_4 : decode cX2_addPage 4 = .ok (.ifCond .lt 35, 3) := by decide +kernel
theorem dX2_addPage_7 : decode cX2_addPage 7 = .ok (.aload_n 0, 1) := by decide +kernel
theorem dX2_addPage_8 : decode cX2_addPage 8 = .ok (.getfield 90, 3) := by decide +kernel
theorem dX2_addPage_11 : decode cX2_addPage 11 = .ok (.aload_n 0, 1) := by decide +kernel
theorem dX2_addPage_12 : decode cX2_addPage 12 = .ok (.getfield 38, 3) := by decide +kernel
theorem dX2_addPage_15 : decode cX2_addPage 15 = .ok (.arraylength, 1) := by decide +kernel
theorem dX2_addPage_16 : decode cX2_addPage 16 = .ok (.if_icmp .ge 23, 3) := by decide +kernel
theorem dX2_addPage_19 : decode cX2_addPage 19 = .ok (.aload_n 0, 1) := by decide +kernel
theorem dX2_addPage_20 : decode cX2_addPage 20 = .ok (.getfield 38, 3) := by decide +kernel
theorem dX2_addPage_23 : decode cX2_addPage 23 = .ok (.aload_n 0, 1) := by decide +kernel
theorem dX2_addPage_24 : decode cX2_addPage 24 = .ok (.getfield 90, 3) := by decide +kernel
theorem dX2_addPage_27 : decode cX2_addPage 27 = .ok (.aload_n 1, 1) := by decide +kernel
theorem dX2_addPage_28 : decode cX2_addPage 28 = .ok (.aastore, 1) := by decide +kernel
theorem dX2_addPage_29 : decode cX2_addPage 29 = .ok (.aload_n 0, 1) := by decide +kernel
theorem dX2_addPage_30 : decode cX2_addPage 30 = .ok (.dup, 1) := by decide +kernel
theorem dX2_addPage_31 : decode cX2_addPage 31 = .ok (.getfield 90, 3) := by decide +kernel
theorem dX2_addPage_34 : decode cX2_addPage 34 = .ok (.iconst 1, 1) := by decide +kernel
theorem dX2_addPage_35 : decode cX2_addPage 35 = .ok (.iadd, 1) := by decide +kernel
theorem dX2_addPage_36 : decode cX2_addPage 36 = .ok (.putfield 90, 3) := by decide +kernel
theorem dX2_addPage_39 : decode cX2_addPage 39 = .ok (.return_, 1) := by decide +kernel
theorem dX2_takeLastPage_0 : decode cX2_takeLastPage 0 = .ok (.aload_n 0, 1) := by decide +kernel
theorem dX2_takeLastPage_1 : decode cX2_takeLastPage 1 = .ok (.getfield 90, 3) := by decide +kernel
theorem dX2_takeLastPage_4 : decode cX2_takeLastPage 4 = .ok (.ifCond .le 35, 3) := by decide +kernel
theorem dX2_takeLastPage_7 : decode cX2_takeLastPage 7 = .ok (.aload_n 0, 1) := by decide +kernel
theorem dX2_takeLastPage_8 : decode cX2_takeLastPage 8 = .ok (.getfield 90, 3) := by decide +kernel
theorem dX2_takeLastPage_11 : decode cX2_takeLastPage 11 = .ok (.aload_n 0, 1) := by decide +kernel
theorem dX2_takeLastPage_12 : decode cX2_takeLastPage 12 = .ok (.getfield 38, 3) := by decide +kernel
theorem dX2_takeLastPage_15 : decode cX2_takeLastPage 15 = .ok (.arraylength, 1) := by decide +kernel
theorem dX2_takeLastPage_16 : decode cX2_takeLastPage 16 = .ok (.if_icmp .gt 23, 3) := by decide +kernel
theorem dX2_takeLastPage_19 : decode cX2_takeLastPage 19 = .ok (.aload_n 0, 1) := by decide +kernel
theorem dX2_takeLastPage_20 : decode cX2_takeLastPage 20 = .ok (.dup, 1) := by decide +kernel
theorem dX2_takeLastPage_21 : decode cX2_takeLastPage 21 = .ok (.getfield 90, 3) := by decide +kernel
theorem dX2_takeLastPage_24 : decode cX2_takeLastPage 24 = .ok (.iconst 1, 1) := by decide +kernel
theorem dX2_takeLastPage_25 : decode cX2_takeLastPage 25 = .ok (.isub, 1) := by decide +kernel
theorem dX2_takeLastPage_26 : decode cX2_takeLastPage 26 = .ok (.putfield 90, 3) := by decide +kernel
theorem dX2_takeLastPage_29 : decode cX2_takeLastPage 29 = .ok (.aload_n 0, 1) := by decide +kernel
theorem dX2_takeLastPage_30 : decode cX2_takeLastPage 30 = .ok (.getfield 38, 3) := by decide +kernel
theorem dX2_takeLastPage_33 : decode cX2_takeLastPage 33 = .ok (.aload_n 0, 1) := by decide +kernel
theorem dX2_takeLastPage_34 : decode cX2_takeLastPage 34 = .ok (.getfield 90, 3) := by decide +kernel
theorem dX2_takeLastPage_37 : decode cX2_takeLastPage 37 = .ok (.aconst_null, 1) := by decide +kernel
theorem dX2_takeLastPage_38 : decode cX2_takeLastPage 38 = .ok (.aastore, 1) := by decide +kernel
theorem dX2_takeLastPage_39 : decode cX2_takeLastPage 39 = .ok (.return_, 1) := by decide +kernel
theorem dX2_begunPage_0 : decode cX2_begunPage 0 = .ok (.iload_n 1, 1) := by decide +kernel
theorem dX2_begunPage_1 : decode cX2_begunPage 1 = .ok (.ifCond .lt 29, 3) := by decide +kernel
theorem dX2_begunPage_4 : decode cX2_begunPage 4 = .ok (.iload_n 1, 1) := by decide +kernel
theorem dX2_begunPage_5 : decode cX2_begunPage 5 = .ok (.aload_n 0, 1) := by decide +kernel
theorem dX2_begunPage_6 : decode cX2_begunPage 6 = .ok (.getfield 90, 3) := by decide +kernel
theorem dX2_begunPage_9 : decode cX2_begunPage 9 = .ok (.if_icmp .ge 21, 3) := by decide +kernel
theorem dX2_begunPage_12 : decode cX2_begunPage 12 = .ok (.iload_n 1, 1) := by decide +kernel
theorem dX2_begunPage_13 : decode cX2_begunPage 13 = .ok (.aload_n 0, 1) := by decide +kernel
theorem dX2_begunPage_14 : decode cX2_begunPage 14 = .ok (.getfield 38, 3) := by decide +kernel
theorem dX2_begunPage_17 : decode cX2_begunPage 17 = .ok (.arraylength, 1) := by decide +kernel
theorem dX2_begunPage_18 : decode cX2_begunPage 18 = .ok (.if_icmp .ge 12, 3) := by decide +kernel
theorem dX2_begunPage_21 : decode cX2_begunPage 21 = .ok (.aload_n 0, 1) := by decide +kernel
theorem dX2_begunPage_22 : decode cX2_begunPage 22 = .ok (.getfield 38, 3) := by decide +kernel
theorem dX2_begunPage_25 : decode cX2_begunPage 25 = .ok (.iload_n 1, 1) := by decide +kernel
theorem dX2_begunPage_26 : decode cX2_begunPage 26 = .ok (.aaload, 1) := by decide +kernel
theorem dX2_begunPage_27 : decode cX2_begunPage 27 = .ok (.goto 4, 3) := by decide +kernel
theorem dX2_begunPage_30 : decode cX2_begunPage 30 = .ok (.aconst_null, 1) := by decide +kernel
theorem dX2_begunPage_31 : decode cX2_begunPage 31 = .ok (.areturn, 1) := by decide +kernel
set_option maxRecDepth 20000 in
theorem ggX2_printRecord_X2_beginPage : GoodIn wsX2_printRecord wsX2_beginPage := goodIn_r _ [11, 12, 13, 14, 15, 16, 4, 17, 18, 19, 20, 21, 22, 23, 24, 25, 26, 27, 28, 29, 30, 31, 32, 10, 33, 1, 34, 73, 74, 75, 76, 77, 78, 79, 80, 81, 82, 83, 84, 85, 86, 87, 88, 89, 90] (by decide +kernel) (by decide +kernel)
set_option maxRecDepth 20000 in
theorem gX2_printRecord_X2_beginPage : GoodIn wsX2_printRecord (wsV RX2 161 RX2 yX2_beginPage wsX2_beginPage) := goodIn_app (goodIn_of _ (by decide +kernel)) ggX2_printRecord_X2_beginPage
set_option maxRecDepth 20000 in
theorem ggX2_printRecord_X2_begunPage : GoodIn wsX2_printRecord wsX2_begunPage := goodIn_r _ [38, 1, 34, 73, 74, 75, 76, 77, 78, 79, 80, 81, 82, 83, 84, 85, 86, 87, 88] (by decide +kernel) (by decide +kernel)
set_option maxRecDepth 20000 in
theorem gX2_printRecord_X2_begunPage : GoodIn wsX2_printRecord (wsV RX2 96 RX2 yX2_begunPage wsX2_begunPage) := goodIn_app (goodIn_of _ (by decide +kernel)) ggX2_printRecord_X2_begunPage
set_option maxRecDepth 20000 in
theorem ggX2_printRecord_X2_printSign : GoodIn wsX2_printRecord wsX2_printSign := goodIn_r _ [42, 43, 44, 45, 46, 47, 10, 48, 49, 50, 51, 15, 52, 28, 27, 53, 54, 29, 55, 56, 57, 58, 21, 22, 59, 24, 25, 26, 60, 61, 62, 63, 64, 65, 66, 67, 68, 69, 70, 71, 72, 73, 74, 75, 76, 77, 78, 79, 80, 81, 82, 83, 84, 85, 86, 87, 88, 89, 90, 91] (by decide +kernel) (by decide +kernel)
set_option maxRecDepth 20000 in
theorem gX2_printRecord_X2_printSign : GoodIn wsX2_printRecord (wsV RX2 167 RX2 yX2_printSign wsX2_printSign) := goodIn_app (goodIn_of _ (by decide +kernel)) ggX2_printRecord_X2_printSign
theorem dX2_printRecord_0 : decode cX2_printRecord 0 = .ok (.aload_n 0, 1) := by decide +kernel
theorem dX2_printRecord_1 : decode cX2_printRecord 1 = .ok (.invokevirtual 161, 3) := by decide +kernel
theorem dX2_printRecord_4 : decode cX2_printRecord 4 = .ok (.aload_n 0, 1) := by decide +kernel
theorem dX2_printRecord_5 : decode cX2_printRecord 5 = .ok (.aload_n 0, 1) := by decide +kernel
theorem dX2_printRecord_6 : decode cX2_printRecord 6 = .ok (.getfield 90, 3) := by decide +kernel
theorem dX2_printRecord_9 : decode cX2_printRecord 9 = .ok (.iconst 1, 1) := by decide +kernel
theorem dX2_printRecord_10 : decode cX2_printRecord 10 = .ok (.isub, 1) := by decide +kernel
theorem dX2_printRecord_11 : decode cX2_printRecord 11 = .ok (.invokevirtual 96, 3) := by decide +kernel
theorem dX2_printRecord_14 : decode cX2_printRecord 14 = .ok (.astore_n 1, 1) := by decide +kernel
theorem dX2_printRecord_15 : decode cX2_printRecord 15 = .ok (.iconst 0, 1) := by decide +kernel
theorem dX2_printRecord_16 : decode cX2_printRecord 16 = .ok (.istore_n 2, 1) := by decide +kernel
theorem dX2_printRecord_17 : decode cX2_printRecord 17 = .ok (.iload_n 2, 1) := by decide +kernel
theorem dX2_printRecord_18 : decode cX2_printRecord 18 = .ok (.aload_n 0, 1) := by decide +kernel
theorem dX2_printRecord_19 : decode cX2_printRecord 19 = .ok (.getfield 46, 3) := by decide +kernel
theorem dX2_printRecord_22 : decode cX2_printRecord 22 = .ok (.if_icmp .ge 55, 3) := by decide +kernel
theorem dX2_printRecord_25 : decode cX2_printRecord 25 = .ok (.iload_n 2, 1) := by decide +kernel
theorem dX2_printRecord_26 : decode cX2_printRecord 26 = .ok (.aload_n 0, 1) := by decide +kernel
theorem dX2_printRecord_27 : decode cX2_printRecord 27 = .ok (.getfield 33, 3) := by decide +kernel
theorem dX2_printRecord_30 : decode cX2_printRecord 30 = .ok (.arraylength, 1) := by decide +kernel
theorem dX2_printRecord_31 : decode cX2_printRecord 31 = .ok (.if_icmp .ge 46, 3) := by decide +kernel
theorem dX2_printRecord_34 : decode cX2_printRecord 34 = .ok (.iload_n 2, 1) := by decide +kernel
theorem dX2_printRecord_35 : decode cX2_printRecord 35 = .ok (.aload_n 0, 1) := by decide +kernel
theorem dX2_printRecord_36 : decode cX2_printRecord 36 = .ok (.getfield 17, 3) := by decide +kernel
theorem dX2_printRecord_39 : decode cX2_printRecord 39 = .ok (.if_icmp .lt 16, 3) := by decide +kernel
theorem dX2_printRecord_42 : decode cX2_printRecord 42 = .ok (.aload_n 0, 1) := by decide +kernel
theorem dX2_printRecord_43 : decode cX2_printRecord 43 = .ok (.dup, 1) := by decide +kernel
theorem dX2_printRecord_44 : decode cX2_printRecord 44 = .ok (.getfield 138, 3) := by decide +kernel
theorem dX2_printRecord_47 : decode cX2_printRecord 47 = .ok (.iconst 1, 1) := by decide +kernel
theorem dX2_printRecord_48 : decode cX2_printRecord 48 = .ok (.iadd, 1) := by decide +kernel
theorem dX2_printRecord_49 : decode cX2_printRecord 49 = .ok (.putfield 138, 3) := by decide +kernel
theorem dX2_printRecord_52 : decode cX2_printRecord 52 = .ok (.goto 19, 3) := by decide +kernel
theorem dX2_printRecord_55 : decode cX2_printRecord 55 = .ok (.aload_n 1, 1) := by decide +kernel
theorem dX2_printRecord_56 : decode cX2_printRecord 56 = .ok (.ifnull 15, 3) := by decide +kernel
theorem dX2_printRecord_59 : decode cX2_printRecord 59 = .ok (.aload_n 0, 1) := by decide +kernel
theorem dX2_printRecord_60 : decode cX2_printRecord 60 = .ok (.aload_n 1, 1) := by decide +kernel
theorem dX2_printRecord_61 : decode cX2_printRecord 61 = .ok (.iload_n 2, 1) := by decide +kernel
theorem dX2_printRecord_62 : decode cX2_printRecord 62 = .ok (.aload_n 0, 1) := by decide +kernel
theorem dX2_printRecord_63 : decode cX2_printRecord 63 = .ok (.getfield 33, 3) := by decide +kernel
theorem dX2_printRecord_66 : decode cX2_printRecord 66 = .ok (.iload_n 2, 1) := by decide +kernel
theorem dX2_printRecord_67 : decode cX2_printRecord 67 = .ok (.iaload, 1) := by decide +kernel
theorem dX2_printRecord_68 : decode cX2_printRecord 68 = .ok (.invokevirtual 167, 3) := by decide +kernel
theorem dX2_printRecord_71 : decode cX2_printRecord 71 = .ok (.iinc 2 1, 3) := by decide +kernel
theorem dX2_printRecord_74 : decode cX2_printRecord 74 = .ok (.goto (-57), 3) := by decide +kernel
theorem dX2_printRecord_77 : decode cX2_printRecord 77 = .ok (.aload_n 0, 1) := by decide +kernel
theorem dX2_printRecord_78 : decode cX2_printRecord 78 = .ok (.iconst 0, 1) := by decide +kernel
theorem dX2_printRecord_79 : decode cX2_printRecord 79 = .ok (.putfield 46, 3) := by decide +kernel
theorem dX2_printRecord_82 : decode cX2_printRecord 82 = .ok (.aload_n 0, 1) := by decide +kernel
theorem dX2_printRecord_83 : decode cX2_printRecord 83 = .ok (.dup, 1) := by decide +kernel
theorem dX2_printRecord_84 : decode cX2_printRecord 84 = .ok (.getfield 132, 3) := by decide +kernel
theorem dX2_printRecord_87 : decode cX2_printRecord 87 = .ok (.iconst 1, 1) := by decide +kernel
theorem dX2_printRecord_88 : decode cX2_printRecord 88 = .ok (.iadd, 1) := by decide +kernel
theorem dX2_printRecord_89 : decode cX2_printRecord 89 = .ok (.putfield 132, 3) := by decide +kernel
theorem dX2_printRecord_92 : decode cX2_printRecord 92 = .ok (.return_, 1) := by decide +kernel
set_option maxRecDepth 20000 in
theorem ggX2_printSign_X2_isSign : GoodIn wsX2_printSign wsX2_isSign := goodIn_r _ [7] (by decide +kernel) (by decide +kernel)
set_option maxRecDepth 20000 in
theorem gX2_printSign_X2_isSign : GoodIn wsX2_printSign (va_wsS RX2 110 yX2_isSign wsX2_isSign) := goodIn_app (goodIn_of _ (by decide +kernel)) ggX2_printSign_X2_isSign
set_option maxRecDepth 20000 in
theorem ggX2_printSign_X0_join : GoodIn wsX2_printSign wsX0_join := goodIn_r _ [12, 13, 14, 15, 16, 17, 18, 19, 20, 21, 22, 23, 24, 25, 26, 27, 28, 29, 30, 31, 32, 33, 34, 35, 36, 37, 38, 6, 39, 40, 57, 58, 59] (by decide +kernel) (by decide +kernel)
set_option maxRecDepth 20000 in
theorem gX2_printSign_X0_join : GoodIn wsX2_printSign (wsV RX2 171 RX0 yX0_join wsX0_join) := goodIn_app (goodIn_of _ (by decide +kernel)) ggX2_printSign_X0_join
theorem dX2_printSign_0 : decode cX2_printSign 0 = .ok (.iload_n 3, 1) := by decide +kernel
theorem dX2_printSign_1 : decode cX2_printSign 1 = .ok (.invokestatic 110, 3) := by decide +kernel
theorem dX2_printSign_4 : decode cX2_printSign 4 = .ok (.ifCond .eq 12, 3) := by decide +kernel
theorem dX2_printSign_7 : decode cX2_printSign 7 = .ok (.aload_n 0, 1) := by decide +kernel
theorem dX2_printSign_8 : decode cX2_printSign 8 = .ok (.getfield 30, 3) := by decide +kernel
theorem dX2_printSign_11 : decode cX2_printSign 11 = .ok (.iload_n 3, 1) := by decide +kernel
theorem dX2_printSign_12 : decode cX2_printSign 12 = .ok (.iaload, 1) := by decide +kernel
theorem dX2_printSign_13 : decode cX2_printSign 13 = .ok (.goto 5, 3) := by decide +kernel
theorem dX2_printSign_16 : decode cX2_printSign 16 = .ok (.bipush 32, 2) := by decide +kernel
theorem dX2_printSign_18 : decode cX2_printSign 18 = .ok (.istore 4, 2) := by decide +kernel
theorem dX2_printSign_20 : decode cX2_printSign 20 = .ok (.iload 4, 2) := by decide +kernel
theorem dX2_printSign_22 : decode cX2_printSign 22 = .ok (.bipush 32, 2) := by decide +kernel
theorem dX2_printSign_24 : decode cX2_printSign 24 = .ok (.if_icmp .eq 24, 3) := by decide +kernel
theorem dX2_printSign_27 : decode cX2_printSign 27 = .ok (.aload_n 1, 1) := by decide +kernel
theorem dX2_printSign_28 : decode cX2_printSign 28 = .ok (.aload_n 0, 1) := by decide +kernel
theorem dX2_printSign_29 : decode cX2_printSign 29 = .ok (.getfield 129, 3) := by decide +kernel
theorem dX2_printSign_32 : decode cX2_printSign 32 = .ok (.iload_n 2, 1) := by decide +kernel
theorem dX2_printSign_33 : decode cX2_printSign 33 = .ok (.iload 4, 2) := by decide +kernel
theorem dX2_printSign_35 : decode cX2_printSign 35 = .ok (.invokevirtual 171, 3) := by decide +kernel
theorem dX2_printSign_38 : decode cX2_printSign 38 = .ok (.aload_n 0, 1) := by decide +kernel
theorem dX2_printSign_39 : decode cX2_printSign 39 = .ok (.dup, 1) := by decide +kernel
theorem dX2_printSign_40 : decode cX2_printSign 40 = .ok (.getfield 135, 3) := by decide +kernel
theorem dX2_printSign_43 : decode cX2_printSign 43 = .ok (.iconst 1, 1) := by decide +kernel
theorem dX2_printSign_44 : decode cX2_printSign 44 = .ok (.iadd, 1) := by decide +kernel
theorem dX2_printSign_45 : decode cX2_printSign 45 = .ok (.putfield 135, 3) := by decide +kernel
theorem dX2_printSign_48 : decode cX2_printSign 48 = .ok (.return_, 1) := by decide +kernel
end
section
theorem dX3_init_0 : decode cX3_init 0 = .ok (.aload_n 0, 1) := by decide +kernel
theorem dX3_init_1 : decode cX3_init 1 = .ok (.invokespecial 1, 3) := by decide +kernel
theorem dX3_init_4 : decode cX3_init 4 = .ok (.aload_n 0, 1) := by decide +kernel
theorem dX3_init_5 : decode cX3_init 5 = .ok (.ldc 7, 2) := by decide +kernel
theorem dX3_init_7 : decode cX3_init 7 = .ok (.newarray .int, 2) := by decide +kernel
theorem dX3_init_9 : decode cX3_init 9 = .ok (.putfield 8, 3) := by decide +kernel
theorem dX3_init_12 : decode cX3_init 12 = .ok (.aload_n 0, 1) := by decide +kernel
theorem dX3_init_13 : decode cX3_init 13 = .ok (.bipush 13, 2) := by decide +kernel
theorem dX3_init_15 : decode cX3_init 15 = .ok (.newarray .int, 2) := by decide +kernel
theorem dX3_init_17 : decode cX3_init 17 = .ok (.putfield 14, 3) := by decide +kernel
theorem dX3_init_20 : decode cX3_init 20 = .ok (.aload_n 0, 1) := by decide +kernel
theorem dX3_init_21 : decode cX3_init 21 = .ok (.sipush 256, 3) := by decide +kernel
theorem dX3_init_24 : decode cX3_init 24 = .ok (.newarray .int, 2) := by decide +kernel
theorem dX3_init_26 : decode cX3_init 26 = .ok (.putfield 17, 3) := by decide +kernel
theorem dX3_init_29 : decode cX3_init 29 = .ok (.aload_n 0, 1) := by decide +kernel
theorem dX3_init_30 : decode cX3_init 30 = .ok (.sipush 200, 3) := by decide +kernel
theorem dX3_init_33 : decode cX3_init 33 = .ok (.newarray .int, 2) := by decide +kernel
theorem dX3_init_35 : decode cX3_init 35 = .ok (.putfield 20, 3) := by decide +kernel
theorem dX3_init_38 : decode cX3_init 38 = .ok (.aload_n 0, 1) := by decide +kernel
theorem dX3_init_39 : decode cX3_init 39 = .ok (.bipush 8, 2) := by decide +kernel
theorem dX3_init_41 : decode cX3_init 41 = .ok (.newarray .int, 2) := by decide +kernel
theorem dX3_init_43 : decode cX3_init 43 = .ok (.putfield 23, 3) := by decide +kernel
theorem dX3_init_46 : decode cX3_init 46 = .ok (.aload_n 0, 1) := by decide +kernel
theorem dX3_init_47 : decode cX3_init 47 = .ok (.iload_n 1, 1) := by decide +kernel
theorem dX3_init_48 : decode cX3_init 48 = .ok (.iconst 1, 1) := by decide +kernel
theorem dX3_init_49 : decode cX3_init 49 = .ok (.if_icmp .ge 7, 3) := by decide +kernel
theorem dX3_init_52 : decode cX3_init 52 = .ok (.iconst 1, 1) := by decide +kernel
theorem dX3_init_53 : decode cX3_init 53 = .ok (.goto 15, 3) := by decide +kernel
theorem dX3_init_56 : decode cX3_init 56 = .ok (.iload_n 1, 1) := by decide +kernel
theorem dX3_init_57 : decode cX3_init 57 = .ok (.bipush 66, 2) := by decide +kernel
theorem dX3_init_59 : decode cX3_init 59 = .ok (.if_icmp .le 8, 3) := by decide +kernel
theorem dX3_init_62 : decode cX3_init 62 = .ok (.bipush 66, 2) := by decide +kernel
theorem dX3_init_64 : decode cX3_init 64 = .ok (.goto 4, 3) := by decide +kernel
theorem dX3_init_67 : decode cX3_init 67 = .ok (.iload_n 1, 1) := by decide +kernel
theorem dX3_init_68 : decode cX3_init 68 = .ok (.putfield 26, 3) := by decide +kernel
theorem dX3_init_71 : decode cX3_init 71 = .ok (.aload_n 0, 1) := by decide +kernel
theorem dX3_init_72 : decode cX3_init 72 = .ok (.iload_n 2, 1) := by decide +kernel
theorem dX3_init_73 : decode cX3_init 73 = .ok (.iconst 1, 1) := by decide +kernel
theorem dX3_init_74 : decode cX3_init 74 = .ok (.if_icmp .ge 7, 3) := by decide +kernel
theorem dX3_init_77 : decode cX3_init 77 = .ok (.iconst 1, 1) := by decide +kernel
theorem dX3_init_78 : decode cX3_init 78 = .ok (.goto 17, 3) := by decide +kernel
theorem dX3_init_81 : decode cX3_init 81 = .ok (.iload_n 2, 1) := by decide +kernel
theorem dX3_init_82 : decode cX3_init 82 = .ok (.sipush 132, 3) := by decide +kernel
theorem dX3_init_85 : decode cX3_init 85 = .ok (.if_icmp .le 9, 3) := by decide +kernel
theorem dX3_init_88 : decode cX3_init 88 = .ok (.sipush 132, 3) := by decide +kernel
theorem dX3_init_91 : decode cX3_init 91 = .ok (.goto 4, 3) := by decide +kernel
theorem dX3_init_94 : decode cX3_init 94 = .ok (.iload_n 2, 1) := by decide +kernel
theorem dX3_init_95 : decode cX3_init 95 = .ok (.putfield 30, 3) := by decide +kernel
theorem dX3_init_98 : decode cX3_init 98 = .ok (.iconst 0, 1) := by decide +kernel
theorem dX3_init_99 : decode cX3_init 99 = .ok (.istore_n 3, 1) := by decide +kernel
theorem dX3_init_100 : decode cX3_init 100 = .ok (.iload_n 3, 1) := by decide +kernel
theorem dX3_init_101 : decode cX3_init 101 = .ok (.aload_n 0, 1) := by decide +kernel
theorem dX3_init_102 : decode cX3_init 102 = .ok (.getfield 14, 3) := by decide +kernel
theorem dX3_init_105 : decode cX3_init 105 = .ok (.arraylength, 1) := by decide +kernel
theorem dX3_init_106 : decode cX3_init 106 = .ok (.if_icmp .ge 16, 3) := by decide +kernel
theorem dX3_init_109 : decode cX3_init 109 = .ok (.aload_n 0, 1) := by decide +kernel
theorem dX3_init_110 : decode cX3_init 110 = .ok (.getfield 14, 3) := by decide +kernel
theorem dX3_init_113 : decode cX3_init 113 = .ok (.iload_n 3, 1) := by decide +kernel
theorem dX3_init_114 : decode cX3_init 114 = .ok (.iconst (-1), 1) := by decide +kernel
theorem dX3_init_115 : decode cX3_init 115 = .ok (.iastore, 1) := by decide +kernel
theorem dX3_init_116 : decode cX3_init 116 = .ok (.iinc 3 1, 3) := by decide +kernel
theorem dX3_init_119 : decode cX3_init 119 = .ok (.goto (-19), 3) := by decide +kernel
theorem dX3_init_122 : decode cX3_init 122 = .ok (.iconst 0, 1) := by decide +kernel
theorem dX3_init_123 : decode cX3_init 123 = .ok (.istore_n 3, 1) := by decide +kernel
theorem dX3_init_124 : decode cX3_init 124 = .ok (.iload_n 3, 1) := by decide +kernel
theorem dX3_init_125 : decode cX3_init 125 = .ok (.aload_n 0, 1) := by decide +kernel
theorem dX3_init_126 : decode cX3_init 126 = .ok (.getfield 17, 3) := by decide +kernel
theorem dX3_init_129 : decode cX3_init 129 = .ok (.arraylength, 1) := by decide +kernel
theorem dX3_init_130 : decode cX3_init 130 = .ok (.if_icmp .ge 16, 3) := by decide +kernel
theorem dX3_init_133 : decode cX3_init 133 = .ok (.aload_n 0, 1) := by decide +kernel
theorem dX3_init_134 : decode cX3_init 134 = .ok (.getfield 17, 3) := by decide +kernel
theorem dX3_init_137 : decode cX3_init 137 = .ok (.iload_n 3, 1) := by decide +kernel
theorem dX3_init_138 : decode cX3_init 138 = .ok (.iload_n 3, 1) := by decide +kernel
theorem dX3_init_139 : decode cX3_init 139 = .ok (.iastore, 1) := by decide +kernel
theorem dX3_init_140 : decode cX3_init 140 = .ok (.iinc 3 1, 3) := by decide +kernel
theorem dX3_init_143 : decode cX3_init 143 = .ok (.goto (-19), 3) := by decide +kernel
theorem dX3_init_146 : decode cX3_init 146 = .ok (.return_, 1) := by decide +kernel
theorem dX3_thrown_0 : decode cX3_thrown 0 = .ok (.aload_n 0, 1) := by decide +kernel
theorem dX3_thrown_1 : decode cX3_thrown 1 = .ok (.getfield 33, 3) := by decide +kernel
theorem dX3_thrown_4 : decode cX3_thrown 4 = .ok (.ireturn, 1) := by decide +kernel
theorem dX3_channel_0 : decode cX3_channel 0 = .ok (.aload_n 0, 1) := by decide +kernel
theorem dX3_channel_1 : decode cX3_channel 1 = .ok (.iconst 0, 1) := by decide +kernel
theorem dX3_channel_2 : decode cX3_channel 2 = .ok (.putfield 33, 3) := by decide +kernel
theorem dX3_channel_5 : decode cX3_channel 5 = .ok (.iload_n 1, 1) := by decide +kernel
theorem dX3_channel_6 : decode cX3_channel 6 = .ok (.iconst 1, 1) := by decide +kernel
theorem dX3_channel_7 : decode cX3_channel 7 = .ok (.if_icmp .lt 22, 3) := by decide +kernel
theorem dX3_channel_10 : decode cX3_channel 10 = .ok (.iload_n 1, 1) := by decide +kernel
theorem dX3_channel_11 : decode cX3_channel 11 = .ok (.bipush 12, 2) := by decide +kernel
theorem dX3_channel_13 : decode cX3_channel 13 = .ok (.if_icmp .gt 16, 3) := by decide +kernel
theorem dX3_channel_16 : decode cX3_channel 16 = .ok (.iload_n 2, 1) := by decide +kernel
theorem dX3_channel_17 : decode cX3_channel 17 = .ok (.iconst (-1), 1) := by decide +kernel
theorem dX3_channel_18 : decode cX3_channel 18 = .ok (.if_icmp .lt 11, 3) := by decide +kernel
theorem dX3_channel_21 : decode cX3_channel 21 = .ok (.iload_n 2, 1) := by decide +kernel
theorem dX3_channel_22 : decode cX3_channel 22 = .ok (.aload_n 0, 1) := by decide +kernel
theorem dX3_channel_23 : decode cX3_channel 23 = .ok (.getfield 26, 3) := by decide +kernel
theorem dX3_channel_26 : decode cX3_channel 26 = .ok (.if_icmp .lt 6, 3) := by decide +kernel
theorem dX3_channel_29 : decode cX3_channel 29 = .ok (.bipush (-2), 2) := by decide +kernel
theorem dX3_channel_31 : decode cX3_channel 31 = .ok (.ireturn, 1) := by decide +kernel
theorem dX3_channel_32 : decode cX3_channel 32 = .ok (.aload_n 0, 1) := by decide +kernel
theorem dX3_channel_33 : decode cX3_channel 33 = .ok (.getfield 14, 3) := by decide +kernel
theorem dX3_channel_36 : decode cX3_channel 36 = .ok (.iload_n 1, 1) := by decide +kernel
theorem dX3_channel_37 : decode cX3_channel 37 = .ok (.iaload, 1) := by decide +kernel
theorem dX3_channel_38 : decode cX3_channel 38 = .ok (.istore_n 3, 1) := by decide +kernel
theorem dX3_channel_39 : decode cX3_channel 39 = .ok (.aload_n 0, 1) := by decide +kernel
theorem dX3_channel_40 : decode cX3_channel 40 = .ok (.getfield 14, 3) := by decide +kernel
theorem dX3_channel_43 : decode cX3_channel 43 = .ok (.iload_n 1, 1) := by decide +kernel
theorem dX3_channel_44 : decode cX3_channel 44 = .ok (.iload_n 2, 1) := by decide +kernel
theorem dX3_channel_45 : decode cX3_channel 45 = .ok (.iastore, 1) := by decide +kernel
theorem dX3_channel_46 : decode cX3_channel 46 = .ok (.iload_n 3, 1) := by decide +kernel
theorem dX3_channel_47 : decode cX3_channel 47 = .ok (.ireturn, 1) := by decide +kernel
theorem dX3_sign_0 : decode cX3_sign 0 = .ok (.aload_n 0, 1) := by decide +kernel
theorem dX3_sign_1 : decode cX3_sign 1 = .ok (.iconst 0, 1) := by decide +kernel
theorem dX3_sign_2 : decode cX3_sign 2 = .ok (.putfield 33, 3) := by decide +kernel
theorem dX3_sign_5 : decode cX3_sign 5 = .ok (.aload_n 0, 1) := by decide +kernel
theorem dX3_sign_6 : decode cX3_sign 6 = .ok (.getfield 36, 3) := by decide +kernel
theorem dX3_sign_9 : decode cX3_sign 9 = .ok (.sipush 200, 3) := by decide +kernel
theorem dX3_sign_12 : decode cX3_sign 12 = .ok (.if_icmp .ne 4, 3) := by decide +kernel
theorem dX3_sign_15 : decode cX3_sign 15 = .ok (.return_, 1) := by decide +kernel
theorem dX3_sign_16 : decode cX3_sign 16 = .ok (.aload_n 0, 1) := by decide +kernel
theorem dX3_sign_17 : decode cX3_sign 17 = .ok (.getfield 20, 3) := by decide +kernel
theorem dX3_sign_20 : decode cX3_sign 20 = .ok (.aload_n 0, 1) := by decide +kernel
theorem dX3_sign_21 : decode cX3_sign 21 = .ok (.getfield 36, 3) := by decide +kernel
theorem dX3_sign_24 : decode cX3_sign 24 = .ok (.iload_n 1, 1) := by decide +kernel
theorem dX3_sign_25 : decode cX3_sign 25 = .ok (.sipush 255, 3) := by decide +kernel
theorem dX3_sign_28 : decode cX3_sign 28 = .ok (.iand, 1) := by decide +kernel
theorem dX3_sign_29 : decode cX3_sign 29 = .ok (.bipush 32, 2) := by decide +kernel
theorem dX3_sign_31 : decode cX3_sign 31 = .ok (.if_icmp .ge 8, 3) := by decide +kernel
theorem dX3_sign_34 : decode cX3_sign 34 = .ok (.bipush 32, 2) := by decide +kernel
theorem dX3_sign_36 : decode cX3_sign 36 = .ok (.goto 8, 3) := by decide +kernel
theorem dX3_sign_39 : decode cX3_sign 39 = .ok (.iload_n 1, 1) := by decide +kernel
theorem dX3_sign_40 : decode cX3_sign 40 = .ok (.sipush 255, 3) := by decide +kernel
theorem dX3_sign_43 : decode cX3_sign 43 = .ok (.iand, 1) := by decide +kernel
theorem dX3_sign_44 : decode cX3_sign 44 = .ok (.iastore, 1) := by decide +kernel
theorem dX3_sign_45 : decode cX3_sign 45 = .ok (.aload_n 0, 1) := by decide +kernel
theorem dX3_sign_46 : decode cX3_sign 46 = .ok (.dup, 1) := by decide +kernel
theorem dX3_sign_47 : decode cX3_sign 47 = .ok (.getfield 36, 3) := by decide +kernel
theorem dX3_sign_50 : decode cX3_sign 50 = .ok (.iconst 1, 1) := by decide +kernel
theorem dX3_sign_51 : decode cX3_sign 51 = .ok (.iadd, 1) := by decide +kernel
theorem dX3_sign_52 : decode cX3_sign 52 = .ok (.putfield 36, 3) := by decide +kernel
theorem dX3_sign_55 : decode cX3_sign 55 = .ok (.return_, 1) := by decide +kernel
theorem dX3_tries_0 : decode cX3_tries 0 = .ok (.aload_n 0, 1) := by decide +kernel
theorem dX3_tries_1 : decode cX3_tries 1 = .ok (.aload_n 0, 1) := by decide +kernel
theorem dX3_tries_2 : decode cX3_tries 2 = .ok (.getfield 39, 3) := by decide +kernel
theorem dX3_tries_5 : decode cX3_tries 5 = .ok (.putfield 42, 3) := by decide +kernel
theorem dX3_tries_8 : decode cX3_tries 8 = .ok (.aload_n 0, 1) := by decide +kernel
theorem dX3_tries_9 : decode cX3_tries 9 = .ok (.aload_n 0, 1) := by decide +kernel
theorem dX3_tries_10 : decode cX3_tries 10 = .ok (.getfield 45, 3) := by decide +kernel
theorem dX3_tries_13 : decode cX3_tries 13 = .ok (.putfield 48, 3) := by decide +kernel
theorem dX3_tries_16 : decode cX3_tries 16 = .ok (.aload_n 0, 1) := by decide +kernel
theorem dX3_tries_17 : decode cX3_tries 17 = .ok (.aload_n 0, 1) := by decide +kernel
theorem dX3_tries_18 : decode cX3_tries 18 = .ok (.getfield 51, 3) := by decide +kernel
theorem dX3_tries_21 : decode cX3_tries 21 = .ok (.putfield 55, 3) := by decide +kernel
theorem dX3_tries_24 : decode cX3_tries 24 = .ok (.return_, 1) := by decide +kernel
theorem dX3_move_0 : decode cX3_move 0 = .ok (.iconst 0, 1) := by decide +kernel
theorem dX3_move_1 : decode cX3_move 1 = .ok (.istore_n 2, 1) := by decide +kernel
theorem dX3_move_2 : decode cX3_move 2 = .ok (.iload_n 2, 1) := by decide +kernel
theorem dX3_move_3 : decode cX3_move 3 = .ok (.iload_n 1, 1) := by decide +kernel
theorem dX3_move_4 : decode cX3_move 4 = .ok (.if_icmp .ge 64, 3) := by decide +kernel
theorem dX3_move_7 : decode cX3_move 7 = .ok (.aload_n 0, 1) := by decide +kernel
theorem dX3_move_8 : decode cX3_move 8 = .ok (.dup, 1) := by decide +kernel
theorem dX3_move_9 : decode cX3_move 9 = .ok (.getfield 48, 3) := by decide +kernel
theorem dX3_move_12 : decode cX3_move 12 = .ok (.iconst 1, 1) := by decide +kernel
theorem dX3_move_13 : decode cX3_move 13 = .ok (.iadd, 1) := by decide +kernel
theorem dX3_move_14 : decode cX3_move 14 = .ok (.putfield 48, 3) := by decide +kernel
theorem dX3_move_17 : decode cX3_move 17 = .ok (.aload_n 0, 1) := by decide +kernel
theorem dX3_move_18 : decode cX3_move 18 = .ok (.getfield 48, 3) := by decide +kernel
theorem dX3_move_21 : decode cX3_move 21 = .ok (.aload_n 0, 1) := by decide +kernel
theorem dX3_move_22 : decode cX3_move 22 = .ok (.getfield 26, 3) := by decide +kernel
theorem dX3_move_25 : decode cX3_move 25 = .ok (.if_icmp .ge 6, 3) := by decide +kernel
theorem dX3_move_28 : decode cX3_move 28 = .ok (.goto 34, 3) := by decide +kernel
theorem dX3_move_31 : decode cX3_move 31 = .ok (.aload_n 0, 1) := by decide +kernel
theorem dX3_move_32 : decode cX3_move 32 = .ok (.dup, 1) := by decide +kernel
theorem dX3_move_33 : decode cX3_move 33 = .ok (.getfield 42, 3) := by decide +kernel
theorem dX3_move_36 : decode cX3_move 36 = .ok (.aload_n 0, 1) := by decide +kernel
theorem dX3_move_37 : decode cX3_move 37 = .ok (.getfield 55, 3) := by decide +kernel
theorem dX3_move_40 : decode cX3_move 40 = .ok (.ifCond .eq 7, 3) := by decide +kernel
theorem dX3_move_43 : decode cX3_move 43 = .ok (.iconst 0, 1) := by decide +kernel
theorem dX3_move_44 : decode cX3_move 44 = .ok (.goto 4, 3) := by decide +kernel
theorem dX3_move_47 : decode cX3_move 47 = .ok (.iconst 1, 1) := by decide +kernel
theorem dX3_move_48 : decode cX3_move 48 = .ok (.iadd, 1) := by decide +kernel
theorem dX3_move_49 : decode cX3_move 49 = .ok (.putfield 42, 3) := by decide +kernel
theorem dX3_move_52 : decode cX3_move 52 = .ok (.aload_n 0, 1) := by decide +kernel
theorem dX3_move_53 : decode cX3_move 53 = .ok (.iconst 0, 1) := by decide +kernel
theorem dX3_move_54 : decode cX3_move 54 = .ok (.putfield 55, 3) := by decide +kernel
theorem dX3_move_57 : decode cX3_move 57 = .ok (.aload_n 0, 1) := by decide +kernel
theorem dX3_move_58 : decode cX3_move 58 = .ok (.iconst 0, 1) := by decide +kernel
theorem dX3_move_59 : decode cX3_move 59 = .ok (.putfield 48, 3) := by decide +kernel
theorem dX3_move_62 : decode cX3_move 62 = .ok (.iinc 2 1, 3) := by decide +kernel
theorem dX3_move_65 : decode cX3_move 65 = .ok (.goto (-63), 3) := by decide +kernel
theorem dX3_move_68 : decode cX3_move 68 = .ok (.return_, 1) := by decide +kernel
theorem dX3_way_0 : decode cX3_way 0 = .ok (.aload_n 0, 1) := by decide +kernel
theorem dX3_way_1 : decode cX3_way 1 = .ok (.getfield 14, 3) := by decide +kernel
theorem dX3_way_4 : decode cX3_way 4 = .ok (.iload_n 1, 1) := by decide +kernel
theorem dX3_way_5 : decode cX3_way 5 = .ok (.iaload, 1) := by decide +kernel
theorem dX3_way_6 : decode cX3_way 6 = .ok (.iconst (-1), 1) := by decide +kernel
theorem dX3_way_7 : decode cX3_way 7 = .ok (.if_icmp .ne 8, 3) := by decide +kernel
theorem dX3_way_10 : decode cX3_way 10 = .ok (.aload_n 0, 1) := by decide +kernel
theorem dX3_way_11 : decode cX3_way 11 = .ok (.getfield 26, 3) := by decide +kernel
theorem dX3_way_14 : decode cX3_way 14 = .ok (.ireturn, 1) := by decide +kernel
theorem dX3_way_15 : decode cX3_way 15 = .ok (.aload_n 0, 1) := by decide +kernel
theorem dX3_way_16 : decode cX3_way 16 = .ok (.getfield 14, 3) := by decide +kernel
theorem dX3_way_19 : decode cX3_way 19 = .ok (.iload_n 1, 1) := by decide +kernel
theorem dX3_way_20 : decode cX3_way 20 = .ok (.iaload, 1) := by decide +kernel
theorem dX3_way_21 : decode cX3_way 21 = .ok (.aload_n 0, 1) := by decide +kernel
theorem dX3_way_22 : decode cX3_way 22 = .ok (.getfield 48, 3) := by decide +kernel
theorem dX3_way_25 : decode cX3_way 25 = .ok (.isub, 1) := by decide +kernel
theorem dX3_way_26 : decode cX3_way 26 = .ok (.istore_n 2, 1) := by decide +kernel
theorem dX3_way_27 : decode cX3_way 27 = .ok (.iload_n 2, 1) := by decide +kernel
theorem dX3_way_28 : decode cX3_way 28 = .ok (.ifCond .le 7, 3) := by decide +kernel
theorem dX3_way_31 : decode cX3_way 31 = .ok (.iload_n 2, 1) := by decide +kernel
theorem dX3_way_32 : decode cX3_way 32 = .ok (.goto 9, 3) := by decide +kernel
theorem dX3_way_35 : decode cX3_way 35 = .ok (.iload_n 2, 1) := by decide +kernel
theorem dX3_way_36 : decode cX3_way 36 = .ok (.aload_n 0, 1) := by decide +kernel
theorem dX3_way_37 : decode cX3_way 37 = .ok (.getfield 26, 3) := by decide +kernel
theorem dX3_way_40 : decode cX3_way 40 = .ok (.iadd, 1) := by decide +kernel
theorem dX3_way_41 : decode cX3_way 41 = .ok (.ireturn, 1) := by decide +kernel
theorem dX3_begin_0 : decode cX3_begin 0 = .ok (.aload_n 0, 1) := by decide +kernel
theorem dX3_begin_1 : decode cX3_begin 1 = .ok (.dup, 1) := by decide +kernel
theorem dX3_begin_2 : decode cX3_begin 2 = .ok (.getfield 42, 3) := by decide +kernel
theorem dX3_begin_5 : decode cX3_begin 5 = .ok (.aload_n 0, 1) := by decide +kernel
theorem dX3_begin_6 : decode cX3_begin 6 = .ok (.getfield 55, 3) := by decide +kernel
theorem dX3_begin_9 : decode cX3_begin 9 = .ok (.ifCond .eq 7, 3) := by decide +kernel
theorem dX3_begin_12 : decode cX3_begin 12 = .ok (.iconst 0, 1) := by decide +kernel
theorem dX3_begin_13 : decode cX3_begin 13 = .ok (.goto 4, 3) := by decide +kernel
theorem dX3_begin_16 : decode cX3_begin 16 = .ok (.iconst 1, 1) := by decide +kernel
theorem dX3_begin_17 : decode cX3_begin 17 = .ok (.iadd, 1) := by decide +kernel
theorem dX3_begin_18 : decode cX3_begin 18 = .ok (.putfield 42, 3) := by decide +kernel
theorem dX3_begin_21 : decode cX3_begin 21 = .ok (.aload_n 0, 1) := by decide +kernel
theorem dX3_begin_22 : decode cX3_begin 22 = .ok (.iconst 1, 1) := by decide +kernel
theorem dX3_begin_23 : decode cX3_begin 23 = .ok (.putfield 55, 3) := by decide +kernel
theorem dX3_begin_26 : decode cX3_begin 26 = .ok (.return_, 1) := by decide +kernel
theorem dX3_settle_0 : decode cX3_settle 0 = .ok (.sipush 8712, 3) := by decide +kernel
theorem dX3_settle_3 : decode cX3_settle 3 = .ok (.aload_n 0, 1) := by decide +kernel
theorem dX3_settle_4 : decode cX3_settle 4 = .ok (.getfield 39, 3) := by decide +kernel
theorem dX3_settle_7 : decode cX3_settle 7 = .ok (.imul, 1) := by decide +kernel
theorem dX3_settle_8 : decode cX3_settle 8 = .ok (.istore_n 1, 1) := by decide +kernel
theorem dX3_settle_9 : decode cX3_settle 9 = .ok (.iload_n 1, 1) := by decide +kernel
theorem dX3_settle_10 : decode cX3_settle 10 = .ok (.sipush 8712, 3) := by decide +kernel
theorem dX3_settle_13 : decode cX3_settle 13 = .ok (.aload_n 0, 1) := by decide +kernel
theorem dX3_settle_14 : decode cX3_settle 14 = .ok (.getfield 42, 3) := by decide +kernel
theorem dX3_settle_17 : decode cX3_settle 17 = .ok (.imul, 1) := by decide +kernel
theorem dX3_settle_18 : decode cX3_settle 18 = .ok (.if_icmp .ge 17, 3) := by decide +kernel
theorem dX3_settle_21 : decode cX3_settle 21 = .ok (.aload_n 0, 1) := by decide +kernel
theorem dX3_settle_22 : decode cX3_settle 22 = .ok (.getfield 8, 3) := by decide +kernel
theorem dX3_settle_25 : decode cX3_settle 25 = .ok (.iload_n 1, 1) := by decide +kernel
theorem dX3_settle_26 : decode cX3_settle 26 = .ok (.bipush 32, 2) := by decide +kernel
theorem dX3_settle_28 : decode cX3_settle 28 = .ok (.iastore, 1) := by decide +kernel
theorem dX3_settle_29 : decode cX3_settle 29 = .ok (.iinc 1 1, 3) := by decide +kernel
theorem dX3_settle_32 : decode cX3_settle 32 = .ok (.goto (-23), 3) := by decide +kernel
theorem dX3_settle_35 : decode cX3_settle 35 = .ok (.aload_n 0, 1) := by decide +kernel
theorem dX3_settle_36 : decode cX3_settle 36 = .ok (.aload_n 0, 1) := by decide +kernel
theorem dX3_settle_37 : decode cX3_settle 37 = .ok (.getfield 42, 3) := by decide +kernel
theorem dX3_settle_40 : decode cX3_settle 40 = .ok (.putfield 39, 3) := by decide +kernel
theorem dX3_settle_43 : decode cX3_settle 43 = .ok (.aload_n 0, 1) := by decide +kernel
theorem dX3_settle_44 : decode cX3_settle 44 = .ok (.aload_n 0, 1) := by decide +kernel
theorem dX3_settle_45 : decode cX3_settle 45 = .ok (.getfield 48, 3) := by decide +kernel
theorem dX3_settle_48 : decode cX3_settle 48 = .ok (.putfield 45, 3) := by decide +kernel
theorem dX3_settle_51 : decode cX3_settle 51 = .ok (.aload_n 0, 1) := by decide +kernel
theorem dX3_settle_52 : decode cX3_settle 52 = .ok (.aload_n 0, 1) := by decide +kernel
theorem dX3_settle_53 : decode cX3_settle 53 = .ok (.getfield 55, 3) := by decide +kernel
theorem dX3_settle_56 : decode cX3_settle 56 = .ok (.putfield 51, 3) := by decide +kernel
theorem dX3_settle_59 : decode cX3_settle 59 = .ok (.return_, 1) := by decide +kernel
theorem dX3_darker_0 : decode cX3_darker 0 = .ok (.iload_n 0, 1) := by decide +kernel
theorem dX3_darker_1 : decode cX3_darker 1 = .ok (.iload_n 1, 1) := by decide +kernel
theorem dX3_darker_2 : decode cX3_darker 2 = .ok (.if_icmp .le 7, 3) := by decide +kernel
theorem dX3_darker_5 : decode cX3_darker 5 = .ok (.iload_n 0, 1) := by decide +kernel
theorem dX3_darker_6 : decode cX3_darker 6 = .ok (.goto 4, 3) := by decide +kernel
theorem dX3_darker_9 : decode cX3_darker 9 = .ok (.iload_n 1, 1) := by decide +kernel
theorem dX3_darker_10 : decode cX3_darker 10 = .ok (.ireturn, 1) := by decide +kernel
set_option maxRecDepth 20000 in
theorem ggX3_print_X3_darker : GoodIn wsX3_print wsX3_darker := goodIn_r _ [10] (by decide +kernel) (by decide +kernel)
set_option maxRecDepth 20000 in
theorem gX3_print_X3_darker : GoodIn wsX3_print (va_wsS RX3 58 yX3_darker wsX3_darker) := goodIn_app (goodIn_of _ (by decide +kernel)) ggX3_print_X3_darker
theorem dX3_print_0 : decode cX3_print 0 = .ok (.iconst 0, 1) := by decide +kernel
theorem dX3_print_1 : decode cX3_print 1 = .ok (.istore_n 3, 1) := by decide +kernel
theorem dX3_print_2 : decode cX3_print 2 = .ok (.iload_n 3, 1) := by decide +kernel
theorem dX3_print_3 : decode cX3_print 3 = .ok (.aload_n 0, 1) := by decide +kernel
theorem dX3_print_4 : decode cX3_print 4 = .ok (.getfield 36, 3) := by decide +kernel
theorem dX3_print_7 : decode cX3_print 7 = .ok (.if_icmp .ge 98, 3) := by decide +kernel
theorem dX3_print_10 : decode cX3_print 10 = .ok (.aload_n 0, 1) := by decide +kernel
theorem dX3_print_11 : decode cX3_print 11 = .ok (.getfield 17, 3) := by decide +kernel
theorem dX3_print_14 : decode cX3_print 14 = .ok (.aload_n 0, 1) := by decide +kernel
theorem dX3_print_15 : decode cX3_print 15 = .ok (.getfield 20, 3) := by decide +kernel
theorem dX3_print_18 : decode cX3_print 18 = .ok (.iload_n 3, 1) := by decide +kernel
theorem dX3_print_19 : decode cX3_print 19 = .ok (.iaload, 1) := by decide +kernel
theorem dX3_print_20 : decode cX3_print 20 = .ok (.iaload, 1) := by decide +kernel
theorem dX3_print_21 : decode cX3_print 21 = .ok (.istore 4, 2) := by decide +kernel
theorem dX3_print_23 : decode cX3_print 23 = .ok (.iload_n 3, 1) := by decide +kernel
theorem dX3_print_24 : decode cX3_print 24 = .ok (.aload_n 0, 1) := by decide +kernel
theorem dX3_print_25 : decode cX3_print 25 = .ok (.getfield 30, 3) := by decide +kernel
theorem dX3_print_28 : decode cX3_print 28 = .ok (.if_icmp .lt 16, 3) := by decide +kernel
theorem dX3_print_31 : decode cX3_print 31 = .ok (.aload_n 0, 1) := by decide +kernel
theorem dX3_print_32 : decode cX3_print 32 = .ok (.getfield 23, 3) := by decide +kernel
theorem dX3_print_35 : decode cX3_print 35 = .ok (.iconst 4, 1) := by decide +kernel
theorem dX3_print_36 : decode cX3_print 36 = .ok (.dup2, 1) := by decide +kernel
theorem dX3_print_37 : decode cX3_print 37 = .ok (.iaload, 1) := by decide +kernel
theorem dX3_print_38 : decode cX3_print 38 = .ok (.iconst 1, 1) := by decide +kernel
theorem dX3_print_39 : decode cX3_print 39 = .ok (.iadd, 1) := by decide +kernel
theorem dX3_print_40 : decode cX3_print 40 = .ok (.iastore, 1) := by decide +kernel
theorem dX3_print_41 : decode cX3_print 41 = .ok (.goto 58, 3) := by decide +kernel
theorem dX3_print_44 : decode cX3_print 44 = .ok (.sipush 8712, 3) := by decide +kernel
theorem dX3_print_47 : decode cX3_print 47 = .ok (.iload_n 1, 1) := by decide +kernel
theorem dX3_print_48 : decode cX3_print 48 = .ok (.imul, 1) := by decide +kernel
theorem dX3_print_49 : decode cX3_print 49 = .ok (.sipush 132, 3) := by decide +kernel
theorem dX3_print_52 : decode cX3_print 52 = .ok (.iload_n 2, 1) := by decide +kernel
theorem dX3_print_53 : decode cX3_print 53 = .ok (.imul, 1) := by decide +kernel
theorem dX3_print_54 : decode cX3_print 54 = .ok (.iadd, 1) := by decide +kernel
theorem dX3_print_55 : decode cX3_print 55 = .ok (.iload_n 3, 1) := by decide +kernel
theorem dX3_print_56 : decode cX3_print 56 = .ok (.iadd, 1) := by decide +kernel
theorem dX3_print_57 : decode cX3_print 57 = .ok (.istore 5, 2) := by decide +kernel
theorem dX3_print_59 : decode cX3_print 59 = .ok (.aload_n 0, 1) := by decide +kernel
theorem dX3_print_60 : decode cX3_print 60 = .ok (.getfield 8, 3) := by decide +kernel
theorem dX3_print_63 : decode cX3_print 63 = .ok (.iload 5, 2) := by decide +kernel
theorem dX3_print_65 : decode cX3_print 65 = .ok (.aload_n 0, 1) := by decide +kernel
theorem dX3_print_66 : decode cX3_print 66 = .ok (.getfield 8, 3) := by decide +kernel
theorem dX3_print_69 : decode cX3_print 69 = .ok (.iload 5, 2) := by decide +kernel
theorem dX3_print_71 : decode cX3_print 71 = .ok (.iaload, 1) := by decide +kernel
theorem dX3_print_72 : decode cX3_print 72 = .ok (.iload 4, 2) := by decide +kernel
theorem dX3_print_74 : decode cX3_print 74 = .ok (.invokestatic 58, 3) := by decide +kernel
theorem dX3_print_77 : decode cX3_print 77 = .ok (.iastore, 1) := by decide +kernel
theorem dX3_print_78 : decode cX3_print 78 = .ok (.aload_n 0, 1) := by decide +kernel
theorem dX3_print_79 : decode cX3_print 79 = .ok (.getfield 23, 3) := by decide +kernel
theorem dX3_print_82 : decode cX3_print 82 = .ok (.iconst 3, 1) := by decide +kernel
theorem dX3_print_83 : decode cX3_print 83 = .ok (.dup2, 1) := by decide +kernel
theorem dX3_print_84 : decode cX3_print 84 = .ok (.iaload, 1) := by decide +kernel
theorem dX3_print_85 : decode cX3_print 85 = .ok (.iload 4, 2) := by decide +kernel
theorem dX3_print_87 : decode cX3_print 87 = .ok (.bipush 32, 2) := by decide +kernel
theorem dX3_print_89 : decode cX3_print 89 = .ok (.if_icmp .ne 7, 3) := by decide +kernel
theorem dX3_print_92 : decode cX3_print 92 = .ok (.iconst 0, 1) := by decide +kernel
theorem dX3_print_93 : decode cX3_print 93 = .ok (.goto 4, 3) := by decide +kernel
theorem dX3_print_96 : decode cX3_print 96 = .ok (.iconst 1, 1) := by decide +kernel
theorem dX3_print_97 : decode cX3_print 97 = .ok (.iadd, 1) := by decide +kernel
theorem dX3_print_98 : decode cX3_print 98 = .ok (.iastore, 1) := by decide +kernel
theorem dX3_print_99 : decode cX3_print 99 = .ok (.iinc 3 1, 3) := by decide +kernel
theorem dX3_print_102 : decode cX3_print 102 = .ok (.goto (-100), 3) := by decide +kernel
theorem dX3_print_105 : decode cX3_print 105 = .ok (.aload_n 0, 1) := by decide +kernel
theorem dX3_print_106 : decode cX3_print 106 = .ok (.iconst 0, 1) := by decide +kernel
theorem dX3_print_107 : decode cX3_print 107 = .ok (.putfield 36, 3) := by decide +kernel
theorem dX3_print_110 : decode cX3_print 110 = .ok (.aload_n 0, 1) := by decide +kernel
theorem dX3_print_111 : decode cX3_print 111 = .ok (.getfield 23, 3) := by decide +kernel
theorem dX3_print_114 : decode cX3_print 114 = .ok (.iconst 2, 1) := by decide +kernel
theorem dX3_print_115 : decode cX3_print 115 = .ok (.dup2, 1) := by decide +kernel
theorem dX3_print_116 : decode cX3_print 116 = .ok (.iaload, 1) := by decide +kernel
theorem dX3_print_117 : decode cX3_print 117 = .ok (.iconst 1, 1) := by decide +kernel
theorem dX3_print_118 : decode cX3_print 118 = .ok (.iadd, 1) := by decide +kernel
theorem dX3_print_119 : decode cX3_print 119 = .ok (.iastore, 1) := by decide +kernel
theorem dX3_print_120 : decode cX3_print 120 = .ok (.return_, 1) := by decide +kernel
set_option maxRecDepth 20000 in
theorem ggX3_ahead_X3_way : GoodIn wsX3_ahead wsX3_way := goodIn_r _ [5, 6, 7, 8, 9, 10, 11, 12, 13, 14, 15, 16, 17, 18, 19, 20, 21, 22, 23, 24] (by decide +kernel) (by decide +kernel)
set_option maxRecDepth 20000 in
theorem gX3_ahead_X3_way : GoodIn wsX3_ahead (wsV RX3 62 RX3 yX3_way wsX3_way) := goodIn_app (goodIn_of _ (by decide +kernel)) ggX3_ahead_X3_way
theorem dX3_ahead_0 : decode cX3_ahead 0 = .ok (.iload_n 1, 1) := by decide +kernel
theorem dX3_ahead_1 : decode cX3_ahead 1 = .ok (.bipush 49, 2) := by decide +kernel
theorem dX3_ahead_3 : decode cX3_ahead 3 = .ok (.if_icmp .lt 18, 3) := by decide +kernel
theorem dX3_ahead_6 : decode cX3_ahead 6 = .ok (.iload_n 1, 1) := by decide +kernel
theorem dX3_ahead_7 : decode cX3_ahead 7 = .ok (.bipush 57, 2) := by decide +kernel
theorem dX3_ahead_9 : decode cX3_ahead 9 = .ok (.if_icmp .gt 12, 3) := by decide +kernel
theorem dX3_ahead_12 : decode cX3_ahead 12 = .ok (.aload_n 0, 1) := by decide +kernel
theorem dX3_ahead_13 : decode cX3_ahead 13 = .ok (.iload_n 1, 1) := by decide +kernel
theorem dX3_ahead_14 : decode cX3_ahead 14 = .ok (.bipush 48, 2) := by decide +kernel
theorem dX3_ahead_16 : decode cX3_ahead 16 = .ok (.isub, 1) := by decide +kernel
theorem dX3_ahead_17 : decode cX3_ahead 17 = .ok (.invokevirtual 62, 3) := by decide +kernel
theorem dX3_ahead_20 : decode cX3_ahead 20 = .ok (.ireturn, 1) := by decide +kernel
theorem dX3_ahead_21 : decode cX3_ahead 21 = .ok (.iload_n 1, 1) := by decide +kernel
theorem dX3_ahead_22 : decode cX3_ahead 22 = .ok (.bipush 65, 2) := by decide +kernel
theorem dX3_ahead_24 : decode cX3_ahead 24 = .ok (.if_icmp .lt 18, 3) := by decide +kernel
theorem dX3_ahead_27 : decode cX3_ahead 27 = .ok (.iload_n 1, 1) := by decide +kernel
theorem dX3_ahead_28 : decode cX3_ahead 28 = .ok (.bipush 67, 2) := by decide +kernel
theorem dX3_ahead_30 : decode cX3_ahead 30 = .ok (.if_icmp .gt 12, 3) := by decide +kernel
theorem dX3_ahead_33 : decode cX3_ahead 33 = .ok (.aload_n 0, 1) := by decide +kernel
theorem dX3_ahead_34 : decode cX3_ahead 34 = .ok (.iload_n 1, 1) := by decide +kernel
theorem dX3_ahead_35 : decode cX3_ahead 35 = .ok (.bipush 55, 2) := by decide +kernel
theorem dX3_ahead_37 : decode cX3_ahead 37 = .ok (.isub, 1) := by decide +kernel
theorem dX3_ahead_38 : decode cX3_ahead 38 = .ok (.invokevirtual 62, 3) := by decide +kernel
theorem dX3_ahead_41 : decode cX3_ahead 41 = .ok (.ireturn, 1) := by decide +kernel
theorem dX3_ahead_42 : decode cX3_ahead 42 = .ok (.iload_n 1, 1) := by decide +kernel
theorem dX3_ahead_43 : decode cX3_ahead 43 = .ok (.bipush 48, 2) := by decide +kernel
theorem dX3_ahead_45 : decode cX3_ahead 45 = .ok (.if_icmp .ne 7, 3) := by decide +kernel
theorem dX3_ahead_48 : decode cX3_ahead 48 = .ok (.iconst 2, 1) := by decide +kernel
theorem dX3_ahead_49 : decode cX3_ahead 49 = .ok (.goto 24, 3) := by decide +kernel
theorem dX3_ahead_52 : decode cX3_ahead 52 = .ok (.iload_n 1, 1) := by decide +kernel
theorem dX3_ahead_53 : decode cX3_ahead 53 = .ok (.bipush 45, 2) := by decide +kernel
theorem dX3_ahead_55 : decode cX3_ahead 55 = .ok (.if_icmp .ne 7, 3) := by decide +kernel
theorem dX3_ahead_58 : decode cX3_ahead 58 = .ok (.iconst 3, 1) := by decide +kernel
theorem dX3_ahead_59 : decode cX3_ahead 59 = .ok (.goto 14, 3) := by decide +kernel
theorem dX3_ahead_62 : decode cX3_ahead 62 = .ok (.iload_n 1, 1) := by decide +kernel
theorem dX3_ahead_63 : decode cX3_ahead 63 = .ok (.bipush 43, 2) := by decide +kernel
theorem dX3_ahead_65 : decode cX3_ahead 65 = .ok (.if_icmp .ne 7, 3) := by decide +kernel
theorem dX3_ahead_68 : decode cX3_ahead 68 = .ok (.iconst 0, 1) := by decide +kernel
theorem dX3_ahead_69 : decode cX3_ahead 69 = .ok (.goto 4, 3) := by decide +kernel
theorem dX3_ahead_72 : decode cX3_ahead 72 = .ok (.iconst 1, 1) := by decide +kernel
theorem dX3_ahead_73 : decode cX3_ahead 73 = .ok (.ireturn, 1) := by decide +kernel
theorem dX3_channelOf_0 : decode cX3_channelOf 0 = .ok (.iload_n 0, 1) := by decide +kernel
theorem dX3_channelOf_1 : decode cX3_channelOf 1 = .ok (.bipush 49, 2) := by decide +kernel
theorem dX3_channelOf_3 : decode cX3_channelOf 3 = .ok (.if_icmp .lt 16, 3) := by decide +kernel
theorem dX3_channelOf_6 : decode cX3_channelOf 6 = .ok (.iload_n 0, 1) := by decide +kernel
theorem dX3_channelOf_7 : decode cX3_channelOf 7 = .ok (.bipush 57, 2) := by decide +kernel
theorem dX3_channelOf_9 : decode cX3_channelOf 9 = .ok (.if_icmp .gt 10, 3) := by decide +kernel
theorem dX3_channelOf_12 : decode cX3_channelOf 12 = .ok (.iload_n 0, 1) := by decide +kernel
theorem dX3_channelOf_13 : decode cX3_channelOf 13 = .ok (.bipush 48, 2) := by decide +kernel
theorem dX3_channelOf_15 : decode cX3_channelOf 15 = .ok (.isub, 1) := by decide +kernel
theorem dX3_channelOf_16 : decode cX3_channelOf 16 = .ok (.goto 45, 3) := by decide +kernel
theorem dX3_channelOf_19 : decode cX3_channelOf 19 = .ok (.iload_n 0, 1) := by decide +kernel
theorem dX3_channelOf_20 : decode cX3_channelOf 20 = .ok (.bipush 65, 2) := by decide +kernel
theorem dX3_channelOf_22 : decode cX3_channelOf 22 = .ok (.if_icmp .lt 16, 3) := by decide +kernel
theorem dX3_channelOf_25 : decode cX3_channelOf 25 = .ok (.iload_n 0, 1) := by decide +kernel
theorem dX3_channelOf_26 : decode cX3_channelOf 26 = .ok (.bipush 67, 2) := by decide +kernel
theorem dX3_channelOf_28 : decode cX3_channelOf 28 = .ok (.if_icmp .gt 10, 3) := by decide +kernel
theorem dX3_channelOf_31 : decode cX3_channelOf 31 = .ok (.iload_n 0, 1) := by decide +kernel
theorem dX3_channelOf_32 : decode cX3_channelOf 32 = .ok (.bipush 55, 2) := by decide +kernel
theorem dX3_channelOf_34 : decode cX3_channelOf 34 = .ok (.isub, 1) := by decide +kernel
theorem dX3_channelOf_35 : decode cX3_channelOf 35 = .ok (.goto 26, 3) := by decide +kernel
theorem dX3_channelOf_38 : decode cX3_channelOf 38 = .ok (.iload_n 0, 1) := by decide +kernel
theorem dX3_channelOf_39 : decode cX3_channelOf 39 = .ok (.sipush 273, 3) := by decide +kernel
theorem dX3_channelOf_42 : decode cX3_channelOf 42 = .ok (.if_icmp .lt 18, 3) := by decide +kernel
theorem dX3_channelOf_45 : decode cX3_channelOf 45 = .ok (.iload_n 0, 1) := by decide +kernel
theorem dX3_channelOf_46 : decode cX3_channelOf 46 = .ok (.sipush 284, 3) := by decide +kernel
theorem dX3_channelOf_49 : decode cX3_channelOf 49 = .ok (.if_icmp .gt 11, 3) := by decide +kernel
theorem dX3_channelOf_52 : decode cX3_channelOf 52 = .ok (.iload_n 0, 1) := by decide +kernel
theorem dX3_channelOf_53 : decode cX3_channelOf 53 = .ok (.sipush 272, 3) := by decide +kernel
theorem dX3_channelOf_56 : decode cX3_channelOf 56 = .ok (.isub, 1) := by decide +kernel
theorem dX3_channelOf_57 : decode cX3_channelOf 57 = .ok (.goto 4, 3) := by decide +kernel
theorem dX3_channelOf_60 : decode cX3_channelOf 60 = .ok (.iconst 0, 1) := by decide +kernel
theorem dX3_channelOf_61 : decode cX3_channelOf 61 = .ok (.ireturn, 1) := by decide +kernel
set_option maxRecDepth 20000 in
theorem ggX3_line_X3_tries : GoodIn wsX3_line wsX3_tries := goodIn_r _ [11, 6, 2, 12, 3, 13, 14, 51, 52, 53, 54, 55, 56, 57, 58, 59, 60, 61, 62, 63, 64, 65, 66] (by decide +kernel) (by decide +kernel)
set_option maxRecDepth 20000 in
theorem gX3_line_X3_tries : GoodIn wsX3_line (wsV RX3 66 RX3 yX3_tries wsX3_tries) := goodIn_app (goodIn_of _ (by decide +kernel)) ggX3_line_X3_tries
set_option maxRecDepth 20000 in
theorem ggX3_line_X3_ahead : GoodIn wsX3_line wsX3_ahead := goodIn_r _ [18, 19, 20, 21, 10, 22, 5, 23, 3, 51, 52, 53, 54, 55, 56, 57, 58, 59, 60, 61, 62, 63, 64, 65, 66] (by decide +kernel) (by decide +kernel)
set_option maxRecDepth 20000 in
theorem gX3_line_X3_ahead : GoodIn wsX3_line (wsV RX3 69 RX3 yX3_ahead wsX3_ahead) := goodIn_app (goodIn_of _ (by decide +kernel)) ggX3_line_X3_ahead
set_option maxRecDepth 20000 in
theorem ggX3_line_X3_move : GoodIn wsX3_line wsX3_move := goodIn_r _ [27, 3, 23, 2, 14, 51, 52, 53, 54, 55, 56, 57, 58, 59, 60, 61, 62, 63, 64, 65, 66] (by decide +kernel) (by decide +kernel)
set_option maxRecDepth 20000 in
theorem gX3_line_X3_move : GoodIn wsX3_line (wsV RX3 72 RX3 yX3_move wsX3_move) := goodIn_app (goodIn_of _ (by decide +kernel)) ggX3_line_X3_move
set_option maxRecDepth 20000 in
theorem ggX3_line_X3_begin : GoodIn wsX3_line wsX3_begin := goodIn_r _ [31, 2, 14, 51, 52, 53, 54, 55, 56, 57, 58, 59, 60, 61, 62, 63, 64, 65, 66] (by decide +kernel) (by decide +kernel)
set_option maxRecDepth 20000 in
theorem gX3_line_X3_begin : GoodIn wsX3_line (wsV RX3 76 RX3 yX3_begin wsX3_begin) := goodIn_app (goodIn_of _ (by decide +kernel)) ggX3_line_X3_begin
set_option maxRecDepth 20000 in
theorem ggX3_line_X3_way : GoodIn wsX3_line wsX3_way := goodIn_r _ [22, 5, 23, 3, 51, 52, 53, 54, 55, 56, 57, 58, 59, 60, 61, 62, 63, 64, 65, 66] (by decide +kernel) (by decide +kernel)
set_option maxRecDepth 20000 in
theorem gX3_line_X3_way : GoodIn wsX3_line (wsV RX3 62 RX3 yX3_way wsX3_way) := goodIn_app (goodIn_of _ (by decide +kernel)) ggX3_line_X3_way
set_option maxRecDepth 20000 in
theorem ggX3_line_X3_channelOf : GoodIn wsX3_line wsX3_channelOf := goodIn_r _ [34] (by decide +kernel) (by decide +kernel)
set_option maxRecDepth 20000 in
theorem gX3_line_X3_channelOf : GoodIn wsX3_line (va_wsS RX3 79 yX3_channelOf wsX3_channelOf) := goodIn_app (goodIn_of _ (by decide +kernel)) ggX3_line_X3_channelOf
set_option maxRecDepth 20000 in
theorem ggX3_line_X3_settle : GoodIn wsX3_line wsX3_settle := goodIn_r _ [38, 6, 2, 39, 3, 12, 14, 13, 51, 52, 53, 54, 55, 56, 57, 58, 59, 60, 61, 62, 63, 64, 65, 66] (by decide +kernel) (by decide +kernel)
set_option maxRecDepth 20000 in
theorem gX3_line_X3_settle : GoodIn wsX3_line (wsV RX3 82 RX3 yX3_settle wsX3_settle) := goodIn_app (goodIn_of _ (by decide +kernel)) ggX3_line_X3_settle
set_option maxRecDepth 20000 in
theorem ggX3_line_X3_print : GoodIn wsX3_line wsX3_print := goodIn_r _ [43, 44, 45, 46, 47, 4, 39, 48, 49, 10, 50, 51, 52, 53, 54, 55, 56, 57, 58, 59, 60, 61, 62, 63, 64, 65, 66] (by decide +kernel) (by decide +kernel)
set_option maxRecDepth 20000 in
theorem gX3_line_X3_print : GoodIn wsX3_line (wsV RX3 85 RX3 yX3_print wsX3_print) := goodIn_app (goodIn_of _ (by decide +kernel)) ggX3_line_X3_print
theorem dX3_line_0 : decode cX3_line 0 = .ok (.aload_n 0, 1) := by decide +kernel
theorem dX3_line_1 : decode cX3_line 1 = .ok (.iconst 0, 1) := by decide +kernel
theorem dX3_line_2 : decode cX3_line 2 = .ok (.putfield 33, 3) := by decide +kernel
theorem dX3_line_5 : decode cX3_line 5 = .ok (.iload_n 1, 1) := by decide +kernel
theorem dX3_line_6 : decode cX3_line 6 = .ok (.sipush 256, 3) := by decide +kernel
theorem dX3_line_9 : decode cX3_line 9 = .ok (.if_icmp .lt 10, 3) := by decide +kernel
theorem dX3_line_12 : decode cX3_line 12 = .ok (.iload_n 1, 1) := by decide +kernel
theorem dX3_line_13 : decode cX3_line 13 = .ok (.sipush 259, 3) := by decide +kernel
theorem dX3_line_16 : decode cX3_line 16 = .ok (.if_icmp .le 17, 3) := by decide +kernel
theorem dX3_line_19 : decode cX3_line 19 = .ok (.iload_n 1, 1) := by decide +kernel
theorem dX3_line_20 : decode cX3_line 20 = .ok (.sipush 273, 3) := by decide +kernel
theorem dX3_line_23 : decode cX3_line 23 = .ok (.if_icmp .lt 14, 3) := by decide +kernel
theorem dX3_line_26 : decode cX3_line 26 = .ok (.iload_n 1, 1) := by decide +kernel
theorem dX3_line_27 : decode cX3_line 27 = .ok (.sipush 284, 3) := by decide +kernel
theorem dX3_line_30 : decode cX3_line 30 = .ok (.if_icmp .gt 7, 3) := by decide +kernel
theorem dX3_line_33 : decode cX3_line 33 = .ok (.iconst 1, 1) := by decide +kernel
theorem dX3_line_34 : decode cX3_line 34 = .ok (.goto 4, 3) := by decide +kernel
theorem dX3_line_37 : decode cX3_line 37 = .ok (.iconst 0, 1) := by decide +kernel
theorem dX3_line_38 : decode cX3_line 38 = .ok (.istore_n 2, 1) := by decide +kernel
theorem dX3_line_39 : decode cX3_line 39 = .ok (.aload_n 0, 1) := by decide +kernel
theorem dX3_line_40 : decode cX3_line 40 = .ok (.invokevirtual 66, 3) := by decide +kernel
theorem dX3_line_43 : decode cX3_line 43 = .ok (.iload_n 2, 1) := by decide +kernel
theorem dX3_line_44 : decode cX3_line 44 = .ok (.ifCond .ne 12, 3) := by decide +kernel
theorem dX3_line_47 : decode cX3_line 47 = .ok (.aload_n 0, 1) := by decide +kernel
theorem dX3_line_48 : decode cX3_line 48 = .ok (.aload_n 0, 1) := by decide +kernel
theorem dX3_line_49 : decode cX3_line 49 = .ok (.iload_n 1, 1) := by decide +kernel
theorem dX3_line_50 : decode cX3_line 50 = .ok (.invokevirtual 69, 3) := by decide +kernel
theorem dX3_line_53 : decode cX3_line 53 = .ok (.invokevirtual 72, 3) := by decide +kernel
theorem dX3_line_56 : decode cX3_line 56 = .ok (.aload_n 0, 1) := by decide +kernel
theorem dX3_line_57 : decode cX3_line 57 = .ok (.invokevirtual 76, 3) := by decide +kernel
theorem dX3_line_60 : decode cX3_line 60 = .ok (.aload_n 0, 1) := by decide +kernel
theorem dX3_line_61 : decode cX3_line 61 = .ok (.getfield 42, 3) := by decide +kernel
theorem dX3_line_64 : decode cX3_line 64 = .ok (.iconst 1, 1) := by decide +kernel
theorem dX3_line_65 : decode cX3_line 65 = .ok (.isub, 1) := by decide +kernel
theorem dX3_line_66 : decode cX3_line 66 = .ok (.istore_n 3, 1) := by decide +kernel
theorem dX3_line_67 : decode cX3_line 67 = .ok (.aload_n 0, 1) := by decide +kernel
theorem dX3_line_68 : decode cX3_line 68 = .ok (.getfield 48, 3) := by decide +kernel
theorem dX3_line_71 : decode cX3_line 71 = .ok (.istore 4, 2) := by decide +kernel
theorem dX3_line_73 : decode cX3_line 73 = .ok (.iload_n 2, 1) := by decide +kernel
theorem dX3_line_74 : decode cX3_line 74 = .ok (.ifCond .eq 31, 3) := by decide +kernel
theorem dX3_line_77 : decode cX3_line 77 = .ok (.aload_n 0, 1) := by decide +kernel
theorem dX3_line_78 : decode cX3_line 78 = .ok (.iload_n 1, 1) := by decide +kernel
theorem dX3_line_79 : decode cX3_line 79 = .ok (.sipush 260, 3) := by decide +kernel
theorem dX3_line_82 : decode cX3_line 82 = .ok (.if_icmp .ge 11, 3) := by decide +kernel
theorem dX3_line_85 : decode cX3_line 85 = .ok (.iload_n 1, 1) := by decide +kernel
theorem dX3_line_86 : decode cX3_line 86 = .ok (.sipush 256, 3) := by decide +kernel
theorem dX3_line_89 : decode cX3_line 89 = .ok (.isub, 1) := by decide +kernel
theorem dX3_line_90 : decode cX3_line 90 = .ok (.goto 12, 3) := by decide +kernel
theorem dX3_line_93 : decode cX3_line 93 = .ok (.aload_n 0, 1) := by decide +kernel
theorem dX3_line_94 : decode cX3_line 94 = .ok (.iload_n 1, 1) := by decide +kernel
theorem dX3_line_95 : decode cX3_line 95 = .ok (.sipush 272, 3) := by decide +kernel
theorem dX3_line_98 : decode cX3_line 98 = .ok (.isub, 1) := by decide +kernel
theorem dX3_line_99 : decode cX3_line 99 = .ok (.invokevirtual 62, 3) := by decide +kernel
theorem dX3_line_102 : decode cX3_line 102 = .ok (.invokevirtual 72, 3) := by decide +kernel
theorem dX3_line_105 : decode cX3_line 105 = .ok (.aload_n 0, 1) := by decide +kernel
theorem dX3_line_106 : decode cX3_line 106 = .ok (.getfield 42, 3) := by decide +kernel
theorem dX3_line_109 : decode cX3_line 109 = .ok (.bipush 40, 2) := by decide +kernel
theorem dX3_line_111 : decode cX3_line 111 = .ok (.if_icmp .le 6, 3) := by decide +kernel
theorem dX3_line_114 : decode cX3_line 114 = .ok (.bipush (-6), 2) := by decide +kernel
theorem dX3_line_116 : decode cX3_line 116 = .ok (.ireturn, 1) := by decide +kernel
theorem dX3_line_117 : decode cX3_line 117 = .ok (.iload_n 1, 1) := by decide +kernel
theorem dX3_line_118 : decode cX3_line 118 = .ok (.invokestatic 79, 3) := by decide +kernel
theorem dX3_line_121 : decode cX3_line 121 = .ok (.istore 5, 2) := by decide +kernel
theorem dX3_line_123 : decode cX3_line 123 = .ok (.aload_n 0, 1) := by decide +kernel
theorem dX3_line_124 : decode cX3_line 124 = .ok (.getfield 23, 3) := by decide +kernel
theorem dX3_line_127 : decode cX3_line 127 = .ok (.iconst 5, 1) := by decide +kernel
theorem dX3_line_128 : decode cX3_line 128 = .ok (.dup2, 1) := by decide +kernel
theorem dX3_line_129 : decode cX3_line 129 = .ok (.iaload, 1) := by decide +kernel
theorem dX3_line_130 : decode cX3_line 130 = .ok (.iload 5, 2) := by decide +kernel
theorem dX3_line_132 : decode cX3_line 132 = .ok (.ifCond .le 18, 3) := by decide +kernel
theorem dX3_line_135 : decode cX3_line 135 = .ok (.aload_n 0, 1) := by decide +kernel
theorem dX3_line_136 : decode cX3_line 136 = .ok (.getfield 14, 3) := by decide +kernel
theorem dX3_line_139 : decode cX3_line 139 = .ok (.iload 5, 2) := by decide +kernel
theorem dX3_line_141 : decode cX3_line 141 = .ok (.iaload, 1) := by decide +kernel
theorem dX3_line_142 : decode cX3_line 142 = .ok (.iconst (-1), 1) := by decide +kernel
theorem dX3_line_143 : decode cX3_line 143 = .ok (.if_icmp .ne 7, 3) := by decide +kernel
theorem dX3_line_146 : decode cX3_line 146 = .ok (.iconst 1, 1) := by decide +kernel
theorem dX3_line_147 : decode cX3_line 147 = .ok (.goto 4, 3) := by decide +kernel
theorem dX3_line_150 : decode cX3_line 150 = .ok (.iconst 0, 1) := by decide +kernel
theorem dX3_line_151 : decode cX3_line 151 = .ok (.iadd, 1) := by decide +kernel
theorem dX3_line_152 : decode cX3_line 152 = .ok (.iastore, 1) := by decide +kernel
theorem dX3_line_153 : decode cX3_line 153 = .ok (.aload_n 0, 1) := by decide +kernel
theorem dX3_line_154 : decode cX3_line 154 = .ok (.invokevirtual 82, 3) := by decide +kernel
theorem dX3_line_157 : decode cX3_line 157 = .ok (.aload_n 0, 1) := by decide +kernel
theorem dX3_line_158 : decode cX3_line 158 = .ok (.iload_n 3, 1) := by decide +kernel
theorem dX3_line_159 : decode cX3_line 159 = .ok (.iload 4, 2) := by decide +kernel
theorem dX3_line_161 : decode cX3_line 161 = .ok (.invokevirtual 85, 3) := by decide +kernel
theorem dX3_line_164 : decode cX3_line 164 = .ok (.aload_n 0, 1) := by decide +kernel
theorem dX3_line_165 : decode cX3_line 165 = .ok (.getfield 39, 3) := by decide +kernel
theorem dX3_line_168 : decode cX3_line 168 = .ok (.ireturn, 1) := by decide +kernel
set_option maxRecDepth 20000 in
theorem ggX3_skip_X3_tries : GoodIn wsX3_skip wsX3_tries := goodIn_r _ [9, 10, 2, 11, 12, 13, 14, 29, 30, 31, 32, 33, 34, 35, 36, 37, 38, 39, 40, 41, 42, 43, 44] (by decide +kernel) (by decide +kernel)
set_option maxRecDepth 20000 in
theorem gX3_skip_X3_tries : GoodIn wsX3_skip (wsV RX3 66 RX3 yX3_tries wsX3_tries) := goodIn_app (goodIn_of _ (by decide +kernel)) ggX3_skip_X3_tries
set_option maxRecDepth 20000 in
theorem ggX3_skip_X3_way : GoodIn wsX3_skip wsX3_way := goodIn_r _ [18, 3, 19, 12, 29, 30, 31, 32, 33, 34, 35, 36, 37, 38, 39, 40, 41, 42, 43, 44] (by decide +kernel) (by decide +kernel)
set_option maxRecDepth 20000 in
theorem gX3_skip_X3_way : GoodIn wsX3_skip (wsV RX3 62 RX3 yX3_way wsX3_way) := goodIn_app (goodIn_of _ (by decide +kernel)) ggX3_skip_X3_way
set_option maxRecDepth 20000 in
theorem ggX3_skip_X3_move : GoodIn wsX3_skip wsX3_move := goodIn_r _ [23, 12, 19, 2, 14, 29, 30, 31, 32, 33, 34, 35, 36, 37, 38, 39, 40, 41, 42, 43, 44] (by decide +kernel) (by decide +kernel)
set_option maxRecDepth 20000 in
theorem gX3_skip_X3_move : GoodIn wsX3_skip (wsV RX3 72 RX3 yX3_move wsX3_move) := goodIn_app (goodIn_of _ (by decide +kernel)) ggX3_skip_X3_move
set_option maxRecDepth 20000 in
theorem ggX3_skip_X3_settle : GoodIn wsX3_skip wsX3_settle := goodIn_r _ [27, 10, 2, 28, 12, 11, 14, 13, 29, 30, 31, 32, 33, 34, 35, 36, 37, 38, 39, 40, 41, 42, 43, 44] (by decide +kernel) (by decide +kernel)
set_option maxRecDepth 20000 in
theorem gX3_skip_X3_settle : GoodIn wsX3_skip (wsV RX3 82 RX3 yX3_settle wsX3_settle) := goodIn_app (goodIn_of _ (by decide +kernel)) ggX3_skip_X3_settle
theorem dX3_skip_0 : decode cX3_skip 0 = .ok (.aload_n 0, 1) := by decide +kernel
theorem dX3_skip_1 : decode cX3_skip 1 = .ok (.iconst 0, 1) := by decide +kernel
theorem dX3_skip_2 : decode cX3_skip 2 = .ok (.putfield 33, 3) := by decide +kernel
theorem dX3_skip_5 : decode cX3_skip 5 = .ok (.iload_n 1, 1) := by decide +kernel
theorem dX3_skip_6 : decode cX3_skip 6 = .ok (.iconst 1, 1) := by decide +kernel
theorem dX3_skip_7 : decode cX3_skip 7 = .ok (.if_icmp .lt 9, 3) := by decide +kernel
theorem dX3_skip_10 : decode cX3_skip 10 = .ok (.iload_n 1, 1) := by decide +kernel
theorem dX3_skip_11 : decode cX3_skip 11 = .ok (.bipush 12, 2) := by decide +kernel
theorem dX3_skip_13 : decode cX3_skip 13 = .ok (.if_icmp .le 5, 3) := by decide +kernel
theorem dX3_skip_16 : decode cX3_skip 16 = .ok (.iconst 0, 1) := by decide +kernel
theorem dX3_skip_17 : decode cX3_skip 17 = .ok (.ireturn, 1) := by decide +kernel
theorem dX3_skip_18 : decode cX3_skip 18 = .ok (.aload_n 0, 1) := by decide +kernel
theorem dX3_skip_19 : decode cX3_skip 19 = .ok (.invokevirtual 66, 3) := by decide +kernel
theorem dX3_skip_22 : decode cX3_skip 22 = .ok (.aload_n 0, 1) := by decide +kernel
theorem dX3_skip_23 : decode cX3_skip 23 = .ok (.iload_n 1, 1) := by decide +kernel
theorem dX3_skip_24 : decode cX3_skip 24 = .ok (.invokevirtual 62, 3) := by decide +kernel
theorem dX3_skip_27 : decode cX3_skip 27 = .ok (.istore_n 2, 1) := by decide +kernel
theorem dX3_skip_28 : decode cX3_skip 28 = .ok (.aload_n 0, 1) := by decide +kernel
theorem dX3_skip_29 : decode cX3_skip 29 = .ok (.iload_n 2, 1) := by decide +kernel
theorem dX3_skip_30 : decode cX3_skip 30 = .ok (.invokevirtual 72, 3) := by decide +kernel
theorem dX3_skip_33 : decode cX3_skip 33 = .ok (.aload_n 0, 1) := by decide +kernel
theorem dX3_skip_34 : decode cX3_skip 34 = .ok (.getfield 42, 3) := by decide +kernel
theorem dX3_skip_37 : decode cX3_skip 37 = .ok (.bipush 40, 2) := by decide +kernel
theorem dX3_skip_39 : decode cX3_skip 39 = .ok (.if_icmp .le 6, 3) := by decide +kernel
theorem dX3_skip_42 : decode cX3_skip 42 = .ok (.bipush (-6), 2) := by decide +kernel
theorem dX3_skip_44 : decode cX3_skip 44 = .ok (.ireturn, 1) := by decide +kernel
theorem dX3_skip_45 : decode cX3_skip 45 = .ok (.aload_n 0, 1) := by decide +kernel
theorem dX3_skip_46 : decode cX3_skip 46 = .ok (.invokevirtual 82, 3) := by decide +kernel
theorem dX3_skip_49 : decode cX3_skip 49 = .ok (.aload_n 0, 1) := by decide +kernel
theorem dX3_skip_50 : decode cX3_skip 50 = .ok (.getfield 14, 3) := by decide +kernel
theorem dX3_skip_53 : decode cX3_skip 53 = .ok (.iload_n 1, 1) := by decide +kernel
theorem dX3_skip_54 : decode cX3_skip 54 = .ok (.iaload, 1) := by decide +kernel
theorem dX3_skip_55 : decode cX3_skip 55 = .ok (.iconst (-1), 1) := by decide +kernel
theorem dX3_skip_56 : decode cX3_skip 56 = .ok (.if_icmp .eq 5, 3) := by decide +kernel
theorem dX3_skip_59 : decode cX3_skip 59 = .ok (.iload_n 2, 1) := by decide +kernel
theorem dX3_skip_60 : decode cX3_skip 60 = .ok (.ireturn, 1) := by decide +kernel
theorem dX3_skip_61 : decode cX3_skip 61 = .ok (.aload_n 0, 1) := by decide +kernel
theorem dX3_skip_62 : decode cX3_skip 62 = .ok (.getfield 23, 3) := by decide +kernel
theorem dX3_skip_65 : decode cX3_skip 65 = .ok (.iconst 5, 1) := by decide +kernel
theorem dX3_skip_66 : decode cX3_skip 66 = .ok (.dup2, 1) := by decide +kernel
theorem dX3_skip_67 : decode cX3_skip 67 = .ok (.iaload, 1) := by decide +kernel
theorem dX3_skip_68 : decode cX3_skip 68 = .ok (.iconst 1, 1) := by decide +kernel
theorem dX3_skip_69 : decode cX3_skip 69 = .ok (.iadd, 1) := by decide +kernel
theorem dX3_skip_70 : decode cX3_skip 70 = .ok (.iastore, 1) := by decide +kernel
theorem dX3_skip_71 : decode cX3_skip 71 = .ok (.iconst (-1), 1) := by decide +kernel
theorem dX3_skip_72 : decode cX3_skip 72 = .ok (.ireturn, 1) := by decide +kernel
theorem dX3_pass_0 : decode cX3_pass 0 = .ok (.aload_n 0, 1) := by decide +kernel
theorem dX3_pass_1 : decode cX3_pass 1 = .ok (.iconst 0, 1) := by decide +kernel
theorem dX3_pass_2 : decode cX3_pass 2 = .ok (.putfield 51, 3) := by decide +kernel
theorem dX3_pass_5 : decode cX3_pass 5 = .ok (.aload_n 0, 1) := by decide +kernel
theorem dX3_pass_6 : decode cX3_pass 6 = .ok (.iconst 0, 1) := by decide +kernel
theorem dX3_pass_7 : decode cX3_pass 7 = .ok (.putfield 45, 3) := by decide +kernel
theorem dX3_pass_10 : decode cX3_pass 10 = .ok (.return_, 1) := by decide +kernel
set_option maxRecDepth 20000 in
theorem ggX3_end_X3_pass : GoodIn wsX3_end wsX3_pass := goodIn_r _ [7, 8, 9, 10, 11, 12, 13, 14, 15, 16, 17, 18, 19, 20, 21, 22, 23, 24, 25] (by decide +kernel) (by decide +kernel)
set_option maxRecDepth 20000 in
theorem gX3_end_X3_pass : GoodIn wsX3_end (wsV RX3 89 RX3 yX3_pass wsX3_pass) := goodIn_app (goodIn_of _ (by decide +kernel)) ggX3_end_X3_pass
theorem dX3_end_0 : decode cX3_end 0 = .ok (.aload_n 0, 1) := by decide +kernel
theorem dX3_end_1 : decode cX3_end 1 = .ok (.iconst 0, 1) := by decide +kernel
theorem dX3_end_2 : decode cX3_end 2 = .ok (.putfield 33, 3) := by decide +kernel
theorem dX3_end_5 : decode cX3_end 5 = .ok (.aload_n 0, 1) := by decide +kernel
theorem dX3_end_6 : decode cX3_end 6 = .ok (.invokevirtual 89, 3) := by decide +kernel
theorem dX3_end_9 : decode cX3_end 9 = .ok (.aload_n 0, 1) := by decide +kernel
theorem dX3_end_10 : decode cX3_end 10 = .ok (.getfield 39, 3) := by decide +kernel
theorem dX3_end_13 : decode cX3_end 13 = .ok (.ireturn, 1) := by decide +kernel
theorem dX3_at_0 : decode cX3_at 0 = .ok (.iload_n 1, 1) := by decide +kernel
theorem dX3_at_1 : decode cX3_at 1 = .ok (.ifCond .lt 39, 3) := by decide +kernel
theorem dX3_at_4 : decode cX3_at 4 = .ok (.iload_n 1, 1) := by decide +kernel
theorem dX3_at_5 : decode cX3_at 5 = .ok (.aload_n 0, 1) := by decide +kernel
theorem dX3_at_6 : decode cX3_at 6 = .ok (.getfield 39, 3) := by decide +kernel
theorem dX3_at_9 : decode cX3_at 9 = .ok (.if_icmp .ge 31, 3) := by decide +kernel
theorem dX3_at_12 : decode cX3_at 12 = .ok (.iload_n 2, 1) := by decide +kernel
theorem dX3_at_13 : decode cX3_at 13 = .ok (.ifCond .lt 27, 3) := by decide +kernel
theorem dX3_at_16 : decode cX3_at 16 = .ok (.iload_n 2, 1) := by decide +kernel
theorem dX3_at_17 : decode cX3_at 17 = .ok (.aload_n 0, 1) := by decide +kernel
theorem dX3_at_18 : decode cX3_at 18 = .ok (.getfield 26, 3) := by decide +kernel
theorem dX3_at_21 : decode cX3_at 21 = .ok (.if_icmp .ge 19, 3) := by decide +kernel
theorem dX3_at_24 : decode cX3_at 24 = .ok (.iload_n 3, 1) := by decide +kernel
theorem dX3_at_25 : decode cX3_at 25 = .ok (.ifCond .lt 15, 3) := by decide +kernel
theorem dX3_at_28 : decode cX3_at 28 = .ok (.iload_n 3, 1) := by decide +kernel
theorem dX3_at_29 : decode cX3_at 29 = .ok (.aload_n 0, 1) := by decide +kernel
theorem dX3_at_30 : decode cX3_at 30 = .ok (.getfield 30, 3) := by decide +kernel
theorem dX3_at_33 : decode cX3_at 33 = .ok (.if_icmp .ge 7, 3) := by decide +kernel
theorem dX3_at_36 : decode cX3_at 36 = .ok (.iconst 1, 1) := by decide +kernel
theorem dX3_at_37 : decode cX3_at 37 = .ok (.goto 4, 3) := by decide +kernel
theorem dX3_at_40 : decode cX3_at 40 = .ok (.iconst 0, 1) := by decide +kernel
theorem dX3_at_41 : decode cX3_at 41 = .ok (.istore 4, 2) := by decide +kernel
theorem dX3_at_43 : decode cX3_at 43 = .ok (.aload_n 0, 1) := by decide +kernel
theorem dX3_at_44 : decode cX3_at 44 = .ok (.iload 4, 2) := by decide +kernel
theorem dX3_at_46 : decode cX3_at 46 = .ok (.ifCond .eq 7, 3) := by decide +kernel
theorem dX3_at_49 : decode cX3_at 49 = .ok (.iconst 0, 1) := by decide +kernel
theorem dX3_at_50 : decode cX3_at 50 = .ok (.goto 4, 3) := by decide +kernel
theorem dX3_at_53 : decode cX3_at 53 = .ok (.iconst 1, 1) := by decide +kernel
theorem dX3_at_54 : decode cX3_at 54 = .ok (.putfield 33, 3) := by decide +kernel
theorem dX3_at_57 : decode cX3_at 57 = .ok (.iload 4, 2) := by decide +kernel
theorem dX3_at_59 : decode cX3_at 59 = .ok (.ifCond .eq 24, 3) := by decide +kernel
theorem dX3_at_62 : decode cX3_at 62 = .ok (.aload_n 0, 1) := by decide +kernel
theorem dX3_at_63 : decode cX3_at 63 = .ok (.getfield 8, 3) := by decide +kernel
theorem dX3_at_66 : decode cX3_at 66 = .ok (.sipush 8712, 3) := by decide +kernel
theorem dX3_at_69 : decode cX3_at 69 = .ok (.iload_n 1, 1) := by decide +kernel
theorem dX3_at_70 : decode cX3_at 70 = .ok (.imul, 1) := by decide +kernel
theorem dX3_at_71 : decode cX3_at 71 = .ok (.sipush 132, 3) := by decide +kernel
theorem dX3_at_74 : decode cX3_at 74 = .ok (.iload_n 2, 1) := by decide +kernel
theorem dX3_at_75 : decode cX3_at 75 = .ok (.imul, 1) := by decide +kernel
theorem dX3_at_76 : decode cX3_at 76 = .ok (.iadd, 1) := by decide +kernel
theorem dX3_at_77 : decode cX3_at 77 = .ok (.iload_n 3, 1) := by decide +kernel
theorem dX3_at_78 : decode cX3_at 78 = .ok (.iadd, 1) := by decide +kernel
theorem dX3_at_79 : decode cX3_at 79 = .ok (.iaload, 1) := by decide +kernel
theorem dX3_at_80 : decode cX3_at 80 = .ok (.goto 4, 3) := by decide +kernel
theorem dX3_at_83 : decode cX3_at 83 = .ok (.iconst 0, 1) := by decide +kernel
theorem dX3_at_84 : decode cX3_at 84 = .ok (.ireturn, 1) := by decide +kernel
theorem dX3_isSign_0 : decode cX3_isSign 0 = .ok (.iload_n 0, 1) := by decide +kernel
theorem dX3_isSign_1 : decode cX3_isSign 1 = .ok (.bipush 31, 2) := by decide +kernel
theorem dX3_isSign_3 : decode cX3_isSign 3 = .ok (.if_icmp .le 14, 3) := by decide +kernel
theorem dX3_isSign_6 : decode cX3_isSign 6 = .ok (.iload_n 0, 1) := by decide +kernel
theorem dX3_isSign_7 : decode cX3_isSign 7 = .ok (.sipush 256, 3) := by decide +kernel
theorem dX3_isSign_10 : decode cX3_isSign 10 = .ok (.if_icmp .ge 7, 3) := by decide +kernel
theorem dX3_isSign_13 : decode cX3_isSign 13 = .ok (.iconst 1, 1) := by decide +kernel
theorem dX3_isSign_14 : decode cX3_isSign 14 = .ok (.goto 4, 3) := by decide +kernel
theorem dX3_isSign_17 : decode cX3_isSign 17 = .ok (.iconst 0, 1) := by decide +kernel
theorem dX3_isSign_18 : decode cX3_isSign 18 = .ok (.ireturn, 1) := by decide +kernel
set_option maxRecDepth 20000 in
theorem ggX3_over_X3_isSign : GoodIn wsX3_over wsX3_isSign := goodIn_r _ [5] (by decide +kernel) (by decide +kernel)
set_option maxRecDepth 20000 in
theorem gX3_over_X3_isSign : GoodIn wsX3_over (va_wsS RX3 92 yX3_isSign wsX3_isSign) := goodIn_app (goodIn_of _ (by decide +kernel)) ggX3_over_X3_isSign
set_option maxRecDepth 20000 in
theorem ggX3_over_X3_darker : GoodIn wsX3_over wsX3_darker := goodIn_r _ [8] (by decide +kernel) (by decide +kernel)
set_option maxRecDepth 20000 in
theorem gX3_over_X3_darker : GoodIn wsX3_over (va_wsS RX3 58 yX3_darker wsX3_darker) := goodIn_app (goodIn_of _ (by decide +kernel)) ggX3_over_X3_darker
theorem dX3_over_0 : decode cX3_over 0 = .ok (.aload_n 0, 1) := by decide +kernel
theorem dX3_over_1 : decode cX3_over 1 = .ok (.iconst 0, 1) := by decide +kernel
theorem dX3_over_2 : decode cX3_over 2 = .ok (.putfield 33, 3) := by decide +kernel
theorem dX3_over_5 : decode cX3_over 5 = .ok (.iload_n 1, 1) := by decide +kernel
theorem dX3_over_6 : decode cX3_over 6 = .ok (.invokestatic 92, 3) := by decide +kernel
theorem dX3_over_9 : decode cX3_over 9 = .ok (.ifCond .eq 18, 3) := by decide +kernel
theorem dX3_over_12 : decode cX3_over 12 = .ok (.iload_n 2, 1) := by decide +kernel
theorem dX3_over_13 : decode cX3_over 13 = .ok (.invokestatic 92, 3) := by decide +kernel
theorem dX3_over_16 : decode cX3_over 16 = .ok (.ifCond .eq 11, 3) := by decide +kernel
theorem dX3_over_19 : decode cX3_over 19 = .ok (.iload_n 1, 1) := by decide +kernel
theorem dX3_over_20 : decode cX3_over 20 = .ok (.iload_n 2, 1) := by decide +kernel
theorem dX3_over_21 : decode cX3_over 21 = .ok (.invokestatic 58, 3) := by decide +kernel
theorem dX3_over_24 : decode cX3_over 24 = .ok (.goto 4, 3) := by decide +kernel
theorem dX3_over_27 : decode cX3_over 27 = .ok (.iconst (-1), 1) := by decide +kernel
theorem dX3_over_28 : decode cX3_over 28 = .ok (.ireturn, 1) := by decide +kernel
set_option maxRecDepth 20000 in
theorem ggX3_translate_X3_isSign : GoodIn wsX3_translate wsX3_isSign := goodIn_r _ [6] (by decide +kernel) (by decide +kernel)
set_option maxRecDepth 20000 in
theorem gX3_translate_X3_isSign : GoodIn wsX3_translate (va_wsS RX3 92 yX3_isSign wsX3_isSign) := goodIn_app (goodIn_of _ (by decide +kernel)) ggX3_translate_X3_isSign
theorem dX3_translate_0 : decode cX3_translate 0 = .ok (.aload_n 0, 1) := by decide +kernel
theorem dX3_translate_1 : decode cX3_translate 1 = .ok (.iconst 0, 1) := by decide +kernel
theorem dX3_translate_2 : decode cX3_translate 2 = .ok (.putfield 33, 3) := by decide +kernel
theorem dX3_translate_5 : decode cX3_translate 5 = .ok (.iload_n 1, 1) := by decide +kernel
theorem dX3_translate_6 : decode cX3_translate 6 = .ok (.invokestatic 92, 3) := by decide +kernel
theorem dX3_translate_9 : decode cX3_translate 9 = .ok (.ifCond .eq 10, 3) := by decide +kernel
theorem dX3_translate_12 : decode cX3_translate 12 = .ok (.iload_n 2, 1) := by decide +kernel
theorem dX3_translate_13 : decode cX3_translate 13 = .ok (.invokestatic 92, 3) := by decide +kernel
theorem dX3_translate_16 : decode cX3_translate 16 = .ok (.ifCond .ne 5, 3) := by decide +kernel
theorem dX3_translate_19 : decode cX3_translate 19 = .ok (.iconst (-1), 1) := by decide +kernel
theorem dX3_translate_20 : decode cX3_translate 20 = .ok (.ireturn, 1) := by decide +kernel
theorem dX3_translate_21 : decode cX3_translate 21 = .ok (.aload_n 0, 1) := by decide +kernel
theorem dX3_translate_22 : decode cX3_translate 22 = .ok (.getfield 17, 3) := by decide +kernel
theorem dX3_translate_25 : decode cX3_translate 25 = .ok (.iload_n 1, 1) := by decide +kernel
theorem dX3_translate_26 : decode cX3_translate 26 = .ok (.iaload, 1) := by decide +kernel
theorem dX3_translate_27 : decode cX3_translate 27 = .ok (.istore_n 3, 1) := by decide +kernel
theorem dX3_translate_28 : decode cX3_translate 28 = .ok (.aload_n 0, 1) := by decide +kernel
theorem dX3_translate_29 : decode cX3_translate 29 = .ok (.getfield 17, 3) := by decide +kernel
theorem dX3_translate_32 : decode cX3_translate 32 = .ok (.iload_n 1, 1) := by decide +kernel
theorem dX3_translate_33 : decode cX3_translate 33 = .ok (.iload_n 2, 1) := by decide +kernel
theorem dX3_translate_34 : decode cX3_translate 34 = .ok (.iastore, 1) := by decide +kernel
theorem dX3_translate_35 : decode cX3_translate 35 = .ok (.iload_n 3, 1) := by decide +kernel
theorem dX3_translate_36 : decode cX3_translate 36 = .ok (.ireturn, 1) := by decide +kernel
set_option maxRecDepth 20000 in
theorem ggX3_copies_X3_pass : GoodIn wsX3_copies wsX3_pass := goodIn_r _ [8, 9, 10, 11, 12, 13, 14, 15, 16, 17, 18, 19, 20, 21, 22, 23, 24, 25, 26] (by decide +kernel) (by decide +kernel)
set_option maxRecDepth 20000 in
theorem gX3_copies_X3_pass : GoodIn wsX3_copies (wsV RX3 89 RX3 yX3_pass wsX3_pass) := goodIn_app (goodIn_of _ (by decide +kernel)) ggX3_copies_X3_pass
theorem dX3_copies_0 : decode cX3_copies 0 = .ok (.aload_n 0, 1) := by decide +kernel
theorem dX3_copies_1 : decode cX3_copies 1 = .ok (.iconst 0, 1) := by decide +kernel
theorem dX3_copies_2 : decode cX3_copies 2 = .ok (.putfield 33, 3) := by decide +kernel
theorem dX3_copies_5 : decode cX3_copies 5 = .ok (.iload_n 1, 1) := by decide +kernel
theorem dX3_copies_6 : decode cX3_copies 6 = .ok (.iconst 1, 1) := by decide +kernel
theorem dX3_copies_7 : decode cX3_copies 7 = .ok (.if_icmp .lt 26, 3) := by decide +kernel
theorem dX3_copies_10 : decode cX3_copies 10 = .ok (.iload_n 1, 1) := by decide +kernel
theorem dX3_copies_11 : decode cX3_copies 11 = .ok (.bipush 9, 2) := by decide +kernel
theorem dX3_copies_13 : decode cX3_copies 13 = .ok (.if_icmp .gt 20, 3) := by decide +kernel
theorem dX3_copies_16 : decode cX3_copies 16 = .ok (.iload_n 2, 1) := by decide +kernel
theorem dX3_copies_17 : decode cX3_copies 17 = .ok (.ifCond .lt 16, 3) := by decide +kernel
theorem dX3_copies_20 : decode cX3_copies 20 = .ok (.iload_n 2, 1) := by decide +kernel
theorem dX3_copies_21 : decode cX3_copies 21 = .ok (.iload_n 3, 1) := by decide +kernel
theorem dX3_copies_22 : decode cX3_copies 22 = .ok (.if_icmp .gt 11, 3) := by decide +kernel
theorem dX3_copies_25 : decode cX3_copies 25 = .ok (.iload_n 3, 1) := by decide +kernel
theorem dX3_copies_26 : decode cX3_copies 26 = .ok (.aload_n 0, 1) := by decide +kernel
theorem dX3_copies_27 : decode cX3_copies 27 = .ok (.getfield 39, 3) := by decide +kernel
theorem dX3_copies_30 : decode cX3_copies 30 = .ok (.if_icmp .lt 6, 3) := by decide +kernel
theorem dX3_copies_33 : decode cX3_copies 33 = .ok (.bipush (-2), 2) := by decide +kernel
theorem dX3_copies_35 : decode cX3_copies 35 = .ok (.ireturn, 1) := by decide +kernel
theorem dX3_copies_36 : decode cX3_copies 36 = .ok (.iload_n 3, 1) := by decide +kernel
theorem dX3_copies_37 : decode cX3_copies 37 = .ok (.iload_n 2, 1) := by decide +kernel
theorem dX3_copies_38 : decode cX3_copies 38 = .ok (.isub, 1) := by decide +kernel
theorem dX3_copies_39 : decode cX3_copies 39 = .ok (.iconst 1, 1) := by decide +kernel
theorem dX3_copies_40 : decode cX3_copies 40 = .ok (.iadd, 1) := by decide +kernel
theorem dX3_copies_41 : decode cX3_copies 41 = .ok (.istore 4, 2) := by decide +kernel
theorem dX3_copies_43 : decode cX3_copies 43 = .ok (.aload_n 0, 1) := by decide +kernel
theorem dX3_copies_44 : decode cX3_copies 44 = .ok (.getfield 39, 3) := by decide +kernel
theorem dX3_copies_47 : decode cX3_copies 47 = .ok (.iload_n 1, 1) := by decide +kernel
theorem dX3_copies_48 : decode cX3_copies 48 = .ok (.iload 4, 2) := by decide +kernel
theorem dX3_copies_50 : decode cX3_copies 50 = .ok (.imul, 1) := by decide +kernel
theorem dX3_copies_51 : decode cX3_copies 51 = .ok (.iadd, 1) := by decide +kernel
theorem dX3_copies_52 : decode cX3_copies 52 = .ok (.bipush 40, 2) := by decide +kernel
theorem dX3_copies_54 : decode cX3_copies 54 = .ok (.if_icmp .le 6, 3) := by decide +kernel
theorem dX3_copies_57 : decode cX3_copies 57 = .ok (.bipush (-6), 2) := by decide +kernel
theorem dX3_copies_59 : decode cX3_copies 59 = .ok (.ireturn, 1) := by decide +kernel
theorem dX3_copies_60 : decode cX3_copies 60 = .ok (.iconst 0, 1) := by decide +kernel
theorem dX3_copies_61 : decode cX3_copies 61 = .ok (.istore 5, 2) := by decide +kernel
theorem dX3_copies_63 : decode cX3_copies 63 = .ok (.iload 5, 2) := by decide +kernel
theorem dX3_copies_65 : decode cX3_copies 65 = .ok (.iload_n 1, 1) := by decide +kernel
theorem dX3_copies_66 : decode cX3_copies 66 = .ok (.iload 4, 2) := by decide +kernel
theorem dX3_copies_68 : decode cX3_copies 68 = .ok (.imul, 1) := by decide +kernel
theorem dX3_copies_69 : decode cX3_copies 69 = .ok (.sipush 8712, 3) := by decide +kernel
theorem dX3_copies_72 : decode cX3_copies 72 = .ok (.imul, 1) := by decide +kernel
theorem dX3_copies_73 : decode cX3_copies 73 = .ok (.if_icmp .ge 45, 3) := by decide +kernel
theorem dX3_copies_76 : decode cX3_copies 76 = .ok (.aload_n 0, 1) := by decide +kernel
theorem dX3_copies_77 : decode cX3_copies 77 = .ok (.getfield 8, 3) := by decide +kernel
theorem dX3_copies_80 : decode cX3_copies 80 = .ok (.sipush 8712, 3) := by decide +kernel
theorem dX3_copies_83 : decode cX3_copies 83 = .ok (.aload_n 0, 1) := by decide +kernel
theorem dX3_copies_84 : decode cX3_copies 84 = .ok (.getfield 39, 3) := by decide +kernel
theorem dX3_copies_87 : decode cX3_copies 87 = .ok (.imul, 1) := by decide +kernel
theorem dX3_copies_88 : decode cX3_copies 88 = .ok (.iload 5, 2) := by decide +kernel
theorem dX3_copies_90 : decode cX3_copies 90 = .ok (.iadd, 1) := by decide +kernel
theorem dX3_copies_91 : decode cX3_copies 91 = .ok (.aload_n 0, 1) := by decide +kernel
theorem dX3_copies_92 : decode cX3_copies 92 = .ok (.getfield 8, 3) := by decide +kernel
theorem dX3_copies_95 : decode cX3_copies 95 = .ok (.sipush 8712, 3) := by decide +kernel
theorem dX3_copies_98 : decode cX3_copies 98 = .ok (.iload_n 2, 1) := by decide +kernel
theorem dX3_copies_99 : decode cX3_copies 99 = .ok (.imul, 1) := by decide +kernel
theorem dX3_copies_100 : decode cX3_copies 100 = .ok (.iload 5, 2) := by decide +kernel
theorem dX3_copies_102 : decode cX3_copies 102 = .ok (.iload 4, 2) := by decide +kernel
theorem dX3_copies_104 : decode cX3_copies 104 = .ok (.sipush 8712, 3) := by decide +kernel
theorem dX3_copies_107 : decode cX3_copies 107 = .ok (.imul, 1) := by decide +kernel
theorem dX3_copies_108 : decode cX3_copies 108 = .ok (.irem, 1) := by decide +kernel
theorem dX3_copies_109 : decode cX3_copies 109 = .ok (.iadd, 1) := by decide +kernel
theorem dX3_copies_110 : decode cX3_copies 110 = .ok (.iaload, 1) := by decide +kernel
theorem dX3_copies_111 : decode cX3_copies 111 = .ok (.iastore, 1) := by decide +kernel
theorem dX3_copies_112 : decode cX3_copies 112 = .ok (.iinc 5 1, 3) := by decide +kernel
theorem dX3_copies_115 : decode cX3_copies 115 = .ok (.goto (-52), 3) := by decide +kernel
theorem dX3_copies_118 : decode cX3_copies 118 = .ok (.aload_n 0, 1) := by decide +kernel
theorem dX3_copies_119 : decode cX3_copies 119 = .ok (.dup, 1) := by decide +kernel
theorem dX3_copies_120 : decode cX3_copies 120 = .ok (.getfield 39, 3) := by decide +kernel
theorem dX3_copies_123 : decode cX3_copies 123 = .ok (.iload_n 1, 1) := by decide +kernel
theorem dX3_copies_124 : decode cX3_copies 124 = .ok (.iload 4, 2) := by decide +kernel
theorem dX3_copies_126 : decode cX3_copies 126 = .ok (.imul, 1) := by decide +kernel
theorem dX3_copies_127 : decode cX3_copies 127 = .ok (.iadd, 1) := by decide +kernel
theorem dX3_copies_128 : decode cX3_copies 128 = .ok (.putfield 39, 3) := by decide +kernel
theorem dX3_copies_131 : decode cX3_copies 131 = .ok (.aload_n 0, 1) := by decide +kernel
theorem dX3_copies_132 : decode cX3_copies 132 = .ok (.invokevirtual 89, 3) := by decide +kernel
theorem dX3_copies_135 : decode cX3_copies 135 = .ok (.aload_n 0, 1) := by decide +kernel
theorem dX3_copies_136 : decode cX3_copies 136 = .ok (.getfield 39, 3) := by decide +kernel
theorem dX3_copies_139 : decode cX3_copies 139 = .ok (.ireturn, 1) := by decide +kernel
set_option maxRecDepth 20000 in
theorem ggX3_back_X3_pass : GoodIn wsX3_back wsX3_pass := goodIn_r _ [7, 8, 9, 10, 11, 12, 13, 14, 15, 16, 17, 18, 19, 20, 21, 22, 23, 24, 25] (by decide +kernel) (by decide +kernel)
set_option maxRecDepth 20000 in
theorem gX3_back_X3_pass : GoodIn wsX3_back (wsV RX3 89 RX3 yX3_pass wsX3_pass) := goodIn_app (goodIn_of _ (by decide +kernel)) ggX3_back_X3_pass
theorem dX3_back_0 : decode cX3_back 0 = .ok (.aload_n 0, 1) := by decide +kernel
theorem dX3_back_1 : decode cX3_back 1 = .ok (.iconst 0, 1) := by decide +kernel
theorem dX3_back_2 : decode cX3_back 2 = .ok (.putfield 33, 3) := by decide +kernel
theorem dX3_back_5 : decode cX3_back 5 = .ok (.iload_n 1, 1) := by decide +kernel
theorem dX3_back_6 : decode cX3_back 6 = .ok (.ifCond .lt 11, 3) := by decide +kernel
theorem dX3_back_9 : decode cX3_back 9 = .ok (.iload_n 1, 1) := by decide +kernel
theorem dX3_back_10 : decode cX3_back 10 = .ok (.aload_n 0, 1) := by decide +kernel
theorem dX3_back_11 : decode cX3_back 11 = .ok (.getfield 39, 3) := by decide +kernel
theorem dX3_back_14 : decode cX3_back 14 = .ok (.if_icmp .le 6, 3) := by decide +kernel
theorem dX3_back_17 : decode cX3_back 17 = .ok (.bipush (-2), 2) := by decide +kernel
theorem dX3_back_19 : decode cX3_back 19 = .ok (.ireturn, 1) := by decide +kernel
theorem dX3_back_20 : decode cX3_back 20 = .ok (.aload_n 0, 1) := by decide +kernel
theorem dX3_back_21 : decode cX3_back 21 = .ok (.dup, 1) := by decide +kernel
theorem dX3_back_22 : decode cX3_back 22 = .ok (.getfield 39, 3) := by decide +kernel
theorem dX3_back_25 : decode cX3_back 25 = .ok (.iload_n 1, 1) := by decide +kernel
theorem dX3_back_26 : decode cX3_back 26 = .ok (.isub, 1) := by decide +kernel
theorem dX3_back_27 : decode cX3_back 27 = .ok (.putfield 39, 3) := by decide +kernel
theorem dX3_back_30 : decode cX3_back 30 = .ok (.aload_n 0, 1) := by decide +kernel
theorem dX3_back_31 : decode cX3_back 31 = .ok (.invokevirtual 89, 3) := by decide +kernel
theorem dX3_back_34 : decode cX3_back 34 = .ok (.aload_n 0, 1) := by decide +kernel
theorem dX3_back_35 : decode cX3_back 35 = .ok (.getfield 39, 3) := by decide +kernel
theorem dX3_back_38 : decode cX3_back 38 = .ok (.ireturn, 1) := by decide +kernel
set_option maxRecDepth 20000 in
theorem ggX3_forms_X3_pass : GoodIn wsX3_forms wsX3_pass := goodIn_r _ [8, 9, 10, 11, 12, 13, 14, 15, 16, 17, 18, 19, 20, 21, 22, 23, 24, 25, 26] (by decide +kernel) (by decide +kernel)
set_option maxRecDepth 20000 in
theorem gX3_forms_X3_pass : GoodIn wsX3_forms (wsV RX3 89 RX3 yX3_pass wsX3_pass) := goodIn_app (goodIn_of _ (by decide +kernel)) ggX3_forms_X3_pass
theorem dX3_forms_0 : decode cX3_forms 0 = .ok (.aload_n 0, 1) := by decide +kernel
theorem dX3_forms_1 : decode cX3_forms 1 = .ok (.iconst 0, 1) := by decide +kernel
theorem dX3_forms_2 : decode cX3_forms 2 = .ok (.putfield 33, 3) := by decide +kernel
theorem dX3_forms_5 : decode cX3_forms 5 = .ok (.iload_n 1, 1) := by decide +kernel
theorem dX3_forms_6 : decode cX3_forms 6 = .ok (.ifCond .ge 6, 3) := by decide +kernel
theorem dX3_forms_9 : decode cX3_forms 9 = .ok (.bipush (-2), 2) := by decide +kernel
theorem dX3_forms_11 : decode cX3_forms 11 = .ok (.ireturn, 1) := by decide +kernel
theorem dX3_forms_12 : decode cX3_forms 12 = .ok (.iload_n 1, 1) := by decide +kernel
theorem dX3_forms_13 : decode cX3_forms 13 = .ok (.aload_n 0, 1) := by decide +kernel
theorem dX3_forms_14 : decode cX3_forms 14 = .ok (.getfield 96, 3) := by decide +kernel
theorem dX3_forms_17 : decode cX3_forms 17 = .ok (.if_icmp .ne 5, 3) := by decide +kernel
theorem dX3_forms_20 : decode cX3_forms 20 = .ok (.iconst 1, 1) := by decide +kernel
theorem dX3_forms_21 : decode cX3_forms 21 = .ok (.ireturn, 1) := by decide +kernel
theorem dX3_forms_22 : decode cX3_forms 22 = .ok (.aload_n 0, 1) := by decide +kernel
theorem dX3_forms_23 : decode cX3_forms 23 = .ok (.iload_n 1, 1) := by decide +kernel
theorem dX3_forms_24 : decode cX3_forms 24 = .ok (.putfield 96, 3) := by decide +kernel
theorem dX3_forms_27 : decode cX3_forms 27 = .ok (.aload_n 0, 1) := by decide +kernel
theorem dX3_forms_28 : decode cX3_forms 28 = .ok (.getfield 23, 3) := by decide +kernel
theorem dX3_forms_31 : decode cX3_forms 31 = .ok (.bipush 6, 2) := by decide +kernel
theorem dX3_forms_33 : decode cX3_forms 33 = .ok (.dup2, 1) := by decide +kernel
theorem dX3_forms_34 : decode cX3_forms 34 = .ok (.iaload, 1) := by decide +kernel
theorem dX3_forms_35 : decode cX3_forms 35 = .ok (.iconst 1, 1) := by decide +kernel
theorem dX3_forms_36 : decode cX3_forms 36 = .ok (.iadd, 1) := by decide +kernel
theorem dX3_forms_37 : decode cX3_forms 37 = .ok (.iastore, 1) := by decide +kernel
theorem dX3_forms_38 : decode cX3_forms 38 = .ok (.aload_n 0, 1) := by decide +kernel
theorem dX3_forms_39 : decode cX3_forms 39 = .ok (.invokevirtual 89, 3) := by decide +kernel
theorem dX3_forms_42 : decode cX3_forms 42 = .ok (.iconst 2, 1) := by decide +kernel
theorem dX3_forms_43 : decode cX3_forms 43 = .ok (.ireturn, 1) := by decide +kernel
theorem dX3_tally_0 : decode cX3_tally 0 = .ok (.aload_n 0, 1) := by decide +kernel
theorem dX3_tally_1 : decode cX3_tally 1 = .ok (.iconst 0, 1) := by decide +kernel
theorem dX3_tally_2 : decode cX3_tally 2 = .ok (.putfield 33, 3) := by decide +kernel
theorem dX3_tally_5 : decode cX3_tally 5 = .ok (.iload_n 1, 1) := by decide +kernel
theorem dX3_tally_6 : decode cX3_tally 6 = .ok (.tableswitch 68 0 7 #[46, 51, 56, 56, 56, 56, 56, 63], 46) := by decide +kernel
theorem dX3_tally_52 : decode cX3_tally 52 = .ok (.aload_n 0, 1) := by decide +kernel
theorem dX3_tally_53 : decode cX3_tally 53 = .ok (.getfield 39, 3) := by decide +kernel
theorem dX3_tally_56 : decode cX3_tally 56 = .ok (.ireturn, 1) := by decide +kernel
theorem dX3_tally_57 : decode cX3_tally 57 = .ok (.aload_n 0, 1) := by decide +kernel
theorem dX3_tally_58 : decode cX3_tally 58 = .ok (.getfield 45, 3) := by decide +kernel
theorem dX3_tally_61 : decode cX3_tally 61 = .ok (.ireturn, 1) := by decide +kernel
theorem dX3_tally_62 : decode cX3_tally 62 = .ok (.aload_n 0, 1) := by decide +kernel
theorem dX3_tally_63 : decode cX3_tally 63 = .ok (.getfield 23, 3) := by decide +kernel
theorem dX3_tally_66 : decode cX3_tally 66 = .ok (.iload_n 1, 1) := by decide +kernel
theorem dX3_tally_67 : decode cX3_tally 67 = .ok (.iaload, 1) := by decide +kernel
theorem dX3_tally_68 : decode cX3_tally 68 = .ok (.ireturn, 1) := by decide +kernel
theorem dX3_tally_69 : decode cX3_tally 69 = .ok (.aload_n 0, 1) := by decide +kernel
theorem dX3_tally_70 : decode cX3_tally 70 = .ok (.getfield 36, 3) := by decide +kernel
theorem dX3_tally_73 : decode cX3_tally 73 = .ok (.ireturn, 1) := by decide +kernel
theorem dX3_tally_74 : decode cX3_tally 74 = .ok (.iconst (-1), 1) := by decide +kernel
theorem dX3_tally_75 : decode cX3_tally 75 = .ok (.ireturn, 1) := by decide +kernel
theorem dJx00060_init_a7421_0 : decode cJx00060_init_a7421 0 = .ok (.aload_n 0, 1) := by decide +kernel
theorem dJx00060_init_a7421_1 : decode cJx00060_init_a7421 1 = .ok (.aload_n 1, 1) := by decide +kernel
theorem dJx00060_init_a7421_2 : decode cJx00060_init_a7421 2 = .ok (.invokespecial 7, 3) := by decide +kernel
theorem dJx00060_init_a7421_5 : decode cJx00060_init_a7421 5 = .ok (.return_, 1) := by decide +kernel
theorem dJ9_floorMod_7cf53_0 : decode cJ9_floorMod_7cf53 0 = .ok (.iload_n 0, 1) := by decide +kernel
theorem dJ9_floorMod_7cf53_1 : decode cJ9_floorMod_7cf53 1 = .ok (.iload_n 1, 1) := by decide +kernel
theorem dJ9_floorMod_7cf53_2 : decode cJ9_floorMod_7cf53 2 = .ok (.irem, 1) := by decide +kernel
theorem dJ9_floorMod_7cf53_3 : decode cJ9_floorMod_7cf53 3 = .ok (.istore_n 2, 1) := by decide +kernel
theorem dJ9_floorMod_7cf53_4 : decode cJ9_floorMod_7cf53 4 = .ok (.iload_n 0, 1) := by decide +kernel
theorem dJ9_floorMod_7cf53_5 : decode cJ9_floorMod_7cf53 5 = .ok (.iload_n 1, 1) := by decide +kernel
theorem dJ9_floorMod_7cf53_6 : decode cJ9_floorMod_7cf53 6 = .ok (.ixor, 1) := by decide +kernel
theorem dJ9_floorMod_7cf53_7 : decode cJ9_floorMod_7cf53 7 = .ok (.ifCond .ge 11, 3) := by decide +kernel
theorem dJ9_floorMod_7cf53_10 : decode cJ9_floorMod_7cf53 10 = .ok (.iload_n 2, 1) := by decide +kernel
theorem dJ9_floorMod_7cf53_11 : decode cJ9_floorMod_7cf53 11 = .ok (.ifCond .eq 7, 3) := by decide +kernel
theorem dJ9_floorMod_7cf53_14 : decode cJ9_floorMod_7cf53 14 = .ok (.iload_n 2, 1) := by decide +kernel
theorem dJ9_floorMod_7cf53_15 : decode cJ9_floorMod_7cf53 15 = .ok (.iload_n 1, 1) := by decide +kernel
theorem dJ9_floorMod_7cf53_16 : decode cJ9_floorMod_7cf53 16 = .ok (.iadd, 1) := by decide +kernel
theorem dJ9_floorMod_7cf53_17 : decode cJ9_floorMod_7cf53 17 = .ok (.ireturn, 1) := by decide +kernel
theorem dJ9_floorMod_7cf53_18 : decode cJ9_floorMod_7cf53 18 = .ok (.iload_n 2, 1) := by decide +kernel
theorem dJ9_floorMod_7cf53_19 : decode cJ9_floorMod_7cf53 19 = .ok (.ireturn, 1) := by decide +kernel
theorem dJ9_max_7cf53_0 : decode cJ9_max_7cf53 0 = .ok (.iload_n 0, 1) := by decide +kernel
theorem dJ9_max_7cf53_1 : decode cJ9_max_7cf53 1 = .ok (.iload_n 1, 1) := by decide +kernel
theorem dJ9_max_7cf53_2 : decode cJ9_max_7cf53 2 = .ok (.if_icmp .lt 7, 3) := by decide +kernel
theorem dJ9_max_7cf53_5 : decode cJ9_max_7cf53 5 = .ok (.iload_n 0, 1) := by decide +kernel
theorem dJ9_max_7cf53_6 : decode cJ9_max_7cf53 6 = .ok (.goto 4, 3) := by decide +kernel
theorem dJ9_max_7cf53_9 : decode cJ9_max_7cf53 9 = .ok (.iload_n 1, 1) := by decide +kernel
theorem dJ9_max_7cf53_10 : decode cJ9_max_7cf53 10 = .ok (.ireturn, 1) := by decide +kernel
theorem dJ9_min_7cf53_0 : decode cJ9_min_7cf53 0 = .ok (.iload_n 0, 1) := by decide +kernel
theorem dJ9_min_7cf53_1 : decode cJ9_min_7cf53 1 = .ok (.iload_n 1, 1) := by decide +kernel
theorem dJ9_min_7cf53_2 : decode cJ9_min_7cf53 2 = .ok (.if_icmp .gt 7, 3) := by decide +kernel
theorem dJ9_min_7cf53_5 : decode cJ9_min_7cf53 5 = .ok (.iload_n 0, 1) := by decide +kernel
theorem dJ9_min_7cf53_6 : decode cJ9_min_7cf53 6 = .ok (.goto 4, 3) := by decide +kernel
theorem dJ9_min_7cf53_9 : decode cJ9_min_7cf53 9 = .ok (.iload_n 1, 1) := by decide +kernel
theorem dJ9_min_7cf53_10 : decode cJ9_min_7cf53 10 = .ok (.ireturn, 1) := by decide +kernel
theorem dJ7_fill_53178_0 : decode cJ7_fill_53178 0 = .ok (.iconst 0, 1) := by decide +kernel
theorem dJ7_fill_53178_1 : decode cJ7_fill_53178 1 = .ok (.istore_n 2, 1) := by decide +kernel
theorem dJ7_fill_53178_2 : decode cJ7_fill_53178 2 = .ok (.aload_n 0, 1) := by decide +kernel
theorem dJ7_fill_53178_3 : decode cJ7_fill_53178 3 = .ok (.arraylength, 1) := by decide +kernel
theorem dJ7_fill_53178_4 : decode cJ7_fill_53178 4 = .ok (.istore_n 3, 1) := by decide +kernel
theorem dJ7_fill_53178_5 : decode cJ7_fill_53178 5 = .ok (.iload_n 2, 1) := by decide +kernel
theorem dJ7_fill_53178_6 : decode cJ7_fill_53178 6 = .ok (.iload_n 3, 1) := by decide +kernel
theorem dJ7_fill_53178_7 : decode cJ7_fill_53178 7 = .ok (.if_icmp .ge 13, 3) := by decide +kernel
theorem dJ7_fill_53178_10 : decode cJ7_fill_53178 10 = .ok (.aload_n 0, 1) := by decide +kernel
theorem dJ7_fill_53178_11 : decode cJ7_fill_53178 11 = .ok (.iload_n 2, 1) := by decide +kernel
theorem dJ7_fill_53178_12 : decode cJ7_fill_53178 12 = .ok (.iload_n 1, 1) := by decide +kernel
theorem dJ7_fill_53178_13 : decode cJ7_fill_53178 13 = .ok (.iastore, 1) := by decide +kernel
theorem dJ7_fill_53178_14 : decode cJ7_fill_53178 14 = .ok (.iinc 2 1, 3) := by decide +kernel
theorem dJ7_fill_53178_17 : decode cJ7_fill_53178 17 = .ok (.goto (-12), 3) := by decide +kernel
theorem dJ7_fill_53178_20 : decode cJ7_fill_53178 20 = .ok (.return_, 1) := by decide +kernel
theorem dL_cell_0 : decode cL_cell 0 = .ok (.iload_n 1, 1) := by decide +kernel
theorem dL_cell_1 : decode cL_cell 1 = .ok (.aload_n 0, 1) := by decide +kernel
theorem dL_cell_2 : decode cL_cell 2 = .ok (.arraylength, 1) := by decide +kernel
theorem dL_cell_3 : decode cL_cell 3 = .ok (.if_icmp .ge 9, 3) := by decide +kernel
theorem dL_cell_6 : decode cL_cell 6 = .ok (.aload_n 0, 1) := by decide +kernel
theorem dL_cell_7 : decode cL_cell 7 = .ok (.iload_n 1, 1) := by decide +kernel
theorem dL_cell_8 : decode cL_cell 8 = .ok (.iaload, 1) := by decide +kernel
theorem dL_cell_9 : decode cL_cell 9 = .ok (.goto 4, 3) := by decide +kernel
theorem dL_cell_12 : decode cL_cell 12 = .ok (.iconst 0, 1) := by decide +kernel
theorem dL_cell_13 : decode cL_cell 13 = .ok (.ireturn, 1) := by decide +kernel
set_option maxRecDepth 20000 in
theorem ggL_at_X2_at : GoodIn wsL_at wsX2_at := goodIn_r _ [5, 6, 7, 8, 9, 10, 11, 12, 13, 4, 14, 15, 16, 17, 18, 19, 20, 21, 22, 23, 24, 25, 26, 27, 28, 29, 30, 31, 32, 33, 34, 35, 36, 37, 38, 39, 40, 41, 42, 43, 44, 45, 46, 47, 48, 49, 50, 51, 52, 53] (by decide +kernel) (by decide +kernel)
set_option maxRecDepth 20000 in
theorem gL_at_X2_at : GoodIn wsL_at (wsV RL 7 RX2 yX2_at wsX2_at) := goodIn_app (goodIn_of _ (by decide +kernel)) ggL_at_X2_at
theorem dL_at_0 : decode cL_at 0 = .ok (.aload 4, 2) := by decide +kernel
theorem dL_at_2 : decode cL_at 2 = .ok (.iconst 0, 1) := by decide +kernel
theorem dL_at_3 : decode cL_at 3 = .ok (.aload_n 0, 1) := by decide +kernel
theorem dL_at_4 : decode cL_at 4 = .ok (.iload_n 1, 1) := by decide +kernel
theorem dL_at_5 : decode cL_at 5 = .ok (.iload_n 2, 1) := by decide +kernel
theorem dL_at_6 : decode cL_at 6 = .ok (.iload_n 3, 1) := by decide +kernel
theorem dL_at_7 : decode cL_at 7 = .ok (.invokevirtual 7, 3) := by decide +kernel
theorem dL_at_10 : decode cL_at 10 = .ok (.i2l, 1) := by decide +kernel
theorem dL_at_11 : decode cL_at 11 = .ok (.lastore, 1) := by decide +kernel
theorem dL_at_12 : decode cL_at 12 = .ok (.goto 7, 3) := by decide +kernel
theorem dL_at_15 : decode cL_at 15 = .ok (.astore 5, 2) := by decide +kernel
theorem dL_at_17 : decode cL_at 17 = .ok (.iconst 1, 1) := by decide +kernel
theorem dL_at_18 : decode cL_at 18 = .ok (.ireturn, 1) := by decide +kernel
theorem dL_at_19 : decode cL_at 19 = .ok (.iconst 0, 1) := by decide +kernel
theorem dL_at_20 : decode cL_at 20 = .ok (.ireturn, 1) := by decide +kernel
set_option maxRecDepth 20000 in
theorem ggL_law_L_cell : GoodIn wsL_law wsL_cell := goodIn_r _ [10] (by decide +kernel) (by decide +kernel)
set_option maxRecDepth 20000 in
theorem gL_law_L_cell : GoodIn wsL_law (va_wsS RL 15 yL_cell wsL_cell) := goodIn_app (goodIn_of _ (by decide +kernel)) ggL_law_L_cell
set_option maxRecDepth 20000 in
theorem ggL_law_X2_init : GoodIn wsL_law wsX2_init := goodIn_r _ [13, 14, 15, 16, 17, 18, 19, 20, 21, 22, 23, 24, 25, 26, 2, 27, 28, 29, 30, 31, 32, 33, 34, 35, 36, 37, 38, 337, 338, 339, 340, 341, 342, 343, 344, 345, 346, 347, 348, 349, 350, 351, 352] (by decide +kernel) (by decide +kernel)
set_option maxRecDepth 20000 in
theorem gL_law_X2_init : GoodIn wsL_law (wsX2_init) := ggL_law_X2_init
set_option maxRecDepth 20000 in
theorem ggL_law_X3_init : GoodIn wsL_law wsX3_init := goodIn_r _ [41, 42, 15, 16, 43, 19, 44, 45, 46, 47, 48, 49, 50, 353, 354, 355, 356, 357, 358, 359, 360, 361, 362, 363, 364, 365, 366, 367, 368] (by decide +kernel) (by decide +kernel)
set_option maxRecDepth 20000 in
theorem gL_law_X3_init : GoodIn wsL_law (wsX3_init) := ggL_law_X3_init
set_option maxRecDepth 20000 in
theorem ggL_law_X2_channel : GoodIn wsL_law wsX2_channel := goodIn_r _ [54, 17, 20, 55, 56, 2, 57, 337, 338, 339, 340, 341, 342, 343, 344, 345, 346, 347, 348, 349, 350, 351, 352] (by decide +kernel) (by decide +kernel)
set_option maxRecDepth 20000 in
theorem gL_law_X2_channel : GoodIn wsL_law (wsV RL 27 RX2 yX2_channel wsX2_channel) := goodIn_app (goodIn_of _ (by decide +kernel)) ggL_law_X2_channel
set_option maxRecDepth 20000 in
theorem ggL_law_X3_channel : GoodIn wsL_law wsX3_channel := goodIn_r _ [61, 62, 49, 45, 353, 354, 355, 356, 357, 358, 359, 360, 361, 362, 363, 364, 365, 366, 367, 368] (by decide +kernel) (by decide +kernel)
set_option maxRecDepth 20000 in
theorem gL_law_X3_channel : GoodIn wsL_law (wsV RL 31 RX3 yX3_channel wsX3_channel) := goodIn_app (goodIn_of _ (by decide +kernel)) ggL_law_X3_channel
set_option maxRecDepth 20000 in
theorem ggL_law_X2_sign : GoodIn wsL_law wsX2_sign := goodIn_r _ [66, 67, 22, 32, 33, 30, 34, 68, 69, 70, 71, 337, 338, 339, 340, 341, 342, 343, 344, 345, 346, 347, 348, 349, 350, 351, 352] (by decide +kernel) (by decide +kernel)
set_option maxRecDepth 20000 in
theorem gL_law_X2_sign : GoodIn wsL_law (wsV RL 32 RX2 yX2_sign wsX2_sign) := goodIn_app (goodIn_of _ (by decide +kernel)) ggL_law_X2_sign
set_option maxRecDepth 20000 in
theorem ggL_law_X3_sign : GoodIn wsL_law wsX3_sign := goodIn_r _ [75, 62, 76, 47, 353, 354, 355, 356, 357, 358, 359, 360, 361, 362, 363, 364, 365, 366, 367, 368] (by decide +kernel) (by decide +kernel)
set_option maxRecDepth 20000 in
theorem gL_law_X3_sign : GoodIn wsL_law (wsV RL 36 RX3 yX3_sign wsX3_sign) := goodIn_app (goodIn_of _ (by decide +kernel)) ggL_law_X3_sign
set_option maxRecDepth 20000 in
theorem ggL_law_X2_line : GoodIn wsL_law wsX2_line := goodIn_r _ [80, 81, 82, 83, 2, 84, 55, 56, 57, 85, 86, 87, 88, 20, 17, 89, 90, 91, 92, 93, 94, 95, 96, 97, 98, 99, 100, 101, 102, 103, 104, 105, 106, 107, 108, 109, 110, 111, 112, 113, 114, 115, 116, 117, 118, 119, 67, 22, 18, 120, 121, 122, 123, 124, 125, 23, 126, 127, 128, 129, 130, 131, 15, 16, 132, 33, 30, 34, 133, 134, 135, 136, 137, 138, 139, 24, 140, 141, 142, 143, 144, 145, 146, 147, 21, 148, 149, 150, 151, 152, 153, 154, 155, 156, 157, 158, 159, 160, 161, 162, 19, 163, 164, 36, 37, 38, 165, 166, 167, 168, 169, 170, 32, 171, 172, 173, 174, 175, 176, 177, 178, 179, 180, 181, 182, 183, 184, 185, 186, 187, 337, 338, 339, 340, 341, 342, 343, 344, 345, 346, 347, 348, 349, 350, 351, 352, 369, 370, 371] (by decide +kernel) (by decide +kernel)
set_option maxRecDepth 20000 in
theorem gL_law_X2_line : GoodIn wsL_law (wsV RL 37 RX2 yX2_line wsX2_line) := goodIn_app (goodIn_of _ (by decide +kernel)) ggL_law_X2_line
set_option maxRecDepth 20000 in
theorem ggL_law_X3_line : GoodIn wsL_law wsX3_line := goodIn_r _ [191, 62, 192, 193, 48, 45, 194, 195, 196, 197, 5, 198, 199, 200, 201, 202, 203, 204, 205, 206, 207, 208, 209, 49, 210, 211, 212, 213, 214, 215, 216, 217, 218, 219, 220, 221, 222, 223, 224, 44, 225, 226, 227, 228, 76, 46, 47, 50, 229, 230, 231, 353, 354, 355, 356, 357, 358, 359, 360, 361, 362, 363, 364, 365, 366, 367, 368] (by decide +kernel) (by decide +kernel)
set_option maxRecDepth 20000 in
theorem gL_law_X3_line : GoodIn wsL_law (wsV RL 41 RX3 yX3_line wsX3_line) := goodIn_app (goodIn_of _ (by decide +kernel)) ggL_law_X3_line
set_option maxRecDepth 20000 in
theorem ggL_law_X2_skip : GoodIn wsL_law wsX2_skip := goodIn_r _ [235, 20, 55, 56, 2, 57, 85, 86, 87, 88, 17, 89, 108, 109, 110, 111, 112, 113, 114, 115, 103, 104, 105, 106, 107, 81, 171, 172, 173, 174, 122, 123, 124, 125, 23, 126, 127, 18, 128, 129, 130, 131, 15, 16, 132, 33, 30, 34, 133, 134, 135, 136, 137, 138, 139, 24, 175, 176, 177, 178, 183, 184, 185, 186, 187, 337, 338, 339, 340, 341, 342, 343, 344, 345, 346, 347, 348, 349, 350, 351, 352, 369, 370] (by decide +kernel) (by decide +kernel)
set_option maxRecDepth 20000 in
theorem gL_law_X2_skip : GoodIn wsL_law (wsV RL 42 RX2 yX2_skip wsX2_skip) := goodIn_app (goodIn_of _ (by decide +kernel)) ggL_law_X2_skip
set_option maxRecDepth 20000 in
theorem ggL_law_X3_skip : GoodIn wsL_law wsX3_skip := goodIn_r _ [239, 62, 192, 45, 48, 195, 196, 197, 5, 198, 194, 199, 193, 200, 201, 206, 207, 208, 209, 49, 210, 211, 212, 213, 221, 222, 223, 224, 44, 353, 354, 355, 356, 357, 358, 359, 360, 361, 362, 363, 364, 365, 366, 367, 368] (by decide +kernel) (by decide +kernel)
set_option maxRecDepth 20000 in
theorem gL_law_X3_skip : GoodIn wsL_law (wsV RL 45 RX3 yX3_skip wsX3_skip) := goodIn_app (goodIn_of _ (by decide +kernel)) ggL_law_X3_skip
set_option maxRecDepth 20000 in
theorem ggL_law_X2_end : GoodIn wsL_law wsX2_end := goodIn_r _ [243, 81, 175, 176, 177, 2, 178, 107, 89, 337, 338, 339, 340, 341, 342, 343, 344, 345, 346, 347, 348, 349, 350, 351, 352] (by decide +kernel) (by decide +kernel)
set_option maxRecDepth 20000 in
theorem gL_law_X2_end : GoodIn wsL_law (wsV RL 46 RX2 yX2_end wsX2_end) := goodIn_app (goodIn_of _ (by decide +kernel)) ggL_law_X2_end
set_option maxRecDepth 20000 in
theorem ggL_law_X3_end : GoodIn wsL_law wsX3_end := goodIn_r _ [247, 62, 194, 248, 249, 250, 5, 251, 200, 199, 353, 354, 355, 356, 357, 358, 359, 360, 361, 362, 363, 364, 365, 366, 367, 368] (by decide +kernel) (by decide +kernel)
set_option maxRecDepth 20000 in
theorem gL_law_X3_end : GoodIn wsL_law (wsV RL 50 RX3 yX3_end wsX3_end) := goodIn_app (goodIn_of _ (by decide +kernel)) ggL_law_X3_end
set_option maxRecDepth 20000 in
theorem ggL_law_L_at : GoodIn wsL_law wsL_at := goodIn_r _ [254, 255, 256, 257, 2, 258, 17, 18, 259, 260, 261, 140, 141, 142, 143, 81, 24, 262, 263, 264, 127, 265, 134, 266, 267, 268, 157, 269, 163, 337, 338, 339, 340, 341, 342, 343, 344, 345, 346, 347, 348, 349, 350, 351, 352, 372, 373, 374, 375, 376, 377, 369, 370, 371] (by decide +kernel) (by decide +kernel)
set_option maxRecDepth 20000 in
theorem gL_law_L_at : GoodIn wsL_law (va_wsS RL 51 yL_at wsL_at) := goodIn_app (goodIn_of _ (by decide +kernel)) ggL_law_L_at
set_option maxRecDepth 20000 in
theorem ggL_law_X3_at : GoodIn wsL_law wsX3_at := goodIn_r _ [273, 194, 49, 50, 62, 44, 353, 354, 355, 356, 357, 358, 359, 360, 361, 362, 363, 364, 365, 366, 367, 368] (by decide +kernel) (by decide +kernel)
set_option maxRecDepth 20000 in
theorem gL_law_X3_at : GoodIn wsL_law (wsV RL 54 RX3 yX3_at wsX3_at) := goodIn_app (goodIn_of _ (by decide +kernel)) ggL_law_X3_at
set_option maxRecDepth 20000 in
theorem ggL_law_X3_thrown : GoodIn wsL_law wsX3_thrown := goodIn_r _ [277, 62, 353, 354, 355, 356, 357, 358, 359, 360, 361, 362, 363, 364, 365, 366, 367, 368] (by decide +kernel) (by decide +kernel)
set_option maxRecDepth 20000 in
theorem gL_law_X3_thrown : GoodIn wsL_law (wsV RL 55 RX3 yX3_thrown wsX3_thrown) := goodIn_app (goodIn_of _ (by decide +kernel)) ggL_law_X3_thrown
set_option maxRecDepth 20000 in
theorem ggL_law_X2_over : GoodIn wsL_law wsX2_over := goodIn_r _ [281, 149, 150, 2, 151, 282, 169, 170, 32, 33, 30, 34] (by decide +kernel) (by decide +kernel)
set_option maxRecDepth 20000 in
theorem gL_law_X2_over : GoodIn wsL_law (wsV RL 58 RX2 yX2_over wsX2_over) := goodIn_app (goodIn_of _ (by decide +kernel)) ggL_law_X2_over
set_option maxRecDepth 20000 in
theorem ggL_law_X3_over : GoodIn wsL_law wsX3_over := goodIn_r _ [286, 62, 287, 288, 5, 289, 229, 230, 231, 353, 354, 355, 356, 357, 358, 359, 360, 361, 362, 363, 364, 365, 366, 367, 368] (by decide +kernel) (by decide +kernel)
set_option maxRecDepth 20000 in
theorem gL_law_X3_over : GoodIn wsL_law (wsV RL 61 RX3 yX3_over wsX3_over) := goodIn_app (goodIn_of _ (by decide +kernel)) ggL_law_X3_over
set_option maxRecDepth 20000 in
theorem ggL_law_X2_translate : GoodIn wsL_law wsX2_translate := goodIn_r _ [293, 21, 149, 150, 2, 151, 337, 338, 339, 340, 341, 342, 343, 344, 345, 346, 347, 348, 349, 350, 351, 352] (by decide +kernel) (by decide +kernel)
set_option maxRecDepth 20000 in
theorem gL_law_X2_translate : GoodIn wsL_law (wsV RL 62 RX2 yX2_translate wsX2_translate) := goodIn_app (goodIn_of _ (by decide +kernel)) ggL_law_X2_translate
set_option maxRecDepth 20000 in
theorem ggL_law_X3_translate : GoodIn wsL_law wsX3_translate := goodIn_r _ [297, 62, 46, 287, 288, 5, 289, 353, 354, 355, 356, 357, 358, 359, 360, 361, 362, 363, 364, 365, 366, 367, 368] (by decide +kernel) (by decide +kernel)
set_option maxRecDepth 20000 in
theorem gL_law_X3_translate : GoodIn wsL_law (wsV RL 65 RX3 yX3_translate wsX3_translate) := goodIn_app (goodIn_of _ (by decide +kernel)) ggL_law_X3_translate
set_option maxRecDepth 20000 in
theorem ggL_law_X2_copies : GoodIn wsL_law wsX2_copies := goodIn_r _ [301, 81, 140, 141, 142, 2, 143, 24, 136, 137, 138, 139, 175, 176, 177, 178, 107, 89, 337, 338, 339, 340, 341, 342, 343, 344, 345, 346, 347, 348, 349, 350, 351, 352] (by decide +kernel) (by decide +kernel)
set_option maxRecDepth 20000 in
theorem gL_law_X2_copies : GoodIn wsL_law (wsV RL 66 RX2 yX2_copies wsX2_copies) := goodIn_app (goodIn_of _ (by decide +kernel)) ggL_law_X2_copies
set_option maxRecDepth 20000 in
theorem ggL_law_X3_copies : GoodIn wsL_law wsX3_copies := goodIn_r _ [305, 62, 194, 44, 248, 249, 250, 5, 251, 200, 199, 353, 354, 355, 356, 357, 358, 359, 360, 361, 362, 363, 364, 365, 366, 367, 368] (by decide +kernel) (by decide +kernel)
set_option maxRecDepth 20000 in
theorem gL_law_X3_copies : GoodIn wsL_law (wsV RL 69 RX3 yX3_copies wsX3_copies) := goodIn_app (goodIn_of _ (by decide +kernel)) ggL_law_X3_copies
set_option maxRecDepth 20000 in
theorem ggL_law_X2_back : GoodIn wsL_law wsX2_back := goodIn_r _ [309, 81, 310, 311, 312, 2, 313, 24, 175, 176, 177, 178, 107, 89, 337, 338, 339, 340, 341, 342, 343, 344, 345, 346, 347, 348, 349, 350, 351, 352] (by decide +kernel) (by decide +kernel)
set_option maxRecDepth 20000 in
theorem gL_law_X2_back : GoodIn wsL_law (wsV RL 70 RX2 yX2_back wsX2_back) := goodIn_app (goodIn_of _ (by decide +kernel)) ggL_law_X2_back
set_option maxRecDepth 20000 in
theorem ggL_law_X3_back : GoodIn wsL_law wsX3_back := goodIn_r _ [317, 62, 194, 248, 249, 250, 5, 251, 200, 199, 353, 354, 355, 356, 357, 358, 359, 360, 361, 362, 363, 364, 365, 366, 367, 368] (by decide +kernel) (by decide +kernel)
set_option maxRecDepth 20000 in
theorem gL_law_X3_back : GoodIn wsL_law (wsV RL 73 RX3 yX3_back wsX3_back) := goodIn_app (goodIn_of _ (by decide +kernel)) ggL_law_X3_back
set_option maxRecDepth 20000 in
theorem ggL_law_X2_forms : GoodIn wsL_law wsX2_forms := goodIn_r _ [321, 322, 323, 175, 176, 177, 2, 178, 107, 89, 337, 338, 339, 340, 341, 342, 343, 344, 345, 346, 347, 348, 349, 350, 351, 352] (by decide +kernel) (by decide +kernel)
set_option maxRecDepth 20000 in
theorem gL_law_X2_forms : GoodIn wsL_law (wsV RL 74 RX2 yX2_forms wsX2_forms) := goodIn_app (goodIn_of _ (by decide +kernel)) ggL_law_X2_forms
set_option maxRecDepth 20000 in
theorem ggL_law_X3_forms : GoodIn wsL_law wsX3_forms := goodIn_r _ [327, 62, 328, 48, 248, 249, 250, 5, 251, 200, 199, 353, 354, 355, 356, 357, 358, 359, 360, 361, 362, 363, 364, 365, 366, 367, 368] (by decide +kernel) (by decide +kernel)
set_option maxRecDepth 20000 in
theorem gL_law_X3_forms : GoodIn wsL_law (wsV RL 77 RX3 yX3_forms wsX3_forms) := goodIn_app (goodIn_of _ (by decide +kernel)) ggL_law_X3_forms
set_option maxRecDepth 20000 in
theorem ggL_law_X2_tally : GoodIn wsL_law wsX2_tally := goodIn_r _ [332, 81, 89, 121, 148, 120, 187, 323, 67, 337, 338, 339, 340, 341, 342, 343, 344, 345, 346, 347, 348, 349, 350, 351, 352] (by decide +kernel) (by decide +kernel)
set_option maxRecDepth 20000 in
theorem gL_law_X2_tally : GoodIn wsL_law (wsV RL 78 RX2 yX2_tally wsX2_tally) := goodIn_app (goodIn_of _ (by decide +kernel)) ggL_law_X2_tally
set_option maxRecDepth 20000 in
theorem ggL_law_X3_tally : GoodIn wsL_law wsX3_tally := goodIn_r _ [336, 62, 194, 199, 48, 76, 353, 354, 355, 356, 357, 358, 359, 360, 361, 362, 363, 364, 365, 366, 367, 368] (by decide +kernel) (by decide +kernel)
set_option maxRecDepth 20000 in
theorem gL_law_X3_tally : GoodIn wsL_law (wsV RL 81 RX3 yX3_tally wsX3_tally) := goodIn_app (goodIn_of _ (by decide +kernel)) ggL_law_X3_tally
theorem dL_law_0 : decode cL_law 0 = .ok (.new 8, 3) := by decide +kernel
theorem dL_law_3 : decode cL_law 3 = .ok (.dup, 1) := by decide +kernel
theorem dL_law_4 : decode cL_law 4 = .ok (.aload_n 0, 1) := by decide +kernel
theorem dL_law_5 : decode cL_law 5 = .ok (.iconst 0, 1) := by decide +kernel
theorem dL_law_6 : decode cL_law 6 = .ok (.invokestatic 15, 3) := by decide +kernel
theorem dL_law_9 : decode cL_law 9 = .ok (.aload_n 0, 1) := by decide +kernel
theorem dL_law_10 : decode cL_law 10 = .ok (.iconst 1, 1) := by decide +kernel
theorem dL_law_11 : decode cL_law 11 = .ok (.invokestatic 15, 3) := by decide +kernel
theorem dL_law_14 : decode cL_law 14 = .ok (.invokespecial 21, 3) := by decide +kernel
theorem dL_law_17 : decode cL_law 17 = .ok (.astore_n 1, 1) := by decide +kernel
theorem dL_law_18 : decode cL_law 18 = .ok (.new 24, 3) := by decide +kernel
theorem dL_law_21 : decode cL_law 21 = .ok (.dup, 1) := by decide +kernel
theorem dL_law_22 : decode cL_law 22 = .ok (.aload_n 0, 1) := by decide +kernel
theorem dL_law_23 : decode cL_law 23 = .ok (.iconst 0, 1) := by decide +kernel
theorem dL_law_24 : decode cL_law 24 = .ok (.invokestatic 15, 3) := by decide +kernel
theorem dL_law_27 : decode cL_law 27 = .ok (.aload_n 0, 1) := by decide +kernel
theorem dL_law_28 : decode cL_law 28 = .ok (.iconst 1, 1) := by decide +kernel
theorem dL_law_29 : decode cL_law 29 = .ok (.invokestatic 15, 3) := by decide +kernel
theorem dL_law_32 : decode cL_law 32 = .ok (.invokespecial 26, 3) := by decide +kernel
theorem dL_law_35 : decode cL_law 35 = .ok (.astore_n 2, 1) := by decide +kernel
theorem dL_law_36 : decode cL_law 36 = .ok (.iconst 1, 1) := by decide +kernel
theorem dL_law_37 : decode cL_law 37 = .ok (.newarray .long, 2) := by decide +kernel
theorem dL_law_39 : decode cL_law 39 = .ok (.astore_n 3, 1) := by decide +kernel
theorem dL_law_40 : decode cL_law 40 = .ok (.iconst 2, 1) := by decide +kernel
theorem dL_law_41 : decode cL_law 41 = .ok (.istore 4, 2) := by decide +kernel
theorem dL_law_43 : decode cL_law 43 = .ok (.iload 4, 2) := by decide +kernel
theorem dL_law_45 : decode cL_law 45 = .ok (.aload_n 0, 1) := by decide +kernel
theorem dL_law_46 : decode cL_law 46 = .ok (.arraylength, 1) := by decide +kernel
theorem dL_law_47 : decode cL_law 47 = .ok (.iconst 4, 1) := by decide +kernel
theorem dL_law_48 : decode cL_law 48 = .ok (.isub, 1) := by decide +kernel
theorem dL_law_49 : decode cL_law 49 = .ok (.if_icmp .gt 478, 3) := by decide +kernel
theorem dL_law_52 : decode cL_law 52 = .ok (.aload_n 0, 1) := by decide +kernel
theorem dL_law_53 : decode cL_law 53 = .ok (.iload 4, 2) := by decide +kernel
theorem dL_law_55 : decode cL_law 55 = .ok (.iaload, 1) := by decide +kernel
theorem dL_law_56 : decode cL_law 56 = .ok (.bipush 15, 2) := by decide +kernel
theorem dL_law_58 : decode cL_law 58 = .ok (.iand, 1) := by decide +kernel
theorem dL_law_59 : decode cL_law 59 = .ok (.tableswitch 462 0 11 #[61, 98, 121, 146, 171, 184, 264, 301, 338, 387, 412, 437], 61) := by decide +kernel
theorem dL_law_120 : decode cL_law 120 = .ok (.aload_n 1, 1) := by decide +kernel
theorem dL_law_121 : decode cL_law 121 = .ok (.aload_n 0, 1) := by decide +kernel
theorem dL_law_122 : decode cL_law 122 = .ok (.iload 4, 2) := by decide +kernel
theorem dL_law_124 : decode cL_law 124 = .ok (.iconst 1, 1) := by decide +kernel
theorem dL_law_125 : decode cL_law 125 = .ok (.iadd, 1) := by decide +kernel
theorem dL_law_126 : decode cL_law 126 = .ok (.iaload, 1) := by decide +kernel
theorem dL_law_127 : decode cL_law 127 = .ok (.aload_n 0, 1) := by decide +kernel
theorem dL_law_128 : decode cL_law 128 = .ok (.iload 4, 2) := by decide +kernel
theorem dL_law_130 : decode cL_law 130 = .ok (.iconst 2, 1) := by decide +kernel
theorem dL_law_131 : decode cL_law 131 = .ok (.iadd, 1) := by decide +kernel
theorem dL_law_132 : decode cL_law 132 = .ok (.iaload, 1) := by decide +kernel
theorem dL_law_133 : decode cL_law 133 = .ok (.invokevirtual 27, 3) := by decide +kernel
theorem dL_law_136 : decode cL_law 136 = .ok (.aload_n 2, 1) := by decide +kernel
theorem dL_law_137 : decode cL_law 137 = .ok (.aload_n 0, 1) := by decide +kernel
theorem dL_law_138 : decode cL_law 138 = .ok (.iload 4, 2) := by decide +kernel
theorem dL_law_140 : decode cL_law 140 = .ok (.iconst 1, 1) := by decide +kernel
theorem dL_law_141 : decode cL_law 141 = .ok (.iadd, 1) := by decide +kernel
theorem dL_law_142 : decode cL_law 142 = .ok (.iaload, 1) := by decide +kernel
theorem dL_law_143 : decode cL_law 143 = .ok (.aload_n 0, 1) := by decide +kernel
theorem dL_law_144 : decode cL_law 144 = .ok (.iload 4, 2) := by decide +kernel
theorem dL_law_146 : decode cL_law 146 = .ok (.iconst 2, 1) := by decide +kernel
theorem dL_law_147 : decode cL_law 147 = .ok (.iadd, 1) := by decide +kernel
theorem dL_law_148 : decode cL_law 148 = .ok (.iaload, 1) := by decide +kernel
theorem dL_law_149 : decode cL_law 149 = .ok (.invokevirtual 31, 3) := by decide +kernel
theorem dL_law_152 : decode cL_law 152 = .ok (.if_icmp .eq 369, 3) := by decide +kernel
theorem dL_law_155 : decode cL_law 155 = .ok (.iconst 0, 1) := by decide +kernel
theorem dL_law_156 : decode cL_law 156 = .ok (.ireturn, 1) := by decide +kernel
theorem dL_law_157 : decode cL_law 157 = .ok (.aload_n 1, 1) := by decide +kernel
theorem dL_law_158 : decode cL_law 158 = .ok (.aload_n 0, 1) := by decide +kernel
theorem dL_law_159 : decode cL_law 159 = .ok (.iload 4, 2) := by decide +kernel
theorem dL_law_161 : decode cL_law 161 = .ok (.iconst 1, 1) := by decide +kernel
theorem dL_law_162 : decode cL_law 162 = .ok (.iadd, 1) := by decide +kernel
theorem dL_law_163 : decode cL_law 163 = .ok (.iaload, 1) := by decide +kernel
theorem dL_law_164 : decode cL_law 164 = .ok (.invokevirtual 32, 3) := by decide +kernel
theorem dL_law_167 : decode cL_law 167 = .ok (.aload_n 2, 1) := by decide +kernel
theorem dL_law_168 : decode cL_law 168 = .ok (.aload_n 0, 1) := by decide +kernel
theorem dL_law_169 : decode cL_law 169 = .ok (.iload 4, 2) := by decide +kernel
theorem dL_law_171 : decode cL_law 171 = .ok (.iconst 1, 1) := by decide +kernel
theorem dL_law_172 : decode cL_law 172 = .ok (.iadd, 1) := by decide +kernel
theorem dL_law_173 : decode cL_law 173 = .ok (.iaload, 1) := by decide +kernel
theorem dL_law_174 : decode cL_law 174 = .ok (.invokevirtual 36, 3) := by decide +kernel
theorem dL_law_177 : decode cL_law 177 = .ok (.goto 344, 3) := by decide +kernel
theorem dL_law_180 : decode cL_law 180 = .ok (.aload_n 1, 1) := by decide +kernel
theorem dL_law_181 : decode cL_law 181 = .ok (.aload_n 0, 1) := by decide +kernel
theorem dL_law_182 : decode cL_law 182 = .ok (.iload 4, 2) := by decide +kernel
theorem dL_law_184 : decode cL_law 184 = .ok (.iconst 1, 1) := by decide +kernel
theorem dL_law_185 : decode cL_law 185 = .ok (.iadd, 1) := by decide +kernel
theorem dL_law_186 : decode cL_law 186 = .ok (.iaload, 1) := by decide +kernel
theorem dL_law_187 : decode cL_law 187 = .ok (.invokevirtual 37, 3) := by decide +kernel
theorem dL_law_190 : decode cL_law 190 = .ok (.aload_n 2, 1) := by decide +kernel
theorem dL_law_191 : decode cL_law 191 = .ok (.aload_n 0, 1) := by decide +kernel
theorem dL_law_192 : decode cL_law 192 = .ok (.iload 4, 2) := by decide +kernel
theorem dL_law_194 : decode cL_law 194 = .ok (.iconst 1, 1) := by decide +kernel
theorem dL_law_195 : decode cL_law 195 = .ok (.iadd, 1) := by decide +kernel
theorem dL_law_196 : decode cL_law 196 = .ok (.iaload, 1) := by decide +kernel
theorem dL_law_197 : decode cL_law 197 = .ok (.invokevirtual 41, 3) := by decide +kernel
theorem dL_law_200 : decode cL_law 200 = .ok (.if_icmp .eq 321, 3) := by decide +kernel
theorem dL_law_203 : decode cL_law 203 = .ok (.iconst 0, 1) := by decide +kernel
theorem dL_law_204 : decode cL_law 204 = .ok (.ireturn, 1) := by decide +kernel
theorem dL_law_205 : decode cL_law 205 = .ok (.aload_n 1, 1) := by decide +kernel
theorem dL_law_206 : decode cL_law 206 = .ok (.aload_n 0, 1) := by decide +kernel
theorem dL_law_207 : decode cL_law 207 = .ok (.iload 4, 2) := by decide +kernel
theorem dL_law_209 : decode cL_law 209 = .ok (.iconst 1, 1) := by decide +kernel
theorem dL_law_210 : decode cL_law 210 = .ok (.iadd, 1) := by decide +kernel
theorem dL_law_211 : decode cL_law 211 = .ok (.iaload, 1) := by decide +kernel
theorem dL_law_212 : decode cL_law 212 = .ok (.invokevirtual 42, 3) := by decide +kernel
theorem dL_law_215 : decode cL_law 215 = .ok (.aload_n 2, 1) := by decide +kernel
theorem dL_law_216 : decode cL_law 216 = .ok (.aload_n 0, 1) := by decide +kernel
theorem dL_law_217 : decode cL_law 217 = .ok (.iload 4, 2) := by decide +kernel
theorem dL_law_219 : decode cL_law 219 = .ok (.iconst 1, 1) := by decide +kernel
theorem dL_law_220 : decode cL_law 220 = .ok (.iadd, 1) := by decide +kernel
theorem dL_law_221 : decode cL_law 221 = .ok (.iaload, 1) := by decide +kernel
theorem dL_law_222 : decode cL_law 222 = .ok (.invokevirtual 45, 3) := by decide +kernel
theorem dL_law_225 : decode cL_law 225 = .ok (.if_icmp .eq 296, 3) := by decide +kernel
theorem dL_law_228 : decode cL_law 228 = .ok (.iconst 0, 1) := by decide +kernel
theorem dL_law_229 : decode cL_law 229 = .ok (.ireturn, 1) := by decide +kernel
theorem dL_law_230 : decode cL_law 230 = .ok (.aload_n 1, 1) := by decide +kernel
theorem dL_law_231 : decode cL_law 231 = .ok (.invokevirtual 46, 3) := by decide +kernel
theorem dL_law_234 : decode cL_law 234 = .ok (.aload_n 2, 1) := by decide +kernel
theorem dL_law_235 : decode cL_law 235 = .ok (.invokevirtual 50, 3) := by decide +kernel
theorem dL_law_238 : decode cL_law 238 = .ok (.if_icmp .eq 283, 3) := by decide +kernel
theorem dL_law_241 : decode cL_law 241 = .ok (.iconst 0, 1) := by decide +kernel
theorem dL_law_242 : decode cL_law 242 = .ok (.ireturn, 1) := by decide +kernel
theorem dL_law_243 : decode cL_law 243 = .ok (.aload_n 1, 1) := by decide +kernel
theorem dL_law_244 : decode cL_law 244 = .ok (.aload_n 0, 1) := by decide +kernel
theorem dL_law_245 : decode cL_law 245 = .ok (.iload 4, 2) := by decide +kernel
theorem dL_law_247 : decode cL_law 247 = .ok (.iconst 1, 1) := by decide +kernel
theorem dL_law_248 : decode cL_law 248 = .ok (.iadd, 1) := by decide +kernel
theorem dL_law_249 : decode cL_law 249 = .ok (.iaload, 1) := by decide +kernel
theorem dL_law_250 : decode cL_law 250 = .ok (.aload_n 0, 1) := by decide +kernel
theorem dL_law_251 : decode cL_law 251 = .ok (.iload 4, 2) := by decide +kernel
theorem dL_law_253 : decode cL_law 253 = .ok (.iconst 2, 1) := by decide +kernel
theorem dL_law_254 : decode cL_law 254 = .ok (.iadd, 1) := by decide +kernel
theorem dL_law_255 : decode cL_law 255 = .ok (.iaload, 1) := by decide +kernel
theorem dL_law_256 : decode cL_law 256 = .ok (.aload_n 0, 1) := by decide +kernel
theorem dL_law_257 : decode cL_law 257 = .ok (.iload 4, 2) := by decide +kernel
theorem dL_law_259 : decode cL_law 259 = .ok (.iconst 3, 1) := by decide +kernel
theorem dL_law_260 : decode cL_law 260 = .ok (.iadd, 1) := by decide +kernel
theorem dL_law_261 : decode cL_law 261 = .ok (.iaload, 1) := by decide +kernel
theorem dL_law_262 : decode cL_law 262 = .ok (.aload_n 3, 1) := by decide +kernel
theorem dL_law_263 : decode cL_law 263 = .ok (.invokestatic 51, 3) := by decide +kernel
theorem dL_law_266 : decode cL_law 266 = .ok (.istore 5, 2) := by decide +kernel
theorem dL_law_268 : decode cL_law 268 = .ok (.aload_n 2, 1) := by decide +kernel
theorem dL_law_269 : decode cL_law 269 = .ok (.aload_n 0, 1) := by decide +kernel
theorem dL_law_270 : decode cL_law 270 = .ok (.iload 4, 2) := by decide +kernel
theorem dL_law_272 : decode cL_law 272 = .ok (.iconst 1, 1) := by decide +kernel
theorem dL_law_273 : decode cL_law 273 = .ok (.iadd, 1) := by decide +kernel
theorem dL_law_274 : decode cL_law 274 = .ok (.iaload, 1) := by decide +kernel
theorem dL_law_275 : decode cL_law 275 = .ok (.aload_n 0, 1) := by decide +kernel
theorem dL_law_276 : decode cL_law 276 = .ok (.iload 4, 2) := by decide +kernel
theorem dL_law_278 : decode cL_law 278 = .ok (.iconst 2, 1) := by decide +kernel
theorem dL_law_279 : decode cL_law 279 = .ok (.iadd, 1) := by decide +kernel
theorem dL_law_280 : decode cL_law 280 = .ok (.iaload, 1) := by decide +kernel
theorem dL_law_281 : decode cL_law 281 = .ok (.aload_n 0, 1) := by decide +kernel
theorem dL_law_282 : decode cL_law 282 = .ok (.iload 4, 2) := by decide +kernel
theorem dL_law_284 : decode cL_law 284 = .ok (.iconst 3, 1) := by decide +kernel
theorem dL_law_285 : decode cL_law 285 = .ok (.iadd, 1) := by decide +kernel
theorem dL_law_286 : decode cL_law 286 = .ok (.iaload, 1) := by decide +kernel
theorem dL_law_287 : decode cL_law 287 = .ok (.invokevirtual 54, 3) := by decide +kernel
theorem dL_law_290 : decode cL_law 290 = .ok (.istore 6, 2) := by decide +kernel
theorem dL_law_292 : decode cL_law 292 = .ok (.aload_n 2, 1) := by decide +kernel
theorem dL_law_293 : decode cL_law 293 = .ok (.invokevirtual 55, 3) := by decide +kernel
theorem dL_law_296 : decode cL_law 296 = .ok (.iload 5, 2) := by decide +kernel
theorem dL_law_298 : decode cL_law 298 = .ok (.if_icmp .eq 5, 3) := by decide +kernel
theorem dL_law_301 : decode cL_law 301 = .ok (.iconst 0, 1) := by decide +kernel
theorem dL_law_302 : decode cL_law 302 = .ok (.ireturn, 1) := by decide +kernel
theorem dL_law_303 : decode cL_law 303 = .ok (.iload 5, 2) := by decide +kernel
theorem dL_law_305 : decode cL_law 305 = .ok (.ifCond .ne 15, 3) := by decide +kernel
theorem dL_law_308 : decode cL_law 308 = .ok (.aload_n 3, 1) := by decide +kernel
theorem dL_law_309 : decode cL_law 309 = .ok (.iconst 0, 1) := by decide +kernel
theorem dL_law_310 : decode cL_law 310 = .ok (.laload, 1) := by decide +kernel
theorem dL_law_311 : decode cL_law 311 = .ok (.iload 6, 2) := by decide +kernel
theorem dL_law_313 : decode cL_law 313 = .ok (.i2l, 1) := by decide +kernel
theorem dL_law_314 : decode cL_law 314 = .ok (.lcmp, 1) := by decide +kernel
theorem dL_law_315 : decode cL_law 315 = .ok (.ifCond .eq 5, 3) := by decide +kernel
theorem dL_law_318 : decode cL_law 318 = .ok (.iconst 0, 1) := by decide +kernel
theorem dL_law_319 : decode cL_law 319 = .ok (.ireturn, 1) := by decide +kernel
theorem dL_law_320 : decode cL_law 320 = .ok (.goto 201, 3) := by decide +kernel
theorem dL_law_323 : decode cL_law 323 = .ok (.aload_n 1, 1) := by decide +kernel
theorem dL_law_324 : decode cL_law 324 = .ok (.aload_n 0, 1) := by decide +kernel
theorem dL_law_325 : decode cL_law 325 = .ok (.iload 4, 2) := by decide +kernel
theorem dL_law_327 : decode cL_law 327 = .ok (.iconst 1, 1) := by decide +kernel
theorem dL_law_328 : decode cL_law 328 = .ok (.iadd, 1) := by decide +kernel
theorem dL_law_329 : decode cL_law 329 = .ok (.iaload, 1) := by decide +kernel
theorem dL_law_330 : decode cL_law 330 = .ok (.aload_n 0, 1) := by decide +kernel
theorem dL_law_331 : decode cL_law 331 = .ok (.iload 4, 2) := by decide +kernel
theorem dL_law_333 : decode cL_law 333 = .ok (.iconst 2, 1) := by decide +kernel
theorem dL_law_334 : decode cL_law 334 = .ok (.iadd, 1) := by decide +kernel
theorem dL_law_335 : decode cL_law 335 = .ok (.iaload, 1) := by decide +kernel
theorem dL_law_336 : decode cL_law 336 = .ok (.invokevirtual 58, 3) := by decide +kernel
theorem dL_law_339 : decode cL_law 339 = .ok (.aload_n 2, 1) := by decide +kernel
theorem dL_law_340 : decode cL_law 340 = .ok (.aload_n 0, 1) := by decide +kernel
theorem dL_law_341 : decode cL_law 341 = .ok (.iload 4, 2) := by decide +kernel
theorem dL_law_343 : decode cL_law 343 = .ok (.iconst 1, 1) := by decide +kernel
theorem dL_law_344 : decode cL_law 344 = .ok (.iadd, 1) := by decide +kernel
theorem dL_law_345 : decode cL_law 345 = .ok (.iaload, 1) := by decide +kernel
theorem dL_law_346 : decode cL_law 346 = .ok (.aload_n 0, 1) := by decide +kernel
theorem dL_law_347 : decode cL_law 347 = .ok (.iload 4, 2) := by decide +kernel
theorem dL_law_349 : decode cL_law 349 = .ok (.iconst 2, 1) := by decide +kernel
theorem dL_law_350 : decode cL_law 350 = .ok (.iadd, 1) := by decide +kernel
theorem dL_law_351 : decode cL_law 351 = .ok (.iaload, 1) := by decide +kernel
theorem dL_law_352 : decode cL_law 352 = .ok (.invokevirtual 61, 3) := by decide +kernel
theorem dL_law_355 : decode cL_law 355 = .ok (.if_icmp .eq 166, 3) := by decide +kernel
theorem dL_law_358 : decode cL_law 358 = .ok (.iconst 0, 1) := by decide +kernel
theorem dL_law_359 : decode cL_law 359 = .ok (.ireturn, 1) := by decide +kernel
theorem dL_law_360 : decode cL_law 360 = .ok (.aload_n 1, 1) := by decide +kernel
theorem dL_law_361 : decode cL_law 361 = .ok (.aload_n 0, 1) := by decide +kernel
theorem dL_law_362 : decode cL_law 362 = .ok (.iload 4, 2) := by decide +kernel
theorem dL_law_364 : decode cL_law 364 = .ok (.iconst 1, 1) := by decide +kernel
theorem dL_law_365 : decode cL_law 365 = .ok (.iadd, 1) := by decide +kernel
theorem dL_law_366 : decode cL_law 366 = .ok (.iaload, 1) := by decide +kernel
theorem dL_law_367 : decode cL_law 367 = .ok (.aload_n 0, 1) := by decide +kernel
theorem dL_law_368 : decode cL_law 368 = .ok (.iload 4, 2) := by decide +kernel
theorem dL_law_370 : decode cL_law 370 = .ok (.iconst 2, 1) := by decide +kernel
theorem dL_law_371 : decode cL_law 371 = .ok (.iadd, 1) := by decide +kernel
theorem dL_law_372 : decode cL_law 372 = .ok (.iaload, 1) := by decide +kernel
theorem dL_law_373 : decode cL_law 373 = .ok (.invokevirtual 62, 3) := by decide +kernel
theorem dL_law_376 : decode cL_law 376 = .ok (.aload_n 2, 1) := by decide +kernel
theorem dL_law_377 : decode cL_law 377 = .ok (.aload_n 0, 1) := by decide +kernel
theorem dL_law_378 : decode cL_law 378 = .ok (.iload 4, 2) := by decide +kernel
theorem dL_law_380 : decode cL_law 380 = .ok (.iconst 1, 1) := by decide +kernel
theorem dL_law_381 : decode cL_law 381 = .ok (.iadd, 1) := by decide +kernel
theorem dL_law_382 : decode cL_law 382 = .ok (.iaload, 1) := by decide +kernel
theorem dL_law_383 : decode cL_law 383 = .ok (.aload_n 0, 1) := by decide +kernel
theorem dL_law_384 : decode cL_law 384 = .ok (.iload 4, 2) := by decide +kernel
theorem dL_law_386 : decode cL_law 386 = .ok (.iconst 2, 1) := by decide +kernel
theorem dL_law_387 : decode cL_law 387 = .ok (.iadd, 1) := by decide +kernel
theorem dL_law_388 : decode cL_law 388 = .ok (.iaload, 1) := by decide +kernel
theorem dL_law_389 : decode cL_law 389 = .ok (.invokevirtual 65, 3) := by decide +kernel
theorem dL_law_392 : decode cL_law 392 = .ok (.if_icmp .eq 129, 3) := by decide +kernel
theorem dL_law_395 : decode cL_law 395 = .ok (.iconst 0, 1) := by decide +kernel
theorem dL_law_396 : decode cL_law 396 = .ok (.ireturn, 1) := by decide +kernel
theorem dL_law_397 : decode cL_law 397 = .ok (.aload_n 1, 1) := by decide +kernel
theorem dL_law_398 : decode cL_law 398 = .ok (.aload_n 0, 1) := by decide +kernel
theorem dL_law_399 : decode cL_law 399 = .ok (.iload 4, 2) := by decide +kernel
theorem dL_law_401 : decode cL_law 401 = .ok (.iconst 1, 1) := by decide +kernel
theorem dL_law_402 : decode cL_law 402 = .ok (.iadd, 1) := by decide +kernel
theorem dL_law_403 : decode cL_law 403 = .ok (.iaload, 1) := by decide +kernel
theorem dL_law_404 : decode cL_law 404 = .ok (.aload_n 0, 1) := by decide +kernel
theorem dL_law_405 : decode cL_law 405 = .ok (.iload 4, 2) := by decide +kernel
theorem dL_law_407 : decode cL_law 407 = .ok (.iconst 2, 1) := by decide +kernel
theorem dL_law_408 : decode cL_law 408 = .ok (.iadd, 1) := by decide +kernel
theorem dL_law_409 : decode cL_law 409 = .ok (.iaload, 1) := by decide +kernel
theorem dL_law_410 : decode cL_law 410 = .ok (.aload_n 0, 1) := by decide +kernel
theorem dL_law_411 : decode cL_law 411 = .ok (.iload 4, 2) := by decide +kernel
theorem dL_law_413 : decode cL_law 413 = .ok (.iconst 3, 1) := by decide +kernel
theorem dL_law_414 : decode cL_law 414 = .ok (.iadd, 1) := by decide +kernel
theorem dL_law_415 : decode cL_law 415 = .ok (.iaload, 1) := by decide +kernel
theorem dL_law_416 : decode cL_law 416 = .ok (.invokevirtual 66, 3) := by decide +kernel
theorem dL_law_419 : decode cL_law 419 = .ok (.aload_n 2, 1) := by decide +kernel
theorem dL_law_420 : decode cL_law 420 = .ok (.aload_n 0, 1) := by decide +kernel
theorem dL_law_421 : decode cL_law 421 = .ok (.iload 4, 2) := by decide +kernel
theorem dL_law_423 : decode cL_law 423 = .ok (.iconst 1, 1) := by decide +kernel
theorem dL_law_424 : decode cL_law 424 = .ok (.iadd, 1) := by decide +kernel
theorem dL_law_425 : decode cL_law 425 = .ok (.iaload, 1) := by decide +kernel
theorem dL_law_426 : decode cL_law 426 = .ok (.aload_n 0, 1) := by decide +kernel
theorem dL_law_427 : decode cL_law 427 = .ok (.iload 4, 2) := by decide +kernel
theorem dL_law_429 : decode cL_law 429 = .ok (.iconst 2, 1) := by decide +kernel
theorem dL_law_430 : decode cL_law 430 = .ok (.iadd, 1) := by decide +kernel
theorem dL_law_431 : decode cL_law 431 = .ok (.iaload, 1) := by decide +kernel
theorem dL_law_432 : decode cL_law 432 = .ok (.aload_n 0, 1) := by decide +kernel
theorem dL_law_433 : decode cL_law 433 = .ok (.iload 4, 2) := by decide +kernel
theorem dL_law_435 : decode cL_law 435 = .ok (.iconst 3, 1) := by decide +kernel
theorem dL_law_436 : decode cL_law 436 = .ok (.iadd, 1) := by decide +kernel
theorem dL_law_437 : decode cL_law 437 = .ok (.iaload, 1) := by decide +kernel
theorem dL_law_438 : decode cL_law 438 = .ok (.invokevirtual 69, 3) := by decide +kernel
theorem dL_law_441 : decode cL_law 441 = .ok (.if_icmp .eq 80, 3) := by decide +kernel
theorem dL_law_444 : decode cL_law 444 = .ok (.iconst 0, 1) := by decide +kernel
theorem dL_law_445 : decode cL_law 445 = .ok (.ireturn, 1) := by decide +kernel
theorem dL_law_446 : decode cL_law 446 = .ok (.aload_n 1, 1) := by decide +kernel
theorem dL_law_447 : decode cL_law 447 = .ok (.aload_n 0, 1) := by decide +kernel
theorem dL_law_448 : decode cL_law 448 = .ok (.iload 4, 2) := by decide +kernel
theorem dL_law_450 : decode cL_law 450 = .ok (.iconst 1, 1) := by decide +kernel
theorem dL_law_451 : decode cL_law 451 = .ok (.iadd, 1) := by decide +kernel
theorem dL_law_452 : decode cL_law 452 = .ok (.iaload, 1) := by decide +kernel
theorem dL_law_453 : decode cL_law 453 = .ok (.invokevirtual 70, 3) := by decide +kernel
theorem dL_law_456 : decode cL_law 456 = .ok (.aload_n 2, 1) := by decide +kernel
theorem dL_law_457 : decode cL_law 457 = .ok (.aload_n 0, 1) := by decide +kernel
theorem dL_law_458 : decode cL_law 458 = .ok (.iload 4, 2) := by decide +kernel
theorem dL_law_460 : decode cL_law 460 = .ok (.iconst 1, 1) := by decide +kernel
theorem dL_law_461 : decode cL_law 461 = .ok (.iadd, 1) := by decide +kernel
theorem dL_law_462 : decode cL_law 462 = .ok (.iaload, 1) := by decide +kernel
theorem dL_law_463 : decode cL_law 463 = .ok (.invokevirtual 73, 3) := by decide +kernel
theorem dL_law_466 : decode cL_law 466 = .ok (.if_icmp .eq 55, 3) := by decide +kernel
theorem dL_law_469 : decode cL_law 469 = .ok (.iconst 0, 1) := by decide +kernel
theorem dL_law_470 : decode cL_law 470 = .ok (.ireturn, 1) := by decide +kernel
theorem dL_law_471 : decode cL_law 471 = .ok (.aload_n 1, 1) := by decide +kernel
theorem dL_law_472 : decode cL_law 472 = .ok (.aload_n 0, 1) := by decide +kernel
theorem dL_law_473 : decode cL_law 473 = .ok (.iload 4, 2) := by decide +kernel
theorem dL_law_475 : decode cL_law 475 = .ok (.iconst 1, 1) := by decide +kernel
theorem dL_law_476 : decode cL_law 476 = .ok (.iadd, 1) := by decide +kernel
theorem dL_law_477 : decode cL_law 477 = .ok (.iaload, 1) := by decide +kernel
theorem dL_law_478 : decode cL_law 478 = .ok (.invokevirtual 74, 3) := by decide +kernel
theorem dL_law_481 : decode cL_law 481 = .ok (.aload_n 2, 1) := by decide +kernel
theorem dL_law_482 : decode cL_law 482 = .ok (.aload_n 0, 1) := by decide +kernel
theorem dL_law_483 : decode cL_law 483 = .ok (.iload 4, 2) := by decide +kernel
theorem dL_law_485 : decode cL_law 485 = .ok (.iconst 1, 1) := by decide +kernel
theorem dL_law_486 : decode cL_law 486 = .ok (.iadd, 1) := by decide +kernel
theorem dL_law_487 : decode cL_law 487 = .ok (.iaload, 1) := by decide +kernel
theorem dL_law_488 : decode cL_law 488 = .ok (.invokevirtual 77, 3) := by decide +kernel
theorem dL_law_491 : decode cL_law 491 = .ok (.if_icmp .eq 30, 3) := by decide +kernel
theorem dL_law_494 : decode cL_law 494 = .ok (.iconst 0, 1) := by decide +kernel
theorem dL_law_495 : decode cL_law 495 = .ok (.ireturn, 1) := by decide +kernel
theorem dL_law_496 : decode cL_law 496 = .ok (.aload_n 1, 1) := by decide +kernel
theorem dL_law_497 : decode cL_law 497 = .ok (.aload_n 0, 1) := by decide +kernel
theorem dL_law_498 : decode cL_law 498 = .ok (.iload 4, 2) := by decide +kernel
theorem dL_law_500 : decode cL_law 500 = .ok (.iconst 1, 1) := by decide +kernel
theorem dL_law_501 : decode cL_law 501 = .ok (.iadd, 1) := by decide +kernel
theorem dL_law_502 : decode cL_law 502 = .ok (.iaload, 1) := by decide +kernel
theorem dL_law_503 : decode cL_law 503 = .ok (.invokevirtual 78, 3) := by decide +kernel
theorem dL_law_506 : decode cL_law 506 = .ok (.aload_n 2, 1) := by decide +kernel
theorem dL_law_507 : decode cL_law 507 = .ok (.aload_n 0, 1) := by decide +kernel
theorem dL_law_508 : decode cL_law 508 = .ok (.iload 4, 2) := by decide +kernel
theorem dL_law_510 : decode cL_law 510 = .ok (.iconst 1, 1) := by decide +kernel
theorem dL_law_511 : decode cL_law 511 = .ok (.iadd, 1) := by decide +kernel
theorem dL_law_512 : decode cL_law 512 = .ok (.iaload, 1) := by decide +kernel
theorem dL_law_513 : decode cL_law 513 = .ok (.invokevirtual 81, 3) := by decide +kernel
theorem dL_law_516 : decode cL_law 516 = .ok (.if_icmp .eq 5, 3) := by decide +kernel
theorem dL_law_519 : decode cL_law 519 = .ok (.iconst 0, 1) := by decide +kernel
theorem dL_law_520 : decode cL_law 520 = .ok (.ireturn, 1) := by decide +kernel
theorem dL_law_521 : decode cL_law 521 = .ok (.iinc 4 4, 3) := by decide +kernel
theorem dL_law_524 : decode cL_law 524 = .ok (.goto (-481), 3) := by decide +kernel
theorem dL_law_527 : decode cL_law 527 = .ok (.iconst 1, 1) := by decide +kernel
theorem dL_law_528 : decode cL_law 528 = .ok (.ireturn, 1) := by decide +kernel
end
section
/-! the array classes, the tables' words that a contract needs beside its own, and the two shapes of a contract -/
abbrev tyL (cI cP cR cJ : ClassId) : List (ClassId × FieldType) := [(cI, .int), (cP, .object "PrinterRows$Page"), (cR, .object "PrinterRows$Row"), (cJ, .long)]
def KK (D : va_G) (cI cP cR cJ : ClassId) (U : State) : Prop := va_K D vwCl (tyL cI cP cR cJ) U ∧ va_AO "PrinterRows$Page" U ∧ va_AO "PrinterRows$Row" U ∧ va_Nw (.methodLinkNest RX1 27 yX2_darker RX2) U
theorem KK.warm {D : va_G} {cI cP cR cJ : ClassId} {s U : State} (hW : s.WarmedH U.vm) (h : KK D cI cP cR cJ s) : KK D cI cP cR cJ U := ⟨va_K.moved hW.alike h.1, va_AO.moved hW.alike h.2.1, va_AO.moved hW.alike h.2.2.1, va_Nw.warmM hW h.2.2.2⟩
theorem KK.same {D : va_G} {cI cP cR cJ : ClassId} {s U : State} (h : s.vm = U.vm) (hk : KK D cI cP cR cJ s) : KK D cI cP cR cJ U := ⟨va_K.moved (by rw [h]; exact Vm.Alike.refl U.vm) hk.1, va_AO.moved (by rw [h]; exact Vm.Alike.refl U.vm) hk.2.1, va_AO.moved (by rw [h]; exact Vm.Alike.refl U.vm) hk.2.2.1, va_Nw.same rfl h hk.2.2.2⟩
theorem kI {D : va_G} {cI cP cR cJ cA : ClassId} {s : State} (h : va_K D vwCl (tyL cI cP cR cJ ++ [(cA, .int)]) s) : cA = cI :=
  Option.some.inj (((h.2 4 (cA, .int) rfl).2 : s.vm.findClass _ = some cA).symm.trans (h.2 0 (cI, .int) rfl).2)
theorem kP {D : va_G} {cI cP cR cJ cA : ClassId} {s : State} (h : va_K D vwCl (tyL cI cP cR cJ ++ [(cA, .object "PrinterRows$Page")]) s) : cA = cP := by
  obtain ⟨_, _, _, _, _, h1⟩ := (h.2 4 (cA, .object "PrinterRows$Page") rfl).2
  obtain ⟨_, _, _, _, _, h2⟩ := (h.2 1 (cP, .object "PrinterRows$Page") rfl).2
  exact Option.some.inj (h1.symm.trans h2)
theorem kR {D : va_G} {cI cP cR cJ cA : ClassId} {s : State} (h : va_K D vwCl (tyL cI cP cR cJ ++ [(cA, .object "PrinterRows$Row")]) s) : cA = cR := by
  obtain ⟨_, _, _, _, _, h1⟩ := (h.2 4 (cA, .object "PrinterRows$Row") rfl).2
  obtain ⟨_, _, _, _, _, h2⟩ := (h.2 2 (cR, .object "PrinterRows$Row") rfl).2
  exact Option.some.inj (h1.symm.trans h2)
theorem kJ {D : va_G} {cI cP cR cJ cA : ClassId} {s : State} (h : va_K D vwCl (tyL cI cP cR cJ ++ [(cA, .long)]) s) : cA = cJ :=
  Option.some.inj (((h.2 4 (cA, .long) rfl).2 : s.vm.findClass _ = some cA).symm.trans (h.2 3 (cJ, .long) rfl).2)
/-- a contract's start: no heap -/
def pu (av : List Value) : Array Value → State → Prop := va_Pc av (fun _ => True)
theorem pu_pre {s : State} {H : Heap} {As : List Value} : PreS s H (pu As) As := ⟨fun _ _ _ _ q => q, fun _ _ _ => ⟨rfl, trivial⟩⟩
/-- a contract's start: it reads alone -/
def ro (av : List Value) (D : va_G) (cI cP cR cJ : ClassId) (ws : va_W) : Array Value → State → Prop := va_Pc av (fun U => va_P D vwCl ws U.heap ∧ KK D cI cP cR cJ U)
theorem ro_blind {av : List Value} {D : va_G} {cI cP cR cJ : ClassId} {ws : va_W} : FrameBlind (ro av D cI cP cR cJ ws) := fun a U g mk q => ⟨q.1, q.2.1, KK.same (s := U) (U := U.calling g mk a) rfl q.2.2⟩
theorem ro_pre {s : State} {H : Heap} {D : va_G} {cI cP cR cJ : ClassId} {ws : va_W} {As : List Value} {a ci : Nat} {fs : List Value} {q : vw_C} (hK : KK D cI cP cR cJ s) (hP : va_P D vwCl ws H) (hc : vwCl[ci]? = some q) (q0 : Nat) (he : ws[q0]? = some (a, .inr (ci, fs))) : PreV s H q.1 a (ro (.ref a :: As) D cI cP cR cJ ws) As :=
  ⟨ro_blind, va_recv hK.1 hP hc he, fun U hU hW => ⟨rfl, by rw [hU]; exact hP, KK.warm hW hK⟩⟩
theorem ro_preS {s : State} {H : Heap} {D : va_G} {cI cP cR cJ : ClassId} {ws : va_W} {As : List Value} (hK : KK D cI cP cR cJ s) (hP : va_P D vwCl ws H) : PreS s H (ro As D cI cP cR cJ ws) As :=
  ⟨ro_blind, fun U hU hW => ⟨rfl, by rw [hU]; exact hP, KK.warm hW hK⟩⟩
/-- a contract's start: it writes, and may make cells -/
def mu (av : List Value) (D : va_G) (cI cP cR cJ : ClassId) (ws : va_W) (sz : Nat) : Array Value → State → Prop := va_Pc av (fun U => U.heap.size = sz ∧ va_P D vwCl ws U.heap ∧ KK D cI cP cR cJ U ∧ va_D (fun _ => True) ws)
theorem mu_blind {av : List Value} {D : va_G} {cI cP cR cJ : ClassId} {ws : va_W} {sz : Nat} : FrameBlind (mu av D cI cP cR cJ ws sz) := fun a U g mk q => ⟨q.1, q.2.1, q.2.2.1, KK.same (s := U) (U := U.calling g mk a) rfl q.2.2.2.1, q.2.2.2.2⟩
theorem mu_pre {s : State} {H : Heap} {D : va_G} {cI cP cR cJ : ClassId} {ws : va_W} {A0 : Nat → Prop} {As : List Value} {a ci : Nat} {fs : List Value} {q : vw_C} (hK : KK D cI cP cR cJ s) (hP : va_P D vwCl ws H) (hD : va_D A0 ws) (hc : vwCl[ci]? = some q) (q0 : Nat) (he : ws[q0]? = some (a, .inr (ci, fs))) : PreV s H q.1 a (mu (.ref a :: As) D cI cP cR cJ ws H.size) As :=
  ⟨mu_blind, va_recv hK.1 hP hc he, fun U hU hW => ⟨rfl, by rw [hU], by rw [hU]; exact hP, KK.warm hW hK, hD.weaken (fun _ _ _ _ => trivial)⟩⟩
theorem mu_preS {s : State} {H : Heap} {D : va_G} {cI cP cR cJ : ClassId} {ws : va_W} {A0 : Nat → Prop} {As : List Value} (hK : KK D cI cP cR cJ s) (hP : va_P D vwCl ws H) (hD : va_D A0 ws) : PreS s H (mu As D cI cP cR cJ ws H.size) As :=
  ⟨mu_blind, fun U hU hW => ⟨rfl, by rw [hU], by rw [hU]; exact hP, KK.warm hW hK, hD.weaken (fun _ _ _ _ => trivial)⟩⟩
/-- its end -/
def qi {S : Type} (D : va_G) (post : Int32 → S → Prop) (ww : S → va_W) (A : Nat → Prop) : Array Value → State → Outcome → State → Prop := va_Qi post (fun u t => va_P D vwCl (ww u) t.heap ∧ va_D A (ww u)) A
def qv {S : Type} (D : va_G) (post : S → Prop) (ww : S → va_W) (A : Nat → Prop) : Array Value → State → Outcome → State → Prop := va_Qv post (fun u t => va_P D vwCl (ww u) t.heap ∧ va_D A (ww u)) A
theorem fr_all {A0 : Nat → Prop} {ws : va_W} {H0 H : Heap} {locs : List Loc} (hD : va_D A0 ws) (hS : va_S A0 H0 H locs) (hA : ∀ q, H0.size ≤ q → A0 q) : ∀ q, va_A ws H.size q → A0 q := by
  intro q h
  rcases h with ⟨k, e, h⟩ | h
  · exact hD.2 k _ h
  · exact hA q (Nat.le_trans hS.1 h)
section CQ
variable {p : Program} {l : Launch} {e : Env} {R : Room} {s : State} {m : MethodId} {args : Array Value} {below : List Frame} {meth : Method} {c : Code} {H : Heap} {locs : List Loc} {cells slots : Nat} {Q : State → Prop}
variable {pc : Nat} {ls : Array Slot} {rest st0 : List Value} {a : Array Value} {A0 : Nat → Prop} {H0 : Heap} {mc ms : Nat} {D : va_G} {ws : va_W}
/-- a call that had the whole world -/
theorem callQi {S : Type} {post : Int32 → S → Prop} {ww : S → va_W} (hr : va_Run p l e R s m args below meth c H locs cells slots mc ms (F0 m pc ls st0) rest (qi D post ww (va_A ws H.size) a) (va_A ws H.size)) (hD : va_D A0 ws) (hS : va_S A0 H0 H locs) (hA : ∀ q, H0.size ≤ q → A0 q)
    (kk : ∀ (r : Int32) (u : S) (H1 : Heap) (locs1 : List Loc), post r u → va_P D vwCl (ww u) H1 → va_D A0 (ww u) → va_S A0 H0 H1 locs1 → W p l e R s m args below meth c H1 locs1 (cells + mc) (slots + ms) Q (F0 m (pc + 3) ls (.int r :: rest))) : W p l e R s m args below meth c H locs cells slots Q (F0 m pc ls st0) := by
  have hF := fr_all hD hS hA
  refine va_calli hr hS (fun q _ h => hF q h) hF (fun r u t H1 locs1 ht hvm hw hB hz hk hS1 => ?_)
  obtain ⟨hP1, hD1⟩ := hB
  rw [ht] at hP1
  exact kk r u H1 locs1 hw hP1 (hD1.weaken (fun _ q _ h => hF q.1 h)) hS1
theorem callQv {S : Type} {post : S → Prop} {ww : S → va_W} (hr : va_Run p l e R s m args below meth c H locs cells slots mc ms (F0 m pc ls st0) rest (qv D post ww (va_A ws H.size) a) (va_A ws H.size)) (hD : va_D A0 ws) (hS : va_S A0 H0 H locs) (hA : ∀ q, H0.size ≤ q → A0 q)
    (kk : ∀ (u : S) (H1 : Heap) (locs1 : List Loc), post u → va_P D vwCl (ww u) H1 → va_D A0 (ww u) → va_S A0 H0 H1 locs1 → W p l e R s m args below meth c H1 locs1 (cells + mc) (slots + ms) Q (F0 m (pc + 3) ls rest)) : W p l e R s m args below meth c H locs cells slots Q (F0 m pc ls st0) := by
  have hF := fr_all hD hS hA
  refine va_callv hr hS (fun q _ h => hF q h) hF (fun u t H1 locs1 ht hvm hw hB hz hk hS1 => ?_)
  obtain ⟨hP1, hD1⟩ := hB
  rw [ht] at hP1
  exact kk u H1 locs1 hw hP1 (hD1.weaken (fun _ q _ h => hF q.1 h)) hS1
end CQ
/-- a truth value as an int -/
def zb (b : Bool) : Int32 := if b then 1 else 0
theorem zb_nar (b : Bool) : narrow .boolean (.int (zb b)) = .int (zb b) := by cases b <;> decide +kernel
theorem zb_fit (b : Bool) : fits .boolean (.int (zb b)) = true := by cases b <;> decide +kernel
/-- the printer's own cells -/
def xF (L C : Int32) (aC aT aR : Nat) (rl : Int32) (aP : Nat) (bg on st mk rp sp sc sk fa : Int32) : List Value := [.int L, .int C, .ref aC, .ref aT, .ref aR, .int rl, .ref aP, .int bg, .int on, .int st, .int mk, .int rp, .int sp, .int sc, .int sk, .int fa]
def wX (cI cP : ClassId) (x aC aT aR aP : Nat) (L C rl bg on st mk rp sp sc sk fa : Int32) (ch tr rc : Nat → Int32) (pg : Nat → Option Nat) (pl : va_W) : va_W :=
  (x, .inr (3, xF L C aC aT aR rl aP bg on st mk rp sp sc sk fa)) :: (aC, .inl (cI, 13, .inl ch)) :: (aT, .inl (cI, 256, .inl tr)) :: (aR, .inl (cI, 200, .inl rc)) :: (aP, .inl (cP, 40, .inr (.inr (.inr (.inr pg))))) :: pl
/-- numbers -/
theorem i32 (x : Int32) : -2147483648 ≤ x.toInt ∧ x.toInt ≤ 2147483647 := ⟨Int32.le_toInt x, Int32.toInt_le x⟩
theorem i32_add (x y : Int32) : (x + y).toInt = x.toInt + y.toInt ∨ (x + y).toInt = x.toInt + y.toInt - 4294967296 ∨ (x + y).toInt = x.toInt + y.toInt + 4294967296 := by
  rw [Int32.toInt_add]
  have h1 := i32 x
  have h2 := i32 y
  simp only [Int.bmod]
  omega
theorem i32_sub (x y : Int32) : (x - y).toInt = x.toInt - y.toInt ∨ (x - y).toInt = x.toInt - y.toInt - 4294967296 ∨ (x - y).toInt = x.toInt - y.toInt + 4294967296 := by
  rw [Int32.toInt_sub]
  have h1 := i32 x
  have h2 := i32 y
  simp only [Int.bmod]
  omega
theorem i32_ext {x y : Int32} (h : x.toInt = y.toInt) : x = y := Int32.toInt_inj.mp h
theorem i32_lt {x y : Int32} : x < y ↔ x.toInt < y.toInt := Int32.lt_iff_toInt_lt
theorem i32_le {x y : Int32} : x ≤ y ↔ x.toInt ≤ y.toInt := Int32.le_iff_toInt_le
theorem i32_eq {x y : Int32} : x = y ↔ x.toInt = y.toInt := Int32.toInt_inj.symm
end
section
/-! the pure parts of the class -/
def isCh (c : Int32) : Bool := if c < 1 then false else if 12 < c then false else true
def isSg (c : Int32) : Bool := if c < 32 then false else if 255 < c then false else true
def mx (a b : Int32) : Int32 := if a < b then b else a
def isPl (c : Int32) : Bool := if c < 256 then false else if 259 < c then false else true
def isSk (c : Int32) : Bool := if zb (isPl c) = 0 then isCh (c - 272) else true
def chOf (c : Int32) : Int32 := if c < 49 then (if c < 65 then (if zb (isCh (c - 272)) = 0 then -1 else c - 272) else if 67 < c then (if zb (isCh (c - 272)) = 0 then -1 else c - 272) else c - 65 + 10) else if 57 < c then (if c < 65 then (if zb (isCh (c - 272)) = 0 then -1 else c - 272) else if 67 < c then (if zb (isCh (c - 272)) = 0 then -1 else c - 272) else c - 65 + 10) else c - 48
def lnOf (c : Int32) : Int32 := if zb (isPl c) = 0 then (if c = 43 then 0 else if c = 45 then 3 else if c = 48 then 2 else 1) else c - 256
def hdTo (a b : Int32) : Int32 := mx 1 (if b < a then b else a)
def fMod (a b : Int32) : Int32 := if 0 ≤ a ^^^ b then a - a / b * b else if a - a / b * b = 0 then a - a / b * b else a - a / b * b + b

set_option maxHeartbeats 4000000 in
set_option maxRecDepth 100000 in
theorem c_X2_isChannel (l : Launch) (c0 : Int32) : Met l yX2_isChannel wsX2_isChannel ({ frames := 0, cells := 0, slots := 0, locals := 0 }) (pu [.int c0]) (vp_Si (fun r => r = zb (isCh c0))) 0 0 (fun _ => False) := by
  refine Met.ofW (cc := cX2_isChannel) (maxL := 1) (ret := (some .boolean)) (by decide) rfl ?_
  intro p e s m args below meth c s₁ B hml hv
  obtain ⟨rfl, -⟩ := hv
  have hx := B.exec
  have hb := B.bytes
  have hr := B.returns
  have hts := atoms_spec (ws := wsX2_isChannel) B.pre
  have hown : s.vm.findClass RX2 = some m.cls := findClass_of_methodNamed B.named
  have hlocks := B.notSynchronized
  have hl := lv_entry ([.int c0]) (n := 1) (Nat.le_of_ble_eq_true rfl)
  rw [lg_entry_eq]
  generalize (lg_sl ([.int c0]) ++ List.replicate (1 - (lg_sl ([.int c0])).length) Slot.unset).toArray = ls at hl ⊢
  have hl : lv_has ls 1 [(0, .int c0)] := hl
  refine lv_iload_n hx hb dX2_isChannel_0 rfl (lv_at hl 0 rfl) ?_
  refine lv_iconst (v := 1) hx hb dX2_isChannel_1 (by decide +kernel) ?_
  refine lv_icmp_lt (tgt := 15) hx hb dX2_isChannel_2 (by decide) (fun c_2 => ?_) (fun c_2 => ?_)
  ·
    refine lv_iconst (v := 0) hx hb dX2_isChannel_15 (by decide +kernel) ?_
    exact W.zret (v := 0) hx hb hr (by decide +kernel) (fun t ht hW => ⟨_, rfl, by simp [isCh, zb, c_2], ht⟩) (fun q h => by cases h) dX2_isChannel_16
  ·
    refine lv_iload_n hx hb dX2_isChannel_5 rfl (lv_at hl 0 rfl) ?_
    refine lv_bipush (v := 12) hx hb dX2_isChannel_6 (by decide +kernel) ?_
    refine lv_icmp_gt (tgt := 15) hx hb dX2_isChannel_8 (by decide) (fun c_8 => ?_) (fun c_8 => ?_)
    ·
      refine lv_iconst (v := 0) hx hb dX2_isChannel_15 (by decide +kernel) ?_
      exact W.zret (v := 0) hx hb hr (by decide +kernel) (fun t ht hW => ⟨_, rfl, by simp [isCh, zb, c_2, c_8], ht⟩) (fun q h => by cases h) dX2_isChannel_16
    ·
      refine lv_iconst (v := 1) hx hb dX2_isChannel_11 (by decide +kernel) ?_
      refine lv_goto (tgt := 16) hx hb dX2_isChannel_12 (by decide) ?_
      exact W.zret (v := 1) hx hb hr (by decide +kernel) (fun t ht hW => ⟨_, rfl, by simp [isCh, zb, c_2, c_8], ht⟩) (fun q h => by cases h) dX2_isChannel_16

set_option maxHeartbeats 4000000 in
set_option maxRecDepth 100000 in
theorem c_X2_isSign (l : Launch) (c0 : Int32) : Met l yX2_isSign wsX2_isSign ({ frames := 0, cells := 0, slots := 0, locals := 0 }) (pu [.int c0]) (vp_Si (fun r => r = zb (isSg c0))) 0 0 (fun _ => False) := by
  refine Met.ofW (cc := cX2_isSign) (maxL := 1) (ret := (some .boolean)) (by decide) rfl ?_
  intro p e s m args below meth c s₁ B hml hv
  obtain ⟨rfl, -⟩ := hv
  have hx := B.exec
  have hb := B.bytes
  have hr := B.returns
  have hts := atoms_spec (ws := wsX2_isSign) B.pre
  have hown : s.vm.findClass RX2 = some m.cls := findClass_of_methodNamed B.named
  have hlocks := B.notSynchronized
  have hl := lv_entry ([.int c0]) (n := 1) (Nat.le_of_ble_eq_true rfl)
  rw [lg_entry_eq]
  generalize (lg_sl ([.int c0]) ++ List.replicate (1 - (lg_sl ([.int c0])).length) Slot.unset).toArray = ls at hl ⊢
  have hl : lv_has ls 1 [(0, .int c0)] := hl
  refine lv_iload_n hx hb dX2_isSign_0 rfl (lv_at hl 0 rfl) ?_
  refine lv_bipush (v := 32) hx hb dX2_isSign_1 (by decide +kernel) ?_
  refine lv_icmp_lt (tgt := 17) hx hb dX2_isSign_3 (by decide) (fun c_3 => ?_) (fun c_3 => ?_)
  ·
    refine lv_iconst (v := 0) hx hb dX2_isSign_17 (by decide +kernel) ?_
    exact W.zret (v := 0) hx hb hr (by decide +kernel) (fun t ht hW => ⟨_, rfl, by simp [isSg, zb, c_3], ht⟩) (fun q h => by cases h) dX2_isSign_18
  ·
    refine lv_iload_n hx hb dX2_isSign_6 rfl (lv_at hl 0 rfl) ?_
    refine lv_sipush (v := 255) hx hb dX2_isSign_7 (by decide +kernel) ?_
    refine lv_icmp_gt (tgt := 17) hx hb dX2_isSign_10 (by decide) (fun c_10 => ?_) (fun c_10 => ?_)
    ·
      refine lv_iconst (v := 0) hx hb dX2_isSign_17 (by decide +kernel) ?_
      exact W.zret (v := 0) hx hb hr (by decide +kernel) (fun t ht hW => ⟨_, rfl, by simp [isSg, zb, c_3, c_10], ht⟩) (fun q h => by cases h) dX2_isSign_18
    ·
      refine lv_iconst (v := 1) hx hb dX2_isSign_13 (by decide +kernel) ?_
      refine lv_goto (tgt := 18) hx hb dX2_isSign_14 (by decide) ?_
      exact W.zret (v := 1) hx hb hr (by decide +kernel) (fun t ht hW => ⟨_, rfl, by simp [isSg, zb, c_3, c_10], ht⟩) (fun q h => by cases h) dX2_isSign_18

set_option maxHeartbeats 4000000 in
set_option maxRecDepth 100000 in
theorem c_X2_isPlainSecondKind (l : Launch) (c0 : Int32) : Met l yX2_isPlainSecondKind wsX2_isPlainSecondKind ({ frames := 0, cells := 0, slots := 0, locals := 0 }) (pu [.int c0]) (vp_Si (fun r => r = zb (isPl c0))) 0 0 (fun _ => False) := by
  refine Met.ofW (cc := cX2_isPlainSecondKind) (maxL := 1) (ret := (some .boolean)) (by decide) rfl ?_
  intro p e s m args below meth c s₁ B hml hv
  obtain ⟨rfl, -⟩ := hv
  have hx := B.exec
  have hb := B.bytes
  have hr := B.returns
  have hts := atoms_spec (ws := wsX2_isPlainSecondKind) B.pre
  have hown : s.vm.findClass RX2 = some m.cls := findClass_of_methodNamed B.named
  have hlocks := B.notSynchronized
  have hl := lv_entry ([.int c0]) (n := 1) (Nat.le_of_ble_eq_true rfl)
  rw [lg_entry_eq]
  generalize (lg_sl ([.int c0]) ++ List.replicate (1 - (lg_sl ([.int c0])).length) Slot.unset).toArray = ls at hl ⊢
  have hl : lv_has ls 1 [(0, .int c0)] := hl
  refine lv_iload_n hx hb dX2_isPlainSecondKind_0 rfl (lv_at hl 0 rfl) ?_
  refine lv_sipush (v := 256) hx hb dX2_isPlainSecondKind_1 (by decide +kernel) ?_
  refine lv_icmp_lt (tgt := 18) hx hb dX2_isPlainSecondKind_4 (by decide) (fun c_4 => ?_) (fun c_4 => ?_)
  ·
    refine lv_iconst (v := 0) hx hb dX2_isPlainSecondKind_18 (by decide +kernel) ?_
    exact W.zret (v := 0) hx hb hr (by decide +kernel) (fun t ht hW => ⟨_, rfl, by simp [isPl, zb, c_4], ht⟩) (fun q h => by cases h) dX2_isPlainSecondKind_19
  ·
    refine lv_iload_n hx hb dX2_isPlainSecondKind_7 rfl (lv_at hl 0 rfl) ?_
    refine lv_sipush (v := 259) hx hb dX2_isPlainSecondKind_8 (by decide +kernel) ?_
    refine lv_icmp_gt (tgt := 18) hx hb dX2_isPlainSecondKind_11 (by decide) (fun c_11 => ?_) (fun c_11 => ?_)
    ·
      refine lv_iconst (v := 0) hx hb dX2_isPlainSecondKind_18 (by decide +kernel) ?_
      exact W.zret (v := 0) hx hb hr (by decide +kernel) (fun t ht hW => ⟨_, rfl, by simp [isPl, zb, c_4, c_11], ht⟩) (fun q h => by cases h) dX2_isPlainSecondKind_19
    ·
      refine lv_iconst (v := 1) hx hb dX2_isPlainSecondKind_14 (by decide +kernel) ?_
      refine lv_goto (tgt := 19) hx hb dX2_isPlainSecondKind_15 (by decide) ?_
      exact W.zret (v := 1) hx hb hr (by decide +kernel) (fun t ht hW => ⟨_, rfl, by simp [isPl, zb, c_4, c_11], ht⟩) (fun q h => by cases h) dX2_isPlainSecondKind_19

set_option maxHeartbeats 4000000 in
set_option maxRecDepth 100000 in
theorem c_X2_darker (l : Launch) (a0 b0 : Int32) : Met l yX2_darker wsX2_darker ({ frames := 1, cells := 0, slots := 0, locals := 13 }) (pu [.int a0, .int b0]) (vp_Si (fun r => r = mx a0 b0)) 0 0 (fun _ => False) := by
  refine Met.ofW (cc := cX2_darker) (maxL := 2) (ret := (some .int)) (by decide) rfl ?_
  intro p e s m args below meth c s₁ B hml hv
  obtain ⟨rfl, -⟩ := hv
  have hx := B.exec
  have hb := B.bytes
  have hr := B.returns
  have hts := atoms_spec (ws := wsX2_darker) B.pre
  have hown : s.vm.findClass RX2 = some m.cls := findClass_of_methodNamed B.named
  have hlocks := B.notSynchronized
  have hl := lv_entry ([.int a0, .int b0]) (n := 2) (Nat.le_of_ble_eq_true rfl)
  rw [lg_entry_eq]
  generalize (lg_sl ([.int a0, .int b0]) ++ List.replicate (2 - (lg_sl ([.int a0, .int b0])).length) Slot.unset).toArray = ls at hl ⊢
  have hl : lv_has ls 2 [(0, .int a0), (1, .int b0)] := hl
  refine lv_iload_n hx hb dX2_darker_0 rfl (lv_at hl 0 rfl) ?_
  refine lv_iload_n hx hb dX2_darker_1 rfl (lv_at hl 1 rfl) ?_
  refine va_mmax hx hb (by rw [hml]; exact hl.1.symm) hown (hts (.methodLink RX2 54 Lib.Math.max.name) (by decide +kernel)) (hts (.static Lib.Math.max.name) (by decide +kernel)) (hts (.initialized "java/lang/Math") (by decide +kernel)) (hts (.code Lib.Math.max.name Lib.Math.max.code 2 (some .int)) (by decide +kernel)) (Nat.le_of_ble_eq_true rfl) (Nat.le_of_ble_eq_true rfl) (Nat.le_of_ble_eq_true rfl) (Nat.le_of_ble_eq_true rfl) dX2_darker_2 ?_
  exact W.iret (v := (if a0 < b0 then b0 else a0)) hx hb hr (fun t ht hW => ⟨_, rfl, by simp [mx], ht⟩) (fun q h => by cases h) dX2_darker_5

set_option maxHeartbeats 4000000 in
set_option maxRecDepth 100000 in
theorem c_X2_heldTo (l : Launch) (a0 b0 : Int32) : Met l yX2_heldTo wsX2_heldTo ({ frames := 1, cells := 0, slots := 0, locals := 14 }) (pu [.int a0, .int b0]) (vp_Si (fun r => r = hdTo a0 b0)) 0 0 (fun _ => False) := by
  refine Met.ofW (cc := cX2_heldTo) (maxL := 2) (ret := (some .int)) (by decide) rfl ?_
  intro p e s m args below meth c s₁ B hml hv
  obtain ⟨rfl, -⟩ := hv
  have hx := B.exec
  have hb := B.bytes
  have hr := B.returns
  have hts := atoms_spec (ws := wsX2_heldTo) B.pre
  have hown : s.vm.findClass RX2 = some m.cls := findClass_of_methodNamed B.named
  have hlocks := B.notSynchronized
  have hl := lv_entry ([.int a0, .int b0]) (n := 2) (Nat.le_of_ble_eq_true rfl)
  rw [lg_entry_eq]
  generalize (lg_sl ([.int a0, .int b0]) ++ List.replicate (2 - (lg_sl ([.int a0, .int b0])).length) Slot.unset).toArray = ls at hl ⊢
  have hl : lv_has ls 2 [(0, .int a0), (1, .int b0)] := hl
  refine lv_iconst (v := 1) hx hb dX2_heldTo_0 (by decide +kernel) ?_
  refine lv_iload_n hx hb dX2_heldTo_1 rfl (lv_at hl 0 rfl) ?_
  refine lv_iload_n hx hb dX2_heldTo_2 rfl (lv_at hl 1 rfl) ?_
  refine va_mmin hx hb (by rw [hml]; exact hl.1.symm) hown (hts (.methodLink RX2 144 Lib.Math.min.name) (by decide +kernel)) (hts (.static Lib.Math.min.name) (by decide +kernel)) (hts (.initialized "java/lang/Math") (by decide +kernel)) (hts (.code Lib.Math.min.name Lib.Math.min.code 2 (some .int)) (by decide +kernel)) (Nat.le_of_ble_eq_true rfl) (Nat.le_of_ble_eq_true rfl) (Nat.le_of_ble_eq_true rfl) (Nat.le_of_ble_eq_true rfl) dX2_heldTo_3 ?_
  refine va_mmax hx hb (by rw [hml]; exact hl.1.symm) hown (hts (.methodLink RX2 54 Lib.Math.max.name) (by decide +kernel)) (hts (.static Lib.Math.max.name) (by decide +kernel)) (hts (.initialized "java/lang/Math") (by decide +kernel)) (hts (.code Lib.Math.max.name Lib.Math.max.code 2 (some .int)) (by decide +kernel)) (Nat.le_of_ble_eq_true rfl) (Nat.le_of_ble_eq_true rfl) (Nat.le_of_ble_eq_true rfl) (Nat.le_of_ble_eq_true rfl) dX2_heldTo_6 ?_
  exact W.iret (v := (if 1 < (if b0 < a0 then b0 else a0) then (if b0 < a0 then b0 else a0) else 1)) hx hb hr (fun t ht hW => ⟨_, rfl, by simp [hdTo, mx], ht⟩) (fun q h => by cases h) dX2_heldTo_9

set_option maxHeartbeats 4000000 in
set_option maxRecDepth 100000 in
theorem c_X2_isSecondKind (l : Launch) (c0 : Int32) : Met l yX2_isSecondKind wsX2_isSecondKind ({ frames := 1, cells := 0, slots := 0, locals := 20 }) (pu [.int c0]) (vp_Si (fun r => r = zb (isSk c0))) 0 0 (fun _ => False) := by
  refine Met.ofW (cc := cX2_isSecondKind) (maxL := 1) (ret := (some .boolean)) (by decide) rfl ?_
  intro p e s m args below meth c s₁ B hml hv
  obtain ⟨rfl, -⟩ := hv
  have hx := B.exec
  have hb := B.bytes
  have hr := B.returns
  have hts := atoms_spec (ws := wsX2_isSecondKind) B.pre
  have hown : s.vm.findClass RX2 = some m.cls := findClass_of_methodNamed B.named
  have hlocks := B.notSynchronized
  have hl := lv_entry ([.int c0]) (n := 1) (Nat.le_of_ble_eq_true rfl)
  rw [lg_entry_eq]
  generalize (lg_sl ([.int c0]) ++ List.replicate (1 - (lg_sl ([.int c0])).length) Slot.unset).toArray = ls at hl ⊢
  have hl : lv_has ls 1 [(0, .int c0)] := hl
  refine lv_iload_n hx hb dX2_isSecondKind_0 rfl (lv_at hl 0 rfl) ?_
  refine vp_callSi (W.runS (As := [.int c0]) (rest := []) ⟨hx, hb, hml, hown, hts⟩ (c_X2_isPlainSecondKind l (c0)) (va_cwS 1 hts gX2_isSecondKind_X2_isPlainSecondKind rfl rfl rfl (by decide +kernel) ⟨(Nat.le_of_ble_eq_true rfl), (Nat.le_of_ble_eq_true rfl)⟩) pu_pre rfl rfl hl.1 rfl (lv_room (Nat.le_of_ble_eq_true rfl)) dX2_isSecondKind_1 ⟨(Nat.le_of_ble_eq_true rfl), (Nat.le_of_ble_eq_true rfl)⟩) (fun r_1 w_1 => ?_)
  subst w_1
  refine lv_if_ne (tgt := 18) hx hb dX2_isSecondKind_4 (by decide) (fun c_4 => ?_) (fun c_4 => ?_)
  ·
    refine lv_iconst (v := 1) hx hb dX2_isSecondKind_18 (by decide +kernel) ?_
    refine lv_goto (tgt := 23) hx hb dX2_isSecondKind_19 (by decide) ?_
    exact W.zret (v := 1) hx hb hr (by decide +kernel) (fun t ht hW => ⟨_, rfl, by unfold isSk; rw [if_neg c_4]; rfl, ht⟩) (fun q h => by cases h) dX2_isSecondKind_23
  ·
    refine lv_iload_n hx hb dX2_isSecondKind_7 rfl (lv_at hl 0 rfl) ?_
    refine lv_sipush (v := 272) hx hb dX2_isSecondKind_8 (by decide +kernel) ?_
    refine lv_isub hx hb dX2_isSecondKind_11 ?_
    refine vp_callSi (W.runS (As := [.int (c0 - 272)]) (rest := []) ⟨hx, hb, hml, hown, hts⟩ (c_X2_isChannel l ((c0 - 272))) (va_cwS 1 hts gX2_isSecondKind_X2_isChannel rfl rfl rfl (by decide +kernel) ⟨(Nat.le_of_ble_eq_true rfl), (Nat.le_of_ble_eq_true rfl)⟩) pu_pre rfl rfl hl.1 rfl (lv_room (Nat.le_of_ble_eq_true rfl)) dX2_isSecondKind_12 ⟨(Nat.le_of_ble_eq_true rfl), (Nat.le_of_ble_eq_true rfl)⟩) (fun r_12 w_12 => ?_)
    subst w_12
    refine lv_if_eq (tgt := 22) hx hb dX2_isSecondKind_15 (by decide) (fun c_15 => ?_) (fun c_15 => ?_)
    ·
      refine lv_iconst (v := 0) hx hb dX2_isSecondKind_22 (by decide +kernel) ?_
      exact W.zret (v := 0) hx hb hr (by decide +kernel) (fun t ht hW => ⟨_, rfl, by unfold isSk; rw [if_pos c_4, c_15], ht⟩) (fun q h => by cases h) dX2_isSecondKind_23
    ·
      refine lv_iconst (v := 1) hx hb dX2_isSecondKind_18 (by decide +kernel) ?_
      refine lv_goto (tgt := 23) hx hb dX2_isSecondKind_19 (by decide) ?_
      exact W.zret (v := 1) hx hb hr (by decide +kernel) (fun t ht hW => ⟨_, rfl, by unfold isSk; rw [if_pos c_4]; cases hq : isCh (c0 - 272) <;> simp [hq, zb] at c_15 ⊢, ht⟩) (fun q h => by cases h) dX2_isSecondKind_23

set_option maxHeartbeats 4000000 in
set_option maxRecDepth 100000 in
theorem c_X2_channelOfCode (l : Launch) (c0 : Int32) : Met l yX2_channelOfCode wsX2_channelOfCode ({ frames := 1, cells := 0, slots := 0, locals := 20 }) (pu [.int c0]) (vp_Si (fun r => r = chOf c0)) 0 0 (fun _ => False) := by
  refine Met.ofW (cc := cX2_channelOfCode) (maxL := 2) (ret := (some .int)) (by decide) rfl ?_
  intro p e s m args below meth c s₁ B hml hv
  obtain ⟨rfl, -⟩ := hv
  have hx := B.exec
  have hb := B.bytes
  have hr := B.returns
  have hts := atoms_spec (ws := wsX2_channelOfCode) B.pre
  have hown : s.vm.findClass RX2 = some m.cls := findClass_of_methodNamed B.named
  have hlocks := B.notSynchronized
  have hl := lv_entry ([.int c0]) (n := 2) (Nat.le_of_ble_eq_true rfl)
  rw [lg_entry_eq]
  generalize (lg_sl ([.int c0]) ++ List.replicate (2 - (lg_sl ([.int c0])).length) Slot.unset).toArray = ls at hl ⊢
  have hl : lv_has ls 2 [(0, .int c0)] := hl
  refine lv_iload_n hx hb dX2_channelOfCode_0 rfl (lv_at hl 0 rfl) ?_
  refine lv_bipush (v := 49) hx hb dX2_channelOfCode_1 (by decide +kernel) ?_
  refine lv_icmp_lt (tgt := 17) hx hb dX2_channelOfCode_3 (by decide) (fun c_3 => ?_) (fun c_3 => ?_)
  ·
    refine lv_iload_n hx hb dX2_channelOfCode_17 rfl (lv_at hl 0 rfl) ?_
    refine lv_bipush (v := 65) hx hb dX2_channelOfCode_18 (by decide +kernel) ?_
    refine lv_icmp_lt (tgt := 37) hx hb dX2_channelOfCode_20 (by decide) (fun c_20 => ?_) (fun c_20 => ?_)
    ·
      refine lv_iload_n hx hb dX2_channelOfCode_37 rfl (lv_at hl 0 rfl) ?_
      refine lv_sipush (v := 272) hx hb dX2_channelOfCode_38 (by decide +kernel) ?_
      refine lv_isub hx hb dX2_channelOfCode_41 ?_
      refine lv_istore_n (lv' := [(1, .int (c0 - 272)), (0, .int c0)]) hx hb dX2_channelOfCode_42 rfl hl (by decide) rfl (fun ls hl => ?_)
      refine lv_iload_n hx hb dX2_channelOfCode_43 rfl (lv_at hl 0 rfl) ?_
      refine vp_callSi (W.runS (As := [.int (c0 - 272)]) (rest := []) ⟨hx, hb, hml, hown, hts⟩ (c_X2_isChannel l ((c0 - 272))) (va_cwS 1 hts gX2_channelOfCode_X2_isChannel rfl rfl rfl (by decide +kernel) ⟨(Nat.le_of_ble_eq_true rfl), (Nat.le_of_ble_eq_true rfl)⟩) pu_pre rfl rfl hl.1 rfl (lv_room (Nat.le_of_ble_eq_true rfl)) dX2_channelOfCode_44 ⟨(Nat.le_of_ble_eq_true rfl), (Nat.le_of_ble_eq_true rfl)⟩) (fun r_44 w_44 => ?_)
      subst w_44
      refine lv_if_eq (tgt := 54) hx hb dX2_channelOfCode_47 (by decide) (fun c_47 => ?_) (fun c_47 => ?_)
      ·
        refine lv_iconst (v := (-1)) hx hb dX2_channelOfCode_54 (by decide +kernel) ?_
        exact W.iret (v := (-1)) hx hb hr (fun t ht hW => ⟨_, rfl, by simp [chOf, c_3, c_20, c_47], ht⟩) (fun q h => by cases h) dX2_channelOfCode_55
      ·
        refine lv_iload_n hx hb dX2_channelOfCode_50 rfl (lv_at hl 0 rfl) ?_
        refine lv_goto (tgt := 55) hx hb dX2_channelOfCode_51 (by decide) ?_
        exact W.iret (v := (c0 - 272)) hx hb hr (fun t ht hW => ⟨_, rfl, by simp [chOf, c_3, c_20, c_47], ht⟩) (fun q h => by cases h) dX2_channelOfCode_55
    ·
      refine lv_iload_n hx hb dX2_channelOfCode_23 rfl (lv_at hl 0 rfl) ?_
      refine lv_bipush (v := 67) hx hb dX2_channelOfCode_24 (by decide +kernel) ?_
      refine lv_icmp_gt (tgt := 37) hx hb dX2_channelOfCode_26 (by decide) (fun c_26 => ?_) (fun c_26 => ?_)
      ·
        refine lv_iload_n hx hb dX2_channelOfCode_37 rfl (lv_at hl 0 rfl) ?_
        refine lv_sipush (v := 272) hx hb dX2_channelOfCode_38 (by decide +kernel) ?_
        refine lv_isub hx hb dX2_channelOfCode_41 ?_
        refine lv_istore_n (lv' := [(1, .int (c0 - 272)), (0, .int c0)]) hx hb dX2_channelOfCode_42 rfl hl (by decide) rfl (fun ls hl => ?_)
        refine lv_iload_n hx hb dX2_channelOfCode_43 rfl (lv_at hl 0 rfl) ?_
        refine vp_callSi (W.runS (As := [.int (c0 - 272)]) (rest := []) ⟨hx, hb, hml, hown, hts⟩ (c_X2_isChannel l ((c0 - 272))) (va_cwS 1 hts gX2_channelOfCode_X2_isChannel rfl rfl rfl (by decide +kernel) ⟨(Nat.le_of_ble_eq_true rfl), (Nat.le_of_ble_eq_true rfl)⟩) pu_pre rfl rfl hl.1 rfl (lv_room (Nat.le_of_ble_eq_true rfl)) dX2_channelOfCode_44 ⟨(Nat.le_of_ble_eq_true rfl), (Nat.le_of_ble_eq_true rfl)⟩) (fun r_44 w_44 => ?_)
        subst w_44
        refine lv_if_eq (tgt := 54) hx hb dX2_channelOfCode_47 (by decide) (fun c_47 => ?_) (fun c_47 => ?_)
        ·
          refine lv_iconst (v := (-1)) hx hb dX2_channelOfCode_54 (by decide +kernel) ?_
          exact W.iret (v := (-1)) hx hb hr (fun t ht hW => ⟨_, rfl, by simp [chOf, c_3, c_20, c_26, c_47], ht⟩) (fun q h => by cases h) dX2_channelOfCode_55
        ·
          refine lv_iload_n hx hb dX2_channelOfCode_50 rfl (lv_at hl 0 rfl) ?_
          refine lv_goto (tgt := 55) hx hb dX2_channelOfCode_51 (by decide) ?_
          exact W.iret (v := (c0 - 272)) hx hb hr (fun t ht hW => ⟨_, rfl, by simp [chOf, c_3, c_20, c_26, c_47], ht⟩) (fun q h => by cases h) dX2_channelOfCode_55
      ·
        refine lv_iload_n hx hb dX2_channelOfCode_29 rfl (lv_at hl 0 rfl) ?_
        refine lv_bipush (v := 65) hx hb dX2_channelOfCode_30 (by decide +kernel) ?_
        refine lv_isub hx hb dX2_channelOfCode_32 ?_
        refine lv_bipush (v := 10) hx hb dX2_channelOfCode_33 (by decide +kernel) ?_
        refine lv_iadd hx hb dX2_channelOfCode_35 ?_
        exact W.iret (v := ((c0 - 65) + 10)) hx hb hr (fun t ht hW => ⟨_, rfl, by simp [chOf, c_3, c_20, c_26], ht⟩) (fun q h => by cases h) dX2_channelOfCode_36
  ·
    refine lv_iload_n hx hb dX2_channelOfCode_6 rfl (lv_at hl 0 rfl) ?_
    refine lv_bipush (v := 57) hx hb dX2_channelOfCode_7 (by decide +kernel) ?_
    refine lv_icmp_gt (tgt := 17) hx hb dX2_channelOfCode_9 (by decide) (fun c_9 => ?_) (fun c_9 => ?_)
    ·
      refine lv_iload_n hx hb dX2_channelOfCode_17 rfl (lv_at hl 0 rfl) ?_
      refine lv_bipush (v := 65) hx hb dX2_channelOfCode_18 (by decide +kernel) ?_
      refine lv_icmp_lt (tgt := 37) hx hb dX2_channelOfCode_20 (by decide) (fun c_20 => ?_) (fun c_20 => ?_)
      ·
        refine lv_iload_n hx hb dX2_channelOfCode_37 rfl (lv_at hl 0 rfl) ?_
        refine lv_sipush (v := 272) hx hb dX2_channelOfCode_38 (by decide +kernel) ?_
        refine lv_isub hx hb dX2_channelOfCode_41 ?_
        refine lv_istore_n (lv' := [(1, .int (c0 - 272)), (0, .int c0)]) hx hb dX2_channelOfCode_42 rfl hl (by decide) rfl (fun ls hl => ?_)
        refine lv_iload_n hx hb dX2_channelOfCode_43 rfl (lv_at hl 0 rfl) ?_
        refine vp_callSi (W.runS (As := [.int (c0 - 272)]) (rest := []) ⟨hx, hb, hml, hown, hts⟩ (c_X2_isChannel l ((c0 - 272))) (va_cwS 1 hts gX2_channelOfCode_X2_isChannel rfl rfl rfl (by decide +kernel) ⟨(Nat.le_of_ble_eq_true rfl), (Nat.le_of_ble_eq_true rfl)⟩) pu_pre rfl rfl hl.1 rfl (lv_room (Nat.le_of_ble_eq_true rfl)) dX2_channelOfCode_44 ⟨(Nat.le_of_ble_eq_true rfl), (Nat.le_of_ble_eq_true rfl)⟩) (fun r_44 w_44 => ?_)
        subst w_44
        refine lv_if_eq (tgt := 54) hx hb dX2_channelOfCode_47 (by decide) (fun c_47 => ?_) (fun c_47 => ?_)
        ·
          refine lv_iconst (v := (-1)) hx hb dX2_channelOfCode_54 (by decide +kernel) ?_
          exact W.iret (v := (-1)) hx hb hr (fun t ht hW => ⟨_, rfl, by simp [chOf, c_3, c_9, c_20, c_47], ht⟩) (fun q h => by cases h) dX2_channelOfCode_55
        ·
          refine lv_iload_n hx hb dX2_channelOfCode_50 rfl (lv_at hl 0 rfl) ?_
          refine lv_goto (tgt := 55) hx hb dX2_channelOfCode_51 (by decide) ?_
          exact W.iret (v := (c0 - 272)) hx hb hr (fun t ht hW => ⟨_, rfl, by simp [chOf, c_3, c_9, c_20, c_47], ht⟩) (fun q h => by cases h) dX2_channelOfCode_55
      ·
        refine lv_iload_n hx hb dX2_channelOfCode_23 rfl (lv_at hl 0 rfl) ?_
        refine lv_bipush (v := 67) hx hb dX2_channelOfCode_24 (by decide +kernel) ?_
        refine lv_icmp_gt (tgt := 37) hx hb dX2_channelOfCode_26 (by decide) (fun c_26 => ?_) (fun c_26 => ?_)
        ·
          refine lv_iload_n hx hb dX2_channelOfCode_37 rfl (lv_at hl 0 rfl) ?_
          refine lv_sipush (v := 272) hx hb dX2_channelOfCode_38 (by decide +kernel) ?_
          refine lv_isub hx hb dX2_channelOfCode_41 ?_
          refine lv_istore_n (lv' := [(1, .int (c0 - 272)), (0, .int c0)]) hx hb dX2_channelOfCode_42 rfl hl (by decide) rfl (fun ls hl => ?_)
          refine lv_iload_n hx hb dX2_channelOfCode_43 rfl (lv_at hl 0 rfl) ?_
          refine vp_callSi (W.runS (As := [.int (c0 - 272)]) (rest := []) ⟨hx, hb, hml, hown, hts⟩ (c_X2_isChannel l ((c0 - 272))) (va_cwS 1 hts gX2_channelOfCode_X2_isChannel rfl rfl rfl (by decide +kernel) ⟨(Nat.le_of_ble_eq_true rfl), (Nat.le_of_ble_eq_true rfl)⟩) pu_pre rfl rfl hl.1 rfl (lv_room (Nat.le_of_ble_eq_true rfl)) dX2_channelOfCode_44 ⟨(Nat.le_of_ble_eq_true rfl), (Nat.le_of_ble_eq_true rfl)⟩) (fun r_44 w_44 => ?_)
          subst w_44
          refine lv_if_eq (tgt := 54) hx hb dX2_channelOfCode_47 (by decide) (fun c_47 => ?_) (fun c_47 => ?_)
          ·
            refine lv_iconst (v := (-1)) hx hb dX2_channelOfCode_54 (by decide +kernel) ?_
            exact W.iret (v := (-1)) hx hb hr (fun t ht hW => ⟨_, rfl, by simp [chOf, c_3, c_9, c_20, c_26, c_47], ht⟩) (fun q h => by cases h) dX2_channelOfCode_55
          ·
            refine lv_iload_n hx hb dX2_channelOfCode_50 rfl (lv_at hl 0 rfl) ?_
            refine lv_goto (tgt := 55) hx hb dX2_channelOfCode_51 (by decide) ?_
            exact W.iret (v := (c0 - 272)) hx hb hr (fun t ht hW => ⟨_, rfl, by simp [chOf, c_3, c_9, c_20, c_26, c_47], ht⟩) (fun q h => by cases h) dX2_channelOfCode_55
        ·
          refine lv_iload_n hx hb dX2_channelOfCode_29 rfl (lv_at hl 0 rfl) ?_
          refine lv_bipush (v := 65) hx hb dX2_channelOfCode_30 (by decide +kernel) ?_
          refine lv_isub hx hb dX2_channelOfCode_32 ?_
          refine lv_bipush (v := 10) hx hb dX2_channelOfCode_33 (by decide +kernel) ?_
          refine lv_iadd hx hb dX2_channelOfCode_35 ?_
          exact W.iret (v := ((c0 - 65) + 10)) hx hb hr (fun t ht hW => ⟨_, rfl, by simp [chOf, c_3, c_9, c_20, c_26], ht⟩) (fun q h => by cases h) dX2_channelOfCode_36
    ·
      refine lv_iload_n hx hb dX2_channelOfCode_12 rfl (lv_at hl 0 rfl) ?_
      refine lv_bipush (v := 48) hx hb dX2_channelOfCode_13 (by decide +kernel) ?_
      refine lv_isub hx hb dX2_channelOfCode_15 ?_
      exact W.iret (v := (c0 - 48)) hx hb hr (fun t ht hW => ⟨_, rfl, by simp [chOf, c_3, c_9], ht⟩) (fun q h => by cases h) dX2_channelOfCode_16

set_option maxHeartbeats 4000000 in
set_option maxRecDepth 100000 in
theorem c_X2_linesOfCode (l : Launch) (c0 : Int32) : Met l yX2_linesOfCode wsX2_linesOfCode ({ frames := 1, cells := 0, slots := 0, locals := 20 }) (pu [.int c0]) (vp_Si (fun r => r = lnOf c0)) 0 0 (fun _ => False) := by
  refine Met.ofW (cc := cX2_linesOfCode) (maxL := 1) (ret := (some .int)) (by decide) rfl ?_
  intro p e s m args below meth c s₁ B hml hv
  obtain ⟨rfl, -⟩ := hv
  have hx := B.exec
  have hb := B.bytes
  have hr := B.returns
  have hts := atoms_spec (ws := wsX2_linesOfCode) B.pre
  have hown : s.vm.findClass RX2 = some m.cls := findClass_of_methodNamed B.named
  have hlocks := B.notSynchronized
  have hl := lv_entry ([.int c0]) (n := 1) (Nat.le_of_ble_eq_true rfl)
  rw [lg_entry_eq]
  generalize (lg_sl ([.int c0]) ++ List.replicate (1 - (lg_sl ([.int c0])).length) Slot.unset).toArray = ls at hl ⊢
  have hl : lv_has ls 1 [(0, .int c0)] := hl
  refine lv_iload_n hx hb dX2_linesOfCode_0 rfl (lv_at hl 0 rfl) ?_
  refine vp_callSi (W.runS (As := [.int c0]) (rest := []) ⟨hx, hb, hml, hown, hts⟩ (c_X2_isPlainSecondKind l (c0)) (va_cwS 1 hts gX2_linesOfCode_X2_isPlainSecondKind rfl rfl rfl (by decide +kernel) ⟨(Nat.le_of_ble_eq_true rfl), (Nat.le_of_ble_eq_true rfl)⟩) pu_pre rfl rfl hl.1 rfl (lv_room (Nat.le_of_ble_eq_true rfl)) dX2_linesOfCode_1 ⟨(Nat.le_of_ble_eq_true rfl), (Nat.le_of_ble_eq_true rfl)⟩) (fun r_1 w_1 => ?_)
  subst w_1
  refine lv_if_eq (tgt := 13) hx hb dX2_linesOfCode_4 (by decide) (fun c_4 => ?_) (fun c_4 => ?_)
  ·
    refine lv_iload_n hx hb dX2_linesOfCode_13 rfl (lv_at hl 0 rfl) ?_
    by_cases k_43 : c0 = 43
    ·
      refine lv_lookup (off := 34) (tgt := 48) hx hb dX2_linesOfCode_14 (by decide +kernel) (by rw [k_43]; decide +kernel) (by decide) ?_
      refine lv_iconst (v := 0) hx hb dX2_linesOfCode_48 (by decide +kernel) ?_
      exact W.iret (v := 0) hx hb hr (fun t ht hW => ⟨_, rfl, by unfold lnOf; rw [if_pos c_4, if_pos k_43], ht⟩) (fun q h => by cases h) dX2_linesOfCode_49
    by_cases k_45 : c0 = 45
    ·
      refine lv_lookup (off := 38) (tgt := 52) hx hb dX2_linesOfCode_14 (by decide +kernel) (by rw [k_45]; decide +kernel) (by decide) ?_
      refine lv_iconst (v := 3) hx hb dX2_linesOfCode_52 (by decide +kernel) ?_
      exact W.iret (v := 3) hx hb hr (fun t ht hW => ⟨_, rfl, by unfold lnOf; rw [if_pos c_4, if_neg k_43, if_pos k_45], ht⟩) (fun q h => by cases h) dX2_linesOfCode_53
    by_cases k_48 : c0 = 48
    ·
      refine lv_lookup (off := 36) (tgt := 50) hx hb dX2_linesOfCode_14 (by decide +kernel) (by rw [k_48]; decide +kernel) (by decide) ?_
      refine lv_iconst (v := 2) hx hb dX2_linesOfCode_50 (by decide +kernel) ?_
      exact W.iret (v := 2) hx hb hr (fun t ht hW => ⟨_, rfl, by unfold lnOf; rw [if_pos c_4, if_neg k_43, if_neg k_45, if_pos k_48], ht⟩) (fun q h => by cases h) dX2_linesOfCode_51
    refine lv_lookup (off := 40) (tgt := 54) hx hb dX2_linesOfCode_14 (by decide +kernel) (by rw [lv_osw k_43 (a := 43) (by decide +kernel), lv_osw k_45 (a := 45) (by decide +kernel), lv_osw k_48 (a := 48) (by decide +kernel)]; rfl) (by decide) ?_
    refine lv_iconst (v := 1) hx hb dX2_linesOfCode_54 (by decide +kernel) ?_
    exact W.iret (v := 1) hx hb hr (fun t ht hW => ⟨_, rfl, by unfold lnOf; rw [if_pos c_4, if_neg k_43, if_neg k_45, if_neg k_48], ht⟩) (fun q h => by cases h) dX2_linesOfCode_55
  ·
    refine lv_iload_n hx hb dX2_linesOfCode_7 rfl (lv_at hl 0 rfl) ?_
    refine lv_sipush (v := 256) hx hb dX2_linesOfCode_8 (by decide +kernel) ?_
    refine lv_isub hx hb dX2_linesOfCode_11 ?_
    exact W.iret (v := (c0 - 256)) hx hb hr (fun t ht hW => ⟨_, rfl, by unfold lnOf; rw [if_neg c_4], ht⟩) (fun q h => by cases h) dX2_linesOfCode_12

set_option maxHeartbeats 4000000 in
set_option maxRecDepth 100000 in
theorem c_J9_floorMod_7cf53 (l : Launch) (a0 b0 : Int32) (hb0 : ¬ b0 = 0) : Met l yJ9_floorMod_7cf53 wsJ9_floorMod_7cf53 ({ frames := 0, cells := 0, slots := 0, locals := 0 }) (pu [.int a0, .int b0]) (vp_Si (fun r => r = fMod a0 b0)) 0 0 (fun _ => False) := by
  refine va_MetF (cc := cJ9_floorMod_7cf53) (maxL := 3) (ret := (some .int)) (by decide +kernel) rfl ?_
  intro p e s m args below meth c s₁ B hml hv
  obtain ⟨rfl, -⟩ := hv
  have hx := B.exec
  have hb := B.bytes
  have hr := B.returns
  have hts := atoms_spec (ws := wsJ9_floorMod_7cf53) B.pre
  have hown : s.vm.findClass RJ9 = some m.cls := findClass_of_methodNamed B.named
  have hlocks := B.notSynchronized
  have hl := lv_entry ([.int a0, .int b0]) (n := 3) (Nat.le_of_ble_eq_true rfl)
  rw [lg_entry_eq]
  generalize (lg_sl ([.int a0, .int b0]) ++ List.replicate (3 - (lg_sl ([.int a0, .int b0])).length) Slot.unset).toArray = ls at hl ⊢
  have hl : lv_has ls 3 [(0, .int a0), (1, .int b0)] := hl
  refine lv_iload_n hx hb dJ9_floorMod_7cf53_0 rfl (lv_at hl 0 rfl) ?_
  refine lv_iload_n hx hb dJ9_floorMod_7cf53_1 rfl (lv_at hl 1 rfl) ?_
  refine lv_irem hx hb dJ9_floorMod_7cf53_2 hb0 ?_
  refine lv_istore_n (lv' := [(2, .int (a0 - a0 / b0 * b0)), (0, .int a0), (1, .int b0)]) hx hb dJ9_floorMod_7cf53_3 rfl hl (by decide) rfl (fun ls hl => ?_)
  refine lv_iload_n hx hb dJ9_floorMod_7cf53_4 rfl (lv_at hl 1 rfl) ?_
  refine lv_iload_n hx hb dJ9_floorMod_7cf53_5 rfl (lv_at hl 2 rfl) ?_
  refine lv_ixor hx hb dJ9_floorMod_7cf53_6 ?_
  refine lv_if_ge (tgt := 18) hx hb dJ9_floorMod_7cf53_7 (by decide) (fun c_7 => ?_) (fun c_7 => ?_)
  ·
    refine lv_iload_n hx hb dJ9_floorMod_7cf53_18 rfl (lv_at hl 0 rfl) ?_
    exact W.iret (v := (a0 - a0 / b0 * b0)) hx hb hr (fun t ht hW => ⟨_, rfl, by simp [fMod, c_7], ht⟩) (fun q h => by cases h) dJ9_floorMod_7cf53_19
  ·
    refine lv_iload_n hx hb dJ9_floorMod_7cf53_10 rfl (lv_at hl 0 rfl) ?_
    refine lv_if_eq (tgt := 18) hx hb dJ9_floorMod_7cf53_11 (by decide) (fun c_11 => ?_) (fun c_11 => ?_)
    ·
      refine lv_iload_n hx hb dJ9_floorMod_7cf53_18 rfl (lv_at hl 0 rfl) ?_
      exact W.iret (v := (a0 - a0 / b0 * b0)) hx hb hr (fun t ht hW => ⟨_, rfl, by simp [fMod, c_7, c_11], ht⟩) (fun q h => by cases h) dJ9_floorMod_7cf53_19
    ·
      refine lv_iload_n hx hb dJ9_floorMod_7cf53_14 rfl (lv_at hl 0 rfl) ?_
      refine lv_iload_n hx hb dJ9_floorMod_7cf53_15 rfl (lv_at hl 2 rfl) ?_
      refine lv_iadd hx hb dJ9_floorMod_7cf53_16 ?_
      exact W.iret (v := ((a0 - a0 / b0 * b0) + b0)) hx hb hr (fun t ht hW => ⟨_, rfl, by simp [fMod, c_7, c_11], ht⟩) (fun q h => by cases h) dJ9_floorMod_7cf53_17
end
section
/-! the class's methods that read alone -/
theorem zb0 {b : Bool} : zb b = 0 ↔ b = false := by cases b <;> decide +kernel
theorem zb1 {b : Bool} : ¬ zb b = 0 ↔ b = true := by cases b <;> decide +kernel
theorem zbF {P : Prop} [Decidable P] (h : ¬ P) : 0 = zb (decide P) := by rw [decide_eq_false h]; rfl
theorem zbT {P : Prop} [Decidable P] (h : P) : 1 = zb (decide P) := by rw [decide_eq_true h]; rfl
theorem sub1 {n : Nat} (h : 0 < n) : nI n - 1 = nI (n - 1) := pk_sub (a := n) (b := 1) h
theorem isCh_iff {c : Int32} : isCh c = true ↔ 1 ≤ c.toInt ∧ c.toInt ≤ 12 := by
  unfold isCh
  by_cases h1 : c < 1
  · rw [if_pos h1]; rw [i32_lt] at h1; have : (1 : Int32).toInt = 1 := rfl; constructor <;> intro h <;> simp at h ⊢ <;> omega
  · rw [if_neg h1]
    by_cases h2 : 12 < c
    · rw [if_pos h2]; rw [i32_lt] at h2; have : (12 : Int32).toInt = 12 := rfl; constructor <;> intro h <;> simp at h ⊢ <;> omega
    · rw [if_neg h2]; rw [i32_lt] at h1 h2; have : (1 : Int32).toInt = 1 := rfl; have : (12 : Int32).toInt = 12 := rfl
      refine ⟨fun _ => ?_, fun _ => rfl⟩
      omega
theorem isSg_iff {c : Int32} : isSg c = true ↔ 32 ≤ c.toInt ∧ c.toInt ≤ 255 := by
  unfold isSg
  by_cases h1 : c < 32
  · rw [if_pos h1]; rw [i32_lt] at h1; have : (32 : Int32).toInt = 32 := rfl; constructor <;> intro h <;> simp at h ⊢ <;> omega
  · rw [if_neg h1]
    by_cases h2 : 255 < c
    · rw [if_pos h2]; rw [i32_lt] at h2; have : (255 : Int32).toInt = 255 := rfl; constructor <;> intro h <;> simp at h ⊢ <;> omega
    · rw [if_neg h2]; rw [i32_lt] at h1 h2; have : (32 : Int32).toInt = 32 := rfl; have : (255 : Int32).toInt = 255 := rfl
      refine ⟨fun _ => ?_, fun _ => rfl⟩
      omega
theorem isCh_in {c : Int32} (h : ¬ zb (isCh c) = 0) : vp_in c 13 := by
  have := isCh_iff.mp (zb1.mp h)
  rw [vp_in_iff]; omega
theorem isSg_in {c : Int32} (h : ¬ zb (isSg c) = 0) : vp_in c 256 := by
  have := isSg_iff.mp (zb1.mp h)
  rw [vp_in_iff]; omega
theorem nI_ch {k : Nat} (h1 : 1 ≤ k) (h2 : k ≤ 12) : isCh (nI k) = true := by
  rw [isCh_iff, nI_toInt (by omega)]; omega
def sP (bg : Nat) (on : Bool) : Nat := if on then bg - 1 else bg
def wyN (L st : Nat) (v : Int32) : Nat := if v = -1 then L else if st < v.toNatClampNeg then v.toNatClampNeg - st else v.toNatClampNeg + L - st
def chOK (L : Nat) (v : Int32) : Prop := v = -1 ∨ ∃ j : Nat, j < L ∧ v = nI j
def ovR (a b : Int32) : Int32 := if zb (isSg a) = 0 then -1 else if ¬ zb (isSg b) = 0 then mx a b else -1
def tlR (bg st : Nat) (rp sp sc sk fa : Int32) (rl : Nat) (w : Int32) : Int32 := if w = 0 then nI bg else if w = 1 then nI st else if w = 2 then rp else if w = 3 then sp else if w = 4 then sc else if w = 5 then sk else if w = 6 then fa else if w = 7 then nI rl else -1

theorem way_sub {j st L : Nat} (h : st < L) : nI j - nI st + nI L = nI (j + L - st) := by
  have h1 : nI (j + L - st) + nI st = nI j + nI L := by rw [nI_add, nI_add]; congr 1; omega
  have h2 : nI (j + L - st) = nI j + nI L - nI st := by rw [← h1, Int32.add_sub_cancel]
  rw [h2, Int32.sub_eq_add_neg, Int32.sub_eq_add_neg, Int32.add_assoc, Int32.add_comm (-nI st), ← Int32.add_assoc]

set_option maxHeartbeats 4000000 in
set_option maxRecDepth 100000 in
theorem c_X2_standPage (l : Launch) {D : va_G} {cI cP cR cJ : ClassId} {x aC aT aR aP L C rl bg st : Nat} {on : Bool} {mk rp sp sc sk fa : Int32} {ch tr rc : Nat → Int32} {pg : Nat → Option Nat} {pl : va_W} (hon : on = true → 0 < bg) : Met l yX2_standPage wsX2_standPage ({ frames := 0, cells := 0, slots := 0, locals := 0 }) (ro [.ref x] D cI cP cR cJ (wX cI cP x aC aT aR aP (nI L) (nI C) (nI rl) (nI bg) (zb on) (nI st) mk rp sp sc sk fa ch tr rc pg pl)) (vp_Si (fun r => r = nI (sP bg on))) 0 0 (fun _ => False) := by
  refine Met.ofW (cc := cX2_standPage) (maxL := 1) (ret := (some .int)) (by decide) rfl ?_
  intro p e s m args below meth c s₁ B hml hv
  obtain ⟨rfl, hP, hK⟩ := hv
  have hx := B.exec
  have hb := B.bytes
  have hr := B.returns
  have hts := atoms_spec (ws := wsX2_standPage) B.pre
  have hown : s.vm.findClass RX2 = some m.cls := findClass_of_methodNamed B.named
  have hlocks := B.notSynchronized
  have hinX2 : ∀ w ∈ wsX20, w ∈ wsX2_standPage := by decide +kernel
  have hl := lv_entry ([.ref x]) (n := 1) (Nat.le_of_ble_eq_true rfl)
  rw [lg_entry_eq]
  generalize (lg_sl ([.ref x]) ++ List.replicate (1 - (lg_sl ([.ref x])).length) Slot.unset).toArray = ls at hl ⊢
  have hl : lv_has ls 1 [(0, .ref x)] := hl
  refine lv_aload_n hx hb dX2_standPage_0 rfl (lv_at hl 0 rfl) ?_
  refine va_get (D := D) (ci := 3) (v := .int (zb on)) (C := RX2) (T := TX2) (N := 16) hx hb hts hinX2 hown hK.1 hP 0 rfl rfl 8 (by decide) (hts (.fieldLink RX2 150 "PrinterRows" "onBegunPage" "Z") (by decide +kernel)) (fun _ h9 => h9) rfl dX2_standPage_1 ?_
  refine lv_if_eq (tgt := 16) hx hb dX2_standPage_4 (by decide) (fun c_4 => ?_) (fun c_4 => ?_)
  ·
    refine lv_aload_n hx hb dX2_standPage_16 rfl (lv_at hl 0 rfl) ?_
    refine va_get (D := D) (ci := 3) (v := .int (nI bg)) (C := RX2) (T := TX2) (N := 16) hx hb hts hinX2 hown hK.1 hP 0 rfl rfl 7 (by decide) (hts (.fieldLink RX2 90 "PrinterRows" "begun" "I") (by decide +kernel)) (fun _ h9 => h9) rfl dX2_standPage_17 ?_
    exact W.iret (v := (nI bg)) hx hb hr (fun t ht hW => ⟨_, rfl, by rw [sP, zb0.mp c_4]; rfl, ht⟩) (fun q h => by cases h) dX2_standPage_20
  ·
    refine lv_aload_n hx hb dX2_standPage_7 rfl (lv_at hl 0 rfl) ?_
    refine va_get (D := D) (ci := 3) (v := .int (nI bg)) (C := RX2) (T := TX2) (N := 16) hx hb hts hinX2 hown hK.1 hP 0 rfl rfl 7 (by decide) (hts (.fieldLink RX2 90 "PrinterRows" "begun" "I") (by decide +kernel)) (fun _ h9 => h9) rfl dX2_standPage_8 ?_
    refine lv_iconst (v := 1) hx hb dX2_standPage_11 (by decide +kernel) ?_
    refine lv_isub hx hb dX2_standPage_12 ?_
    refine lv_goto (tgt := 20) hx hb dX2_standPage_13 (by decide) ?_
    exact W.iret (v := ((nI bg) - 1)) hx hb hr (fun t ht hW => ⟨_, rfl, by rw [sP, zb1.mp c_4]; exact sub1 (hon (zb1.mp c_4)), ht⟩) (fun q h => by cases h) dX2_standPage_20

set_option maxHeartbeats 4000000 in
set_option maxRecDepth 100000 in
theorem c_X2_canPrintHere (l : Launch) {D : va_G} {cI cP cR cJ : ClassId} {x aC aT aR aP L C rl bg st : Nat} {on : Bool} {mk rp sp sc sk fa : Int32} {ch tr rc : Nat → Int32} {pg : Nat → Option Nat} {pl : va_W} (hon : on = true → 0 < bg) (hbg : bg ≤ 40) : Met l yX2_canPrintHere wsX2_canPrintHere ({ frames := 1, cells := 0, slots := 0, locals := 20 }) (ro [.ref x] D cI cP cR cJ (wX cI cP x aC aT aR aP (nI L) (nI C) (nI rl) (nI bg) (zb on) (nI st) mk rp sp sc sk fa ch tr rc pg pl)) (vp_Si (fun r => r = zb (decide (sP bg on < 40)))) 0 0 (fun _ => False) := by
  refine Met.ofW (cc := cX2_canPrintHere) (maxL := 1) (ret := (some .boolean)) (by decide) rfl ?_
  intro p e s m args below meth c s₁ B hml hv
  obtain ⟨rfl, hP, hK⟩ := hv
  have hx := B.exec
  have hb := B.bytes
  have hr := B.returns
  have hts := atoms_spec (ws := wsX2_canPrintHere) B.pre
  have hown : s.vm.findClass RX2 = some m.cls := findClass_of_methodNamed B.named
  have hlocks := B.notSynchronized
  have hinX2 : ∀ w ∈ wsX20, w ∈ wsX2_canPrintHere := by decide +kernel
  have hl := lv_entry ([.ref x]) (n := 1) (Nat.le_of_ble_eq_true rfl)
  rw [lg_entry_eq]
  generalize (lg_sl ([.ref x]) ++ List.replicate (1 - (lg_sl ([.ref x])).length) Slot.unset).toArray = ls at hl ⊢
  have hl : lv_has ls 1 [(0, .ref x)] := hl
  refine lv_aload_n hx hb dX2_canPrintHere_0 rfl (lv_at hl 0 rfl) ?_
  refine vp_callSi (W.runV (As := []) (rest := []) ⟨hx, hb, hml, hown, hts⟩ (c_X2_standPage l hon) (cwV 0 hts gX2_canPrintHere_X2_standPage rfl rfl rfl (by decide +kernel) ⟨(Nat.le_of_ble_eq_true rfl), (Nat.le_of_ble_eq_true rfl)⟩) (ro_pre hK hP rfl 0 rfl) rfl rfl hl.1 rfl (lv_room (Nat.le_of_ble_eq_true rfl)) dX2_canPrintHere_1 ⟨(Nat.le_of_ble_eq_true rfl), (Nat.le_of_ble_eq_true rfl)⟩) (fun r_1 w_1 => ?_)
  subst w_1
  refine lv_bipush (v := 40) hx hb dX2_canPrintHere_4 (by decide +kernel) ?_
  refine lv_icmp_ge (tgt := 13) hx hb dX2_canPrintHere_6 (by decide) (fun c_6 => ?_) (fun c_6 => ?_)
  ·
    refine lv_iconst (v := 0) hx hb dX2_canPrintHere_13 (by decide +kernel) ?_
    exact W.zret (v := 0) hx hb hr (by decide +kernel) (fun t ht hW => ⟨_, rfl, zbF (fun h9 => nI_ge h9 (by decide) c_6), ht⟩) (fun q h => by cases h) dX2_canPrintHere_14
  ·
    refine lv_iconst (v := 1) hx hb dX2_canPrintHere_9 (by decide +kernel) ?_
    refine lv_goto (tgt := 14) hx hb dX2_canPrintHere_10 (by decide) ?_
    exact W.zret (v := 1) hx hb hr (by decide +kernel) (fun t ht hW => ⟨_, rfl, zbT (Nat.lt_of_not_le (fun h9 => c_6 (nI_le (a := 40) h9 (by unfold sP; split <;> omega)))), ht⟩) (fun q h => by cases h) dX2_canPrintHere_14

set_option maxHeartbeats 4000000 in
set_option maxRecDepth 100000 in
theorem c_X2_pageAfter (l : Launch) {D : va_G} {cI cP cR cJ : ClassId} {x aC aT aR aP L C rl bg st : Nat} {on : Bool} {mk rp sp sc sk fa : Int32} {ch tr rc : Nat → Int32} {pg : Nat → Option Nat} {pl : va_W} (hon : on = true → 0 < bg) (hbg : bg ≤ 40) (hL0 : 0 < L) (hL : L ≤ 66) (hst : st < L) (w : Nat) (hw : w ≤ 1000) : Met l yX2_pageAfter wsX2_pageAfter ({ frames := 1, cells := 0, slots := 0, locals := 20 }) (ro [.ref x, .int (nI w)] D cI cP cR cJ (wX cI cP x aC aT aR aP (nI L) (nI C) (nI rl) (nI bg) (zb on) (nI st) mk rp sp sc sk fa ch tr rc pg pl)) (vp_Si (fun r => r = nI (sP bg on + (st + w) / L))) 0 0 (fun _ => False) := by
  refine Met.ofW (cc := cX2_pageAfter) (maxL := 2) (ret := (some .int)) (by decide) rfl ?_
  intro p e s m args below meth c s₁ B hml hv
  obtain ⟨rfl, hP, hK⟩ := hv
  have hx := B.exec
  have hb := B.bytes
  have hr := B.returns
  have hts := atoms_spec (ws := wsX2_pageAfter) B.pre
  have hown : s.vm.findClass RX2 = some m.cls := findClass_of_methodNamed B.named
  have hlocks := B.notSynchronized
  have hinX2 : ∀ w ∈ wsX20, w ∈ wsX2_pageAfter := by decide +kernel
  have hl := lv_entry ([.ref x, .int (nI w)]) (n := 2) (Nat.le_of_ble_eq_true rfl)
  rw [lg_entry_eq]
  generalize (lg_sl ([.ref x, .int (nI w)]) ++ List.replicate (2 - (lg_sl ([.ref x, .int (nI w)])).length) Slot.unset).toArray = ls at hl ⊢
  have hl : lv_has ls 2 [(0, .ref x), (1, .int (nI w))] := hl
  refine lv_aload_n hx hb dX2_pageAfter_0 rfl (lv_at hl 0 rfl) ?_
  refine vp_callSi (W.runV (As := []) (rest := []) ⟨hx, hb, hml, hown, hts⟩ (c_X2_standPage l hon) (cwV 0 hts gX2_pageAfter_X2_standPage rfl rfl rfl (by decide +kernel) ⟨(Nat.le_of_ble_eq_true rfl), (Nat.le_of_ble_eq_true rfl)⟩) (ro_pre hK hP rfl 0 rfl) rfl rfl hl.1 rfl (lv_room (Nat.le_of_ble_eq_true rfl)) dX2_pageAfter_1 ⟨(Nat.le_of_ble_eq_true rfl), (Nat.le_of_ble_eq_true rfl)⟩) (fun r_1 w_1 => ?_)
  subst w_1
  refine lv_aload_n hx hb dX2_pageAfter_4 rfl (lv_at hl 0 rfl) ?_
  refine va_get (D := D) (ci := 3) (v := .int (nI st)) (C := RX2) (T := TX2) (N := 16) hx hb hts hinX2 hown hK.1 hP 0 rfl rfl 9 (by decide) (hts (.fieldLink RX2 129 "PrinterRows" "standLine" "I") (by decide +kernel)) (fun _ h9 => h9) rfl dX2_pageAfter_5 ?_
  refine lv_iload_n hx hb dX2_pageAfter_8 rfl (lv_at hl 1 rfl) ?_
  refine lv_iadd hx hb dX2_pageAfter_9 ?_
  refine lv_topi (fun x_9 ex_9 => ?_)
  obtain rfl : x_9 = nI (st + w) := ex_9.trans (nI_add _ _)
  refine lv_aload_n hx hb dX2_pageAfter_10 rfl (lv_at hl 0 rfl) ?_
  refine va_get (D := D) (ci := 3) (v := .int (nI L)) (C := RX2) (T := TX2) (N := 16) hx hb hts hinX2 hown hK.1 hP 0 rfl rfl 0 (by decide) (hts (.fieldLink RX2 13 "PrinterRows" "lines" "I") (by decide +kernel)) (fun _ h9 => h9) rfl dX2_pageAfter_11 ?_
  refine lv_idiv hx hb dX2_pageAfter_14 (nI_ne0 hL0 (by omega)) ?_
  refine lv_topi (fun x_14 ex_14 => ?_)
  obtain rfl : x_14 = nI ((st + w) / L) := ex_14.trans (pk_div (by omega) hL0 (by omega))
  refine lv_iadd hx hb dX2_pageAfter_15 ?_
  refine lv_topi (fun x_15 ex_15 => ?_)
  obtain rfl : x_15 = nI (sP bg on + (st + w) / L) := ex_15.trans (nI_add _ _)
  exact W.iret (v := (nI (sP bg on + (st + w) / L))) hx hb hr (fun t ht hW => ⟨_, rfl, rfl, ht⟩) (fun q h => by cases h) dX2_pageAfter_16

set_option maxHeartbeats 4000000 in
set_option maxRecDepth 100000 in
theorem c_X2_canPrintAfter (l : Launch) {D : va_G} {cI cP cR cJ : ClassId} {x aC aT aR aP L C rl bg st : Nat} {on : Bool} {mk rp sp sc sk fa : Int32} {ch tr rc : Nat → Int32} {pg : Nat → Option Nat} {pl : va_W} (hon : on = true → 0 < bg) (hbg : bg ≤ 40) (hL0 : 0 < L) (hL : L ≤ 66) (hst : st < L) (w : Nat) (hw : w ≤ 1000) : Met l yX2_canPrintAfter wsX2_canPrintAfter ({ frames := 2, cells := 0, slots := 0, locals := 41 }) (ro [.ref x, .int (nI w)] D cI cP cR cJ (wX cI cP x aC aT aR aP (nI L) (nI C) (nI rl) (nI bg) (zb on) (nI st) mk rp sp sc sk fa ch tr rc pg pl)) (vp_Si (fun r => r = zb (decide (sP bg on + (st + w) / L < 40)))) 0 0 (fun _ => False) := by
  refine Met.ofW (cc := cX2_canPrintAfter) (maxL := 2) (ret := (some .boolean)) (by decide) rfl ?_
  intro p e s m args below meth c s₁ B hml hv
  obtain ⟨rfl, hP, hK⟩ := hv
  have hx := B.exec
  have hb := B.bytes
  have hr := B.returns
  have hts := atoms_spec (ws := wsX2_canPrintAfter) B.pre
  have hown : s.vm.findClass RX2 = some m.cls := findClass_of_methodNamed B.named
  have hlocks := B.notSynchronized
  have hinX2 : ∀ w ∈ wsX20, w ∈ wsX2_canPrintAfter := by decide +kernel
  have hl := lv_entry ([.ref x, .int (nI w)]) (n := 2) (Nat.le_of_ble_eq_true rfl)
  rw [lg_entry_eq]
  generalize (lg_sl ([.ref x, .int (nI w)]) ++ List.replicate (2 - (lg_sl ([.ref x, .int (nI w)])).length) Slot.unset).toArray = ls at hl ⊢
  have hl : lv_has ls 2 [(0, .ref x), (1, .int (nI w))] := hl
  have hq : (st + w) / L ≤ st + w := Nat.div_le_self _ _
  have hsp : sP bg on ≤ 40 := by { unfold sP; split <;> omega }
  refine lv_aload_n hx hb dX2_canPrintAfter_0 rfl (lv_at hl 0 rfl) ?_
  refine lv_iload_n hx hb dX2_canPrintAfter_1 rfl (lv_at hl 1 rfl) ?_
  refine vp_callSi (W.runV (As := [.int (nI w)]) (rest := []) ⟨hx, hb, hml, hown, hts⟩ (c_X2_pageAfter l hon hbg hL0 hL hst w hw) (cwV 1 hts gX2_canPrintAfter_X2_pageAfter rfl rfl rfl (by decide +kernel) ⟨(Nat.le_of_ble_eq_true rfl), (Nat.le_of_ble_eq_true rfl)⟩) (ro_pre hK hP rfl 0 rfl) rfl rfl hl.1 rfl (lv_room (Nat.le_of_ble_eq_true rfl)) dX2_canPrintAfter_2 ⟨(Nat.le_of_ble_eq_true rfl), (Nat.le_of_ble_eq_true rfl)⟩) (fun r_2 w_2 => ?_)
  subst w_2
  refine lv_bipush (v := 40) hx hb dX2_canPrintAfter_5 (by decide +kernel) ?_
  refine lv_icmp_ge (tgt := 14) hx hb dX2_canPrintAfter_7 (by decide) (fun c_7 => ?_) (fun c_7 => ?_)
  ·
    refine lv_iconst (v := 0) hx hb dX2_canPrintAfter_14 (by decide +kernel) ?_
    exact W.zret (v := 0) hx hb hr (by decide +kernel) (fun t ht hW => ⟨_, rfl, zbF (fun h9 => nI_ge h9 (by decide) c_7), ht⟩) (fun q h => by cases h) dX2_canPrintAfter_15
  ·
    refine lv_iconst (v := 1) hx hb dX2_canPrintAfter_10 (by decide +kernel) ?_
    refine lv_goto (tgt := 15) hx hb dX2_canPrintAfter_11 (by decide) ?_
    exact W.zret (v := 1) hx hb hr (by decide +kernel) (fun t ht hW => ⟨_, rfl, zbT (Nat.lt_of_not_le (fun h9 => c_7 (nI_le (a := 40) h9 (by omega)))), ht⟩) (fun q h => by cases h) dX2_canPrintAfter_15

set_option maxHeartbeats 4000000 in
set_option maxRecDepth 100000 in
theorem c_X2_canMove (l : Launch) {D : va_G} {cI cP cR cJ : ClassId} {x aC aT aR aP L C rl bg st : Nat} {on : Bool} {mk rp sp sc sk fa : Int32} {ch tr rc : Nat → Int32} {pg : Nat → Option Nat} {pl : va_W} (hon : on = true → 0 < bg) (hbg : bg ≤ 40) (hL0 : 0 < L) (hL : L ≤ 66) (hst : st < L) (w : Nat) (hw : w ≤ 1000) : Met l yX2_canMove wsX2_canMove ({ frames := 2, cells := 0, slots := 0, locals := 41 }) (ro [.ref x, .int (nI w)] D cI cP cR cJ (wX cI cP x aC aT aR aP (nI L) (nI C) (nI rl) (nI bg) (zb on) (nI st) mk rp sp sc sk fa ch tr rc pg pl)) (vp_Si (fun r => r = zb (decide (sP bg on + (st + w) / L ≤ 40)))) 0 0 (fun _ => False) := by
  refine Met.ofW (cc := cX2_canMove) (maxL := 2) (ret := (some .boolean)) (by decide) rfl ?_
  intro p e s m args below meth c s₁ B hml hv
  obtain ⟨rfl, hP, hK⟩ := hv
  have hx := B.exec
  have hb := B.bytes
  have hr := B.returns
  have hts := atoms_spec (ws := wsX2_canMove) B.pre
  have hown : s.vm.findClass RX2 = some m.cls := findClass_of_methodNamed B.named
  have hlocks := B.notSynchronized
  have hinX2 : ∀ w ∈ wsX20, w ∈ wsX2_canMove := by decide +kernel
  have hl := lv_entry ([.ref x, .int (nI w)]) (n := 2) (Nat.le_of_ble_eq_true rfl)
  rw [lg_entry_eq]
  generalize (lg_sl ([.ref x, .int (nI w)]) ++ List.replicate (2 - (lg_sl ([.ref x, .int (nI w)])).length) Slot.unset).toArray = ls at hl ⊢
  have hl : lv_has ls 2 [(0, .ref x), (1, .int (nI w))] := hl
  have hq : (st + w) / L ≤ st + w := Nat.div_le_self _ _
  have hsp : sP bg on ≤ 40 := by { unfold sP; split <;> omega }
  refine lv_aload_n hx hb dX2_canMove_0 rfl (lv_at hl 0 rfl) ?_
  refine lv_iload_n hx hb dX2_canMove_1 rfl (lv_at hl 1 rfl) ?_
  refine vp_callSi (W.runV (As := [.int (nI w)]) (rest := []) ⟨hx, hb, hml, hown, hts⟩ (c_X2_pageAfter l hon hbg hL0 hL hst w hw) (cwV 1 hts gX2_canMove_X2_pageAfter rfl rfl rfl (by decide +kernel) ⟨(Nat.le_of_ble_eq_true rfl), (Nat.le_of_ble_eq_true rfl)⟩) (ro_pre hK hP rfl 0 rfl) rfl rfl hl.1 rfl (lv_room (Nat.le_of_ble_eq_true rfl)) dX2_canMove_2 ⟨(Nat.le_of_ble_eq_true rfl), (Nat.le_of_ble_eq_true rfl)⟩) (fun r_2 w_2 => ?_)
  subst w_2
  refine lv_bipush (v := 40) hx hb dX2_canMove_5 (by decide +kernel) ?_
  refine lv_icmp_gt (tgt := 14) hx hb dX2_canMove_7 (by decide) (fun c_7 => ?_) (fun c_7 => ?_)
  ·
    refine lv_iconst (v := 0) hx hb dX2_canMove_14 (by decide +kernel) ?_
    exact W.zret (v := 0) hx hb hr (by decide +kernel) (fun t ht hW => ⟨_, rfl, zbF (fun h9 => nI_nlt h9 (by decide) c_7), ht⟩) (fun q h => by cases h) dX2_canMove_15
  ·
    refine lv_iconst (v := 1) hx hb dX2_canMove_10 (by decide +kernel) ?_
    refine lv_goto (tgt := 15) hx hb dX2_canMove_11 (by decide) ?_
    exact W.zret (v := 1) hx hb hr (by decide +kernel) (fun t ht hW => ⟨_, rfl, zbT (Nat.le_of_not_lt (fun h9 => c_7 (nI_lt (a := 40) h9 (by omega)))), ht⟩) (fun q h => by cases h) dX2_canMove_15

set_option maxHeartbeats 4000000 in
set_option maxRecDepth 100000 in
theorem c_X2_wayTo (l : Launch) {D : va_G} {cI cP cR cJ : ClassId} {x aC aT aR aP L C rl bg st : Nat} {on : Bool} {mk rp sp sc sk fa : Int32} {ch tr rc : Nat → Int32} {pg : Nat → Option Nat} {pl : va_W} (hL0 : 0 < L) (hL : L ≤ 66) (hst : st < L) (k : Nat) (hk1 : 1 ≤ k) (hk2 : k ≤ 12) (hch : chOK L (ch k)) : Met l yX2_wayTo wsX2_wayTo ({ frames := 1, cells := 0, slots := 0, locals := 20 }) (ro [.ref x, .int (nI k)] D cI cP cR cJ (wX cI cP x aC aT aR aP (nI L) (nI C) (nI rl) (nI bg) (zb on) (nI st) mk rp sp sc sk fa ch tr rc pg pl)) (vp_Si (fun r => r = nI (wyN L st (ch k)))) 0 0 (fun _ => False) := by
  refine Met.ofW (cc := cX2_wayTo) (maxL := 3) (ret := (some .int)) (by decide) rfl ?_
  intro p e s m args below meth c s₁ B hml hv
  obtain ⟨rfl, hP, hK⟩ := hv
  have hx := B.exec
  have hb := B.bytes
  have hr := B.returns
  have hts := atoms_spec (ws := wsX2_wayTo) B.pre
  have hown : s.vm.findClass RX2 = some m.cls := findClass_of_methodNamed B.named
  have hlocks := B.notSynchronized
  have hinX2 : ∀ w ∈ wsX20, w ∈ wsX2_wayTo := by decide +kernel
  have hl := lv_entry ([.ref x, .int (nI k)]) (n := 3) (Nat.le_of_ble_eq_true rfl)
  rw [lg_entry_eq]
  generalize (lg_sl ([.ref x, .int (nI k)]) ++ List.replicate (3 - (lg_sl ([.ref x, .int (nI k)])).length) Slot.unset).toArray = ls at hl ⊢
  have hl : lv_has ls 3 [(0, .ref x), (1, .int (nI k))] := hl
  refine lv_iload_n hx hb dX2_wayTo_0 rfl (lv_at hl 1 rfl) ?_
  refine vp_callSi (W.runS (As := [.int (nI k)]) (rest := []) ⟨hx, hb, hml, hown, hts⟩ (c_X2_isChannel l ((nI k))) (va_cwS 1 hts gX2_wayTo_X2_isChannel rfl rfl rfl (by decide +kernel) ⟨(Nat.le_of_ble_eq_true rfl), (Nat.le_of_ble_eq_true rfl)⟩) pu_pre rfl rfl hl.1 rfl (lv_room (Nat.le_of_ble_eq_true rfl)) dX2_wayTo_1 ⟨(Nat.le_of_ble_eq_true rfl), (Nat.le_of_ble_eq_true rfl)⟩) (fun r_1 w_1 => ?_)
  subst w_1
  refine lv_if_eq (tgt := 16) hx hb dX2_wayTo_4 (by decide) (fun c_4 => absurd c_4 (zb1.mpr (nI_ch hk1 hk2))) (fun c_4 => ?_)
  refine lv_aload_n hx hb dX2_wayTo_7 rfl (lv_at hl 0 rfl) ?_
  refine va_get (D := D) (ci := 3) (v := .ref aC) (C := RX2) (T := TX2) (N := 16) hx hb hts hinX2 hown hK.1 hP 0 rfl rfl 2 (by decide) (hts (.fieldLink RX2 20 "PrinterRows" "channelLines" "[I") (by decide +kernel)) (fun _ h9 => h9) rfl dX2_wayTo_8 ?_
  refine lv_iload_n hx hb dX2_wayTo_11 rfl (lv_at hl 1 rfl) ?_
  refine va_iald hx hb hK.1 hP 1 0 rfl rfl (vp_in_nI (by omega) (by decide)) dX2_wayTo_12 ?_
  refine lv_topi (fun x_12 ex_12 => ?_)
  obtain rfl : x_12 = ch k := ex_12.trans (by rw [nI_clamp (by omega)])
  refine lv_goto (tgt := 17) hx hb dX2_wayTo_13 (by decide) ?_
  refine lv_istore_n (lv' := [(2, .int (ch k)), (0, .ref x), (1, .int (nI k))]) hx hb dX2_wayTo_17 rfl hl (by decide) rfl (fun ls hl => ?_)
  refine lv_iload_n hx hb dX2_wayTo_18 rfl (lv_at hl 0 rfl) ?_
  refine lv_iconst (v := (-1)) hx hb dX2_wayTo_19 (by decide +kernel) ?_
  refine lv_icmp_ne (tgt := 28) hx hb dX2_wayTo_20 (by decide) (fun c_20 => ?_) (fun c_20 => ?_)
  ·
    refine lv_iload_n hx hb dX2_wayTo_28 rfl (lv_at hl 0 rfl) ?_
    refine lv_aload_n hx hb dX2_wayTo_29 rfl (lv_at hl 1 rfl) ?_
    refine va_get (D := D) (ci := 3) (v := .int (nI st)) (C := RX2) (T := TX2) (N := 16) hx hb hts hinX2 hown hK.1 hP 0 rfl rfl 9 (by decide) (hts (.fieldLink RX2 129 "PrinterRows" "standLine" "I") (by decide +kernel)) (fun _ h9 => h9) rfl dX2_wayTo_30 ?_
    refine lv_icmp_le (tgt := 45) hx hb dX2_wayTo_33 (by decide) (fun c_33 => ?_) (fun c_33 => ?_)
    ·
      rcases hch with hch | ⟨j, hj, hch⟩
      · exact absurd hch c_20
      have hcl : (ch k).toNatClampNeg = j := by rw [hch, nI_clamp (by omega)]
      refine lv_iload_n hx hb dX2_wayTo_45 rfl (lv_at hl 0 rfl) ?_
      refine lv_aload_n hx hb dX2_wayTo_46 rfl (lv_at hl 1 rfl) ?_
      refine va_get (D := D) (ci := 3) (v := .int (nI st)) (C := RX2) (T := TX2) (N := 16) hx hb hts hinX2 hown hK.1 hP 0 rfl rfl 9 (by decide) (hts (.fieldLink RX2 129 "PrinterRows" "standLine" "I") (by decide +kernel)) (fun _ h9 => h9) rfl dX2_wayTo_47 ?_
      refine lv_isub hx hb dX2_wayTo_50 ?_
      refine lv_aload_n hx hb dX2_wayTo_51 rfl (lv_at hl 1 rfl) ?_
      refine va_get (D := D) (ci := 3) (v := .int (nI L)) (C := RX2) (T := TX2) (N := 16) hx hb hts hinX2 hown hK.1 hP 0 rfl rfl 0 (by decide) (hts (.fieldLink RX2 13 "PrinterRows" "lines" "I") (by decide +kernel)) (fun _ h9 => h9) rfl dX2_wayTo_52 ?_
      refine lv_iadd hx hb dX2_wayTo_55 ?_
      exact W.iret (v := (((ch k) - (nI st)) + (nI L))) hx hb hr (fun t ht hW => ⟨_, rfl, by rw [wyN, if_neg c_20, hcl]; rw [hch] at c_33 ⊢; rw [if_neg (fun h9 => nI_ge h9 (by omega) c_33)]; exact way_sub (by omega), ht⟩) (fun q h => by cases h) dX2_wayTo_56
    ·
      rcases hch with hch | ⟨j, hj, hch⟩
      · exact absurd hch c_20
      have hcl : (ch k).toNatClampNeg = j := by rw [hch, nI_clamp (by omega)]
      refine lv_iload_n hx hb dX2_wayTo_36 rfl (lv_at hl 0 rfl) ?_
      refine lv_aload_n hx hb dX2_wayTo_37 rfl (lv_at hl 1 rfl) ?_
      refine va_get (D := D) (ci := 3) (v := .int (nI st)) (C := RX2) (T := TX2) (N := 16) hx hb hts hinX2 hown hK.1 hP 0 rfl rfl 9 (by decide) (hts (.fieldLink RX2 129 "PrinterRows" "standLine" "I") (by decide +kernel)) (fun _ h9 => h9) rfl dX2_wayTo_38 ?_
      refine lv_isub hx hb dX2_wayTo_41 ?_
      refine lv_goto (tgt := 56) hx hb dX2_wayTo_42 (by decide) ?_
      exact W.iret (v := ((ch k) - (nI st))) hx hb hr (fun t ht hW => ⟨_, rfl, by rw [wyN, if_neg c_20, hcl]; rw [hch] at c_33 ⊢; rw [if_pos (Nat.lt_of_not_le (fun h9 => c_33 (nI_le h9 (by omega)))), pk_sub (by have := Nat.lt_of_not_le (fun h9 => c_33 (nI_le (b := st) h9 (by omega))); omega)], ht⟩) (fun q h => by cases h) dX2_wayTo_56
  ·
    refine lv_aload_n hx hb dX2_wayTo_23 rfl (lv_at hl 1 rfl) ?_
    refine va_get (D := D) (ci := 3) (v := .int (nI L)) (C := RX2) (T := TX2) (N := 16) hx hb hts hinX2 hown hK.1 hP 0 rfl rfl 0 (by decide) (hts (.fieldLink RX2 13 "PrinterRows" "lines" "I") (by decide +kernel)) (fun _ h9 => h9) rfl dX2_wayTo_24 ?_
    exact W.iret (v := (nI L)) hx hb hr (fun t ht hW => ⟨_, rfl, by rw [wyN, if_pos c_20], ht⟩) (fun q h => by cases h) dX2_wayTo_27

set_option maxHeartbeats 4000000 in
set_option maxRecDepth 100000 in
theorem c_X2_over (l : Launch) {D : va_G} {cI cP cR cJ : ClassId} {x aC aT aR aP L C rl bg st : Nat} {on : Bool} {mk rp sp sc sk fa : Int32} {ch tr rc : Nat → Int32} {pg : Nat → Option Nat} {pl : va_W} (a0 b0 : Int32) : Met l yX2_over wsX2_over ({ frames := 2, cells := 0, slots := 0, locals := 34 }) (ro [.ref x, .int a0, .int b0] D cI cP cR cJ (wX cI cP x aC aT aR aP (nI L) (nI C) (nI rl) (nI bg) (zb on) (nI st) mk rp sp sc sk fa ch tr rc pg pl)) (vp_Si (fun r => r = ovR a0 b0)) 0 0 (fun _ => False) := by
  refine Met.ofW (cc := cX2_over) (maxL := 3) (ret := (some .int)) (by decide) rfl ?_
  intro p e s m args below meth c s₁ B hml hv
  obtain ⟨rfl, hP, hK⟩ := hv
  have hx := B.exec
  have hb := B.bytes
  have hr := B.returns
  have hts := atoms_spec (ws := wsX2_over) B.pre
  have hown : s.vm.findClass RX2 = some m.cls := findClass_of_methodNamed B.named
  have hlocks := B.notSynchronized
  have hl := lv_entry ([.ref x, .int a0, .int b0]) (n := 3) (Nat.le_of_ble_eq_true rfl)
  rw [lg_entry_eq]
  generalize (lg_sl ([.ref x, .int a0, .int b0]) ++ List.replicate (3 - (lg_sl ([.ref x, .int a0, .int b0])).length) Slot.unset).toArray = ls at hl ⊢
  have hl : lv_has ls 3 [(0, .ref x), (1, .int a0), (2, .int b0)] := hl
  refine lv_iload_n hx hb dX2_over_0 rfl (lv_at hl 1 rfl) ?_
  refine vp_callSi (W.runS (As := [.int a0]) (rest := []) ⟨hx, hb, hml, hown, hts⟩ (c_X2_isSign l (a0)) (va_cwS 1 hts gX2_over_X2_isSign rfl rfl rfl (by decide +kernel) ⟨(Nat.le_of_ble_eq_true rfl), (Nat.le_of_ble_eq_true rfl)⟩) pu_pre rfl rfl hl.1 rfl (lv_room (Nat.le_of_ble_eq_true rfl)) dX2_over_1 ⟨(Nat.le_of_ble_eq_true rfl), (Nat.le_of_ble_eq_true rfl)⟩) (fun r_1 w_1 => ?_)
  subst w_1
  refine lv_if_eq (tgt := 14) hx hb dX2_over_4 (by decide) (fun c_4 => ?_) (fun c_4 => ?_)
  ·
    refine lv_iconst (v := (-1)) hx hb dX2_over_14 (by decide +kernel) ?_
    exact W.iret (v := (-1)) hx hb hr (fun t ht hW => ⟨_, rfl, by rw [ovR, if_pos c_4], ht⟩) (fun q h => by cases h) dX2_over_15
  ·
    refine lv_iload_n hx hb dX2_over_7 rfl (lv_at hl 2 rfl) ?_
    refine vp_callSi (W.runS (As := [.int b0]) (rest := []) ⟨hx, hb, hml, hown, hts⟩ (c_X2_isSign l (b0)) (va_cwS 1 hts gX2_over_X2_isSign rfl rfl rfl (by decide +kernel) ⟨(Nat.le_of_ble_eq_true rfl), (Nat.le_of_ble_eq_true rfl)⟩) pu_pre rfl rfl hl.1 rfl (lv_room (Nat.le_of_ble_eq_true rfl)) dX2_over_8 ⟨(Nat.le_of_ble_eq_true rfl), (Nat.le_of_ble_eq_true rfl)⟩) (fun r_8 w_8 => ?_)
    subst w_8
    refine lv_if_ne (tgt := 16) hx hb dX2_over_11 (by decide) (fun c_11 => ?_) (fun c_11 => ?_)
    ·
      refine lv_iload_n hx hb dX2_over_16 rfl (lv_at hl 1 rfl) ?_
      refine lv_iload_n hx hb dX2_over_17 rfl (lv_at hl 2 rfl) ?_
      refine vp_callSi (W.runS (As := [.int a0, .int b0]) (rest := []) ⟨hx, hb, hml, hown, hts⟩ (c_X2_darker l (a0) (b0)) (va_cwS 2 hts gX2_over_X2_darker rfl rfl rfl (by decide +kernel) ⟨(Nat.le_of_ble_eq_true rfl), (Nat.le_of_ble_eq_true rfl)⟩) pu_pre rfl rfl hl.1 rfl (lv_room (Nat.le_of_ble_eq_true rfl)) dX2_over_18 ⟨(Nat.le_of_ble_eq_true rfl), (Nat.le_of_ble_eq_true rfl)⟩) (fun r_18 w_18 => ?_)
      subst w_18
      exact W.iret (v := (mx a0 b0)) hx hb hr (fun t ht hW => ⟨_, rfl, by rw [ovR, if_neg c_4, if_pos c_11], ht⟩) (fun q h => by cases h) dX2_over_21
    ·
      refine lv_iconst (v := (-1)) hx hb dX2_over_14 (by decide +kernel) ?_
      exact W.iret (v := (-1)) hx hb hr (fun t ht hW => ⟨_, rfl, by rw [ovR, if_neg c_4, if_neg (fun h9 => h9 c_11)], ht⟩) (fun q h => by cases h) dX2_over_15

set_option maxHeartbeats 4000000 in
set_option maxRecDepth 100000 in
theorem c_X2_tally (l : Launch) {D : va_G} {cI cP cR cJ : ClassId} {x aC aT aR aP L C rl bg st : Nat} {on : Bool} {mk rp sp sc sk fa : Int32} {ch tr rc : Nat → Int32} {pg : Nat → Option Nat} {pl : va_W} (w0 : Int32) : Met l yX2_tally wsX2_tally ({ frames := 0, cells := 0, slots := 0, locals := 0 }) (ro [.ref x, .int w0] D cI cP cR cJ (wX cI cP x aC aT aR aP (nI L) (nI C) (nI rl) (nI bg) (zb on) (nI st) mk rp sp sc sk fa ch tr rc pg pl)) (vp_Si (fun r => r = tlR bg st rp sp sc sk fa rl w0)) 0 0 (fun _ => False) := by
  refine Met.ofW (cc := cX2_tally) (maxL := 2) (ret := (some .int)) (by decide) rfl ?_
  intro p e s m args below meth c s₁ B hml hv
  obtain ⟨rfl, hP, hK⟩ := hv
  have hx := B.exec
  have hb := B.bytes
  have hr := B.returns
  have hts := atoms_spec (ws := wsX2_tally) B.pre
  have hown : s.vm.findClass RX2 = some m.cls := findClass_of_methodNamed B.named
  have hlocks := B.notSynchronized
  have hinX2 : ∀ w ∈ wsX20, w ∈ wsX2_tally := by decide +kernel
  have hl := lv_entry ([.ref x, .int w0]) (n := 2) (Nat.le_of_ble_eq_true rfl)
  rw [lg_entry_eq]
  generalize (lg_sl ([.ref x, .int w0]) ++ List.replicate (2 - (lg_sl ([.ref x, .int w0])).length) Slot.unset).toArray = ls at hl ⊢
  have hl : lv_has ls 2 [(0, .ref x), (1, .int w0)] := hl
  refine lv_iload_n hx hb dX2_tally_0 rfl (lv_at hl 1 rfl) ?_
  by_cases k_0 : w0 = 0
  ·
    refine lv_tableIn (off := 47) (tgt := 48) hx hb dX2_tally_1 (by rw [k_0]; decide +kernel) (by rw [k_0]; decide +kernel) (by rw [k_0]; decide +kernel) (by decide) ?_
    refine lv_aload_n hx hb dX2_tally_48 rfl (lv_at hl 0 rfl) ?_
    refine va_get (D := D) (ci := 3) (v := .int (nI bg)) (C := RX2) (T := TX2) (N := 16) hx hb hts hinX2 hown hK.1 hP 0 rfl rfl 7 (by decide) (hts (.fieldLink RX2 90 "PrinterRows" "begun" "I") (by decide +kernel)) (fun _ h9 => h9) rfl dX2_tally_49 ?_
    exact W.iret (v := (nI bg)) hx hb hr (fun t ht hW => ⟨_, rfl, by rw [tlR, if_pos k_0], ht⟩) (fun q h => by cases h) dX2_tally_52
  by_cases k_1 : w0 = 1
  ·
    refine lv_tableIn (off := 52) (tgt := 53) hx hb dX2_tally_1 (by rw [k_1]; decide +kernel) (by rw [k_1]; decide +kernel) (by rw [k_1]; decide +kernel) (by decide) ?_
    refine lv_aload_n hx hb dX2_tally_53 rfl (lv_at hl 0 rfl) ?_
    refine va_get (D := D) (ci := 3) (v := .int (nI st)) (C := RX2) (T := TX2) (N := 16) hx hb hts hinX2 hown hK.1 hP 0 rfl rfl 9 (by decide) (hts (.fieldLink RX2 129 "PrinterRows" "standLine" "I") (by decide +kernel)) (fun _ h9 => h9) rfl dX2_tally_54 ?_
    exact W.iret (v := (nI st)) hx hb hr (fun t ht hW => ⟨_, rfl, by rw [tlR, if_neg k_0, if_pos k_1], ht⟩) (fun q h => by cases h) dX2_tally_57
  by_cases k_2 : w0 = 2
  ·
    refine lv_tableIn (off := 57) (tgt := 58) hx hb dX2_tally_1 (by rw [k_2]; decide +kernel) (by rw [k_2]; decide +kernel) (by rw [k_2]; decide +kernel) (by decide) ?_
    refine lv_aload_n hx hb dX2_tally_58 rfl (lv_at hl 0 rfl) ?_
    refine va_get (D := D) (ci := 3) (v := .int rp) (C := RX2) (T := TX2) (N := 16) hx hb hts hinX2 hown hK.1 hP 0 rfl rfl 11 (by decide) (hts (.fieldLink RX2 132 "PrinterRows" "recordsPrinted" "I") (by decide +kernel)) (fun _ h9 => h9) rfl dX2_tally_59 ?_
    exact W.iret (v := rp) hx hb hr (fun t ht hW => ⟨_, rfl, by rw [tlR, if_neg k_0, if_neg k_1, if_pos k_2], ht⟩) (fun q h => by cases h) dX2_tally_62
  by_cases k_3 : w0 = 3
  ·
    refine lv_tableIn (off := 62) (tgt := 63) hx hb dX2_tally_1 (by rw [k_3]; decide +kernel) (by rw [k_3]; decide +kernel) (by rw [k_3]; decide +kernel) (by decide) ?_
    refine lv_aload_n hx hb dX2_tally_63 rfl (lv_at hl 0 rfl) ?_
    refine va_get (D := D) (ci := 3) (v := .int sp) (C := RX2) (T := TX2) (N := 16) hx hb hts hinX2 hown hK.1 hP 0 rfl rfl 12 (by decide) (hts (.fieldLink RX2 135 "PrinterRows" "signsPrinted" "I") (by decide +kernel)) (fun _ h9 => h9) rfl dX2_tally_64 ?_
    exact W.iret (v := sp) hx hb hr (fun t ht hW => ⟨_, rfl, by rw [tlR, if_neg k_0, if_neg k_1, if_neg k_2, if_pos k_3], ht⟩) (fun q h => by cases h) dX2_tally_67
  by_cases k_4 : w0 = 4
  ·
    refine lv_tableIn (off := 67) (tgt := 68) hx hb dX2_tally_1 (by rw [k_4]; decide +kernel) (by rw [k_4]; decide +kernel) (by rw [k_4]; decide +kernel) (by decide) ?_
    refine lv_aload_n hx hb dX2_tally_68 rfl (lv_at hl 0 rfl) ?_
    refine va_get (D := D) (ci := 3) (v := .int sc) (C := RX2) (T := TX2) (N := 16) hx hb hts hinX2 hown hK.1 hP 0 rfl rfl 13 (by decide) (hts (.fieldLink RX2 138 "PrinterRows" "signsCut" "I") (by decide +kernel)) (fun _ h9 => h9) rfl dX2_tally_69 ?_
    exact W.iret (v := sc) hx hb hr (fun t ht hW => ⟨_, rfl, by rw [tlR, if_neg k_0, if_neg k_1, if_neg k_2, if_neg k_3, if_pos k_4], ht⟩) (fun q h => by cases h) dX2_tally_72
  by_cases k_5 : w0 = 5
  ·
    refine lv_tableIn (off := 72) (tgt := 73) hx hb dX2_tally_1 (by rw [k_5]; decide +kernel) (by rw [k_5]; decide +kernel) (by rw [k_5]; decide +kernel) (by decide) ?_
    refine lv_aload_n hx hb dX2_tally_73 rfl (lv_at hl 0 rfl) ?_
    refine va_get (D := D) (ci := 3) (v := .int sk) (C := RX2) (T := TX2) (N := 16) hx hb hts hinX2 hown hK.1 hP 0 rfl rfl 14 (by decide) (hts (.fieldLink RX2 141 "PrinterRows" "skipsToNoLine" "I") (by decide +kernel)) (fun _ h9 => h9) rfl dX2_tally_74 ?_
    exact W.iret (v := sk) hx hb hr (fun t ht hW => ⟨_, rfl, by rw [tlR, if_neg k_0, if_neg k_1, if_neg k_2, if_neg k_3, if_neg k_4, if_pos k_5], ht⟩) (fun q h => by cases h) dX2_tally_77
  by_cases k_6 : w0 = 6
  ·
    refine lv_tableIn (off := 77) (tgt := 78) hx hb dX2_tally_1 (by rw [k_6]; decide +kernel) (by rw [k_6]; decide +kernel) (by rw [k_6]; decide +kernel) (by decide) ?_
    refine lv_aload_n hx hb dX2_tally_78 rfl (lv_at hl 0 rfl) ?_
    refine va_get (D := D) (ci := 3) (v := .int fa) (C := RX2) (T := TX2) (N := 16) hx hb hts hinX2 hown hK.1 hP 0 rfl rfl 15 (by decide) (hts (.fieldLink RX2 126 "PrinterRows" "formsAskedFor" "I") (by decide +kernel)) (fun _ h9 => h9) rfl dX2_tally_79 ?_
    exact W.iret (v := fa) hx hb hr (fun t ht hW => ⟨_, rfl, by rw [tlR, if_neg k_0, if_neg k_1, if_neg k_2, if_neg k_3, if_neg k_4, if_neg k_5, if_pos k_6], ht⟩) (fun q h => by cases h) dX2_tally_82
  by_cases k_7 : w0 = 7
  ·
    refine lv_tableIn (off := 82) (tgt := 83) hx hb dX2_tally_1 (by rw [k_7]; decide +kernel) (by rw [k_7]; decide +kernel) (by rw [k_7]; decide +kernel) (by decide) ?_
    refine lv_aload_n hx hb dX2_tally_83 rfl (lv_at hl 0 rfl) ?_
    refine va_get (D := D) (ci := 3) (v := .int (nI rl)) (C := RX2) (T := TX2) (N := 16) hx hb hts hinX2 hown hK.1 hP 0 rfl rfl 5 (by decide) (hts (.fieldLink RX2 46 "PrinterRows" "recordLength" "I") (by decide +kernel)) (fun _ h9 => h9) rfl dX2_tally_84 ?_
    exact W.iret (v := (nI rl)) hx hb hr (fun t ht hW => ⟨_, rfl, by rw [tlR, if_neg k_0, if_neg k_1, if_neg k_2, if_neg k_3, if_neg k_4, if_neg k_5, if_neg k_6, if_pos k_7], ht⟩) (fun q h => by cases h) dX2_tally_87
  refine lv_tableOut (tgt := 88) hx hb dX2_tally_1 (by have q_k_0 := lv_neT (a := 0) k_0 (by decide +kernel); have q_k_1 := lv_neT (a := 1) k_1 (by decide +kernel); have q_k_2 := lv_neT (a := 2) k_2 (by decide +kernel); have q_k_3 := lv_neT (a := 3) k_3 (by decide +kernel); have q_k_4 := lv_neT (a := 4) k_4 (by decide +kernel); have q_k_5 := lv_neT (a := 5) k_5 (by decide +kernel); have q_k_6 := lv_neT (a := 6) k_6 (by decide +kernel); have q_k_7 := lv_neT (a := 7) k_7 (by decide +kernel); omega) (by decide) ?_
  refine lv_iconst (v := (-1)) hx hb dX2_tally_88 (by decide +kernel) ?_
  exact W.iret (v := (-1)) hx hb hr (fun t ht hW => ⟨_, rfl, by rw [tlR, if_neg k_0, if_neg k_1, if_neg k_2, if_neg k_3, if_neg k_4, if_neg k_5, if_neg k_6, if_neg k_7], ht⟩) (fun q h => by cases h) dX2_tally_89

def bpR (bg : Nat) (pg : Nat → Option Nat) (q : Int32) : Option Nat := if ¬ q < 0 ∧ ¬ nI bg ≤ q then pg q.toNatClampNeg else none

set_option maxHeartbeats 4000000 in
set_option maxRecDepth 100000 in
theorem c_X2_begunPage (l : Launch) {D : va_G} {cI cP cR cJ : ClassId} {x aC aT aR aP L C rl bg st : Nat} {on : Bool} {mk rp sp sc sk fa : Int32} {ch tr rc : Nat → Int32} {pg : Nat → Option Nat} {pl : va_W} (hbg : bg ≤ 40) (q0 : Int32) : Met l yX2_begunPage wsX2_begunPage ({ frames := 0, cells := 0, slots := 0, locals := 0 }) (ro [.ref x, .int q0] D cI cP cR cJ (wX cI cP x aC aT aR aP (nI L) (nI C) (nI rl) (nI bg) (zb on) (nI st) mk rp sp sc sk fa ch tr rc pg pl)) (va_Sq (fun r => r = bpR bg pg q0)) 0 0 (fun _ => False) := by
  refine Met.ofW (cc := cX2_begunPage) (maxL := 2) (ret := (some (.object "PrinterRows$Page"))) (by decide) rfl ?_
  intro p e s m args below meth c s₁ B hml hv
  obtain ⟨rfl, hP, hK⟩ := hv
  have hx := B.exec
  have hb := B.bytes
  have hr := B.returns
  have hts := atoms_spec (ws := wsX2_begunPage) B.pre
  have hown : s.vm.findClass RX2 = some m.cls := findClass_of_methodNamed B.named
  have hlocks := B.notSynchronized
  have hinX2 : ∀ w ∈ wsX20, w ∈ wsX2_begunPage := by decide +kernel
  have hl := lv_entry ([.ref x, .int q0]) (n := 2) (Nat.le_of_ble_eq_true rfl)
  rw [lg_entry_eq]
  generalize (lg_sl ([.ref x, .int q0]) ++ List.replicate (2 - (lg_sl ([.ref x, .int q0])).length) Slot.unset).toArray = ls at hl ⊢
  have hl : lv_has ls 2 [(0, .ref x), (1, .int q0)] := hl
  refine lv_iload_n hx hb dX2_begunPage_0 rfl (lv_at hl 1 rfl) ?_
  refine lv_if_lt (tgt := 30) hx hb dX2_begunPage_1 (by decide) (fun c_1 => ?_) (fun c_1 => ?_)
  ·
    refine lv_null hx hb dX2_begunPage_30 ?_
    exact W.aret (v := .null) hx hb hr (Or.inl ⟨_, rfl⟩) (Or.inl rfl) (fun t ht hW => ⟨none, rfl, by rw [bpR, if_neg (fun h9 => h9.1 c_1)], ht⟩) (fun q h => by cases h) dX2_begunPage_31
  ·
    refine lv_iload_n hx hb dX2_begunPage_4 rfl (lv_at hl 1 rfl) ?_
    refine lv_aload_n hx hb dX2_begunPage_5 rfl (lv_at hl 0 rfl) ?_
    refine va_get (D := D) (ci := 3) (v := .int (nI bg)) (C := RX2) (T := TX2) (N := 16) hx hb hts hinX2 hown hK.1 hP 0 rfl rfl 7 (by decide) (hts (.fieldLink RX2 90 "PrinterRows" "begun" "I") (by decide +kernel)) (fun _ h9 => h9) rfl dX2_begunPage_6 ?_
    refine lv_icmp_ge (tgt := 30) hx hb dX2_begunPage_9 (by decide) (fun c_9 => ?_) (fun c_9 => ?_)
    ·
      refine lv_null hx hb dX2_begunPage_30 ?_
      exact W.aret (v := .null) hx hb hr (Or.inl ⟨_, rfl⟩) (Or.inl rfl) (fun t ht hW => ⟨none, rfl, by rw [bpR, if_neg (fun h9 => h9.2 c_9)], ht⟩) (fun q h => by cases h) dX2_begunPage_31
    ·
      refine lv_iload_n hx hb dX2_begunPage_12 rfl (lv_at hl 1 rfl) ?_
      refine lv_aload_n hx hb dX2_begunPage_13 rfl (lv_at hl 0 rfl) ?_
      refine va_get (D := D) (ci := 3) (v := .ref aP) (C := RX2) (T := TX2) (N := 16) hx hb hts hinX2 hown hK.1 hP 0 rfl rfl 6 (by decide) (hts (.fieldLink RX2 38 "PrinterRows" "pages" "[LPrinterRows$Page;") (by decide +kernel)) (fun _ h9 => h9) rfl dX2_begunPage_14 ?_
      refine va_alen (v := 40) hx hb hK.1 hP 4 1 rfl rfl rfl dX2_begunPage_17 ?_
      refine lv_icmp_ge (tgt := 30) hx hb dX2_begunPage_18 (by decide) (fun c_18 => ?_) (fun c_18 => ?_)
      ·
        refine lv_null hx hb dX2_begunPage_30 ?_
        exact W.aret (v := .null) hx hb hr (Or.inl ⟨_, rfl⟩) (Or.inl rfl) (fun t ht hW => ⟨none, rfl, by rw [bpR, if_neg (fun h9 => h9.2 (by rw [i32_le] at c_18 ⊢; rw [nI_toInt (by omega)]; have : (40 : Int32).toInt = 40 := rfl; omega))], ht⟩) (fun q h => by cases h) dX2_begunPage_31
      ·
        refine lv_aload_n hx hb dX2_begunPage_21 rfl (lv_at hl 0 rfl) ?_
        refine va_get (D := D) (ci := 3) (v := .ref aP) (C := RX2) (T := TX2) (N := 16) hx hb hts hinX2 hown hK.1 hP 0 rfl rfl 6 (by decide) (hts (.fieldLink RX2 38 "PrinterRows" "pages" "[LPrinterRows$Page;") (by decide +kernel)) (fun _ h9 => h9) rfl dX2_begunPage_22 ?_
        refine lv_iload_n hx hb dX2_begunPage_25 rfl (lv_at hl 1 rfl) ?_
        refine va_aldq hx hb hK.1 hP 4 1 rfl rfl (by rw [vp_in_iff]; rw [i32_lt] at c_1; rw [i32_le] at c_18; have : (40 : Int32).toInt = 40 := rfl; have : (0 : Int32).toInt = 0 := rfl; omega) dX2_begunPage_26 ?_
        refine lv_goto (tgt := 31) hx hb dX2_begunPage_27 (by decide) ?_
        exact W.aret (v := va_rf (pg (q0).toNatClampNeg)) hx hb hr (Or.inl ⟨_, rfl⟩) (va_rf_or _) (fun t ht hW => ⟨(pg (q0).toNatClampNeg), rfl, by rw [bpR, if_pos ⟨c_1, c_9⟩], ht⟩) (fun q h => by cases h) dX2_begunPage_31
end
section
/-! the class's methods that write its own fields and rows -/
def okc (L : Nat) (c ln : Int32) : Bool := if zb (isCh c) = 0 then false else if ln < -1 then false else if ln < nI L then true else false
def chR (L : Nat) (ch : Nat → Int32) (c ln : Int32) : Int32 := if okc L c ln then ch c.toNatClampNeg else -2
def chN (L : Nat) (ch : Nat → Int32) (c ln : Int32) : Nat → Int32 := if okc L c ln then upd ch c.toNatClampNeg ln else ch
def sgV (c : Int32) : Int32 := mx 32 (fMod c 256)
def sgC (rl : Nat) (rc : Nat → Int32) (c : Int32) : Nat → Int32 := if rl < 200 then upd rc rl (sgV c) else rc
def sgL (rl : Nat) : Nat := if rl < 200 then rl + 1 else rl
def skN (ch : Nat → Int32) (sk c : Int32) : Int32 := if zb (isCh c) = 0 then sk else if ¬ ch c.toNatClampNeg = -1 then sk else sk + 1
def okt (c to : Int32) : Bool := if zb (isSg c) = 0 then false else if ¬ zb (isSg to) = 0 then true else false
def trR (tr : Nat → Int32) (c to : Int32) : Int32 := if okt c to then tr c.toNatClampNeg else -1
def trN (tr : Nat → Int32) (c to : Int32) : Nat → Int32 := if okt c to then upd tr c.toNatClampNeg to else tr
def fmR (mk k : Int32) : Int32 := if 0 ≤ k then (if k = mk then 1 else 2) else -2
def fmD (mk k : Int32) : Bool := if 0 ≤ k then (if k = mk then false else true) else false
def bkO (bg : Nat) (n : Int32) : Bool := if n < 0 then false else if n ≤ nI bg then true else false
def bkB (bg : Nat) (n : Int32) : Nat := if bkO bg n then bg - n.toNatClampNeg else bg
def bkR (bg : Nat) (n : Int32) : Int32 := if bkO bg n then nI (bg - n.toNatClampNeg) else -2

set_option maxHeartbeats 4000000 in
set_option maxRecDepth 100000 in
theorem c_X2_channel (l : Launch) {D : va_G} {cI cP cR cJ : ClassId} {x aC aT aR aP L C rl bg st : Nat} {on : Bool} {mk rp sp sc sk fa : Int32} {ch tr rc : Nat → Int32} {pg : Nat → Option Nat} {pl : va_W} {sz : Nat} (c0 l0 : Int32) : Met l yX2_channel wsX2_channel ({ frames := 1, cells := 0, slots := 0, locals := 20 }) (mu [.ref x, .int c0, .int l0] D cI cP cR cJ (wX cI cP x aC aT aR aP (nI L) (nI C) (nI rl) (nI bg) (zb on) (nI st) mk rp sp sc sk fa ch tr rc pg pl) sz) (qi D (fun (r : Int32) (u : Nat → Int32) => r = chR L ch c0 l0 ∧ u = chN L ch c0 l0) (fun u : Nat → Int32 => wX cI cP x aC aT aR aP (nI L) (nI C) (nI rl) (nI bg) (zb on) (nI st) mk rp sp sc sk fa u tr rc pg pl) (va_A (wX cI cP x aC aT aR aP (nI L) (nI C) (nI rl) (nI bg) (zb on) (nI st) mk rp sp sc sk fa ch tr rc pg pl) sz)) 0 0 (va_A (wX cI cP x aC aT aR aP (nI L) (nI C) (nI rl) (nI bg) (zb on) (nI st) mk rp sp sc sk fa ch tr rc pg pl) sz) := by
  refine Met.ofW (cc := cX2_channel) (maxL := 4) (ret := (some .int)) (by decide) rfl ?_
  intro p e s m args below meth c s₁ B hml hv
  obtain ⟨rfl, hsz, hP, hK, hD0⟩ := hv
  have hx := B.exec
  have hb := B.bytes
  have hr := B.returns
  have hts := atoms_spec (ws := wsX2_channel) B.pre
  have hown : s.vm.findClass RX2 = some m.cls := findClass_of_methodNamed B.named
  have hlocks := B.notSynchronized
  have hinX2 : ∀ w ∈ wsX20, w ∈ wsX2_channel := by decide +kernel
  subst hsz
  have hD := hD0.self (sz := s.heap.size)
  generalize hAe : va_A (wX cI cP x aC aT aR aP (nI L) (nI C) (nI rl) (nI bg) (zb on) (nI st) mk rp sp sc sk fa ch tr rc pg pl) s.heap.size = A at hD ⊢
  have hA : ∀ q : Nat, s.heap.size ≤ q → A q := fun q h => by rw [← hAe]; exact Or.inr h
  have hS : va_S A s.heap s.heap [] := va_S.rf
  have hP : va_P D vwCl (wX cI cP x aC aT aR aP (nI L) (nI C) (nI rl) (nI bg) (zb on) (nI st) mk rp sp sc sk fa ch tr rc pg pl) s.heap := hP
  have hl := lv_entry ([.ref x, .int c0, .int l0]) (n := 4) (Nat.le_of_ble_eq_true rfl)
  rw [lg_entry_eq]
  generalize (lg_sl ([.ref x, .int c0, .int l0]) ++ List.replicate (4 - (lg_sl ([.ref x, .int c0, .int l0])).length) Slot.unset).toArray = ls at hl ⊢
  have hl : lv_has ls 4 [(0, .ref x), (1, .int c0), (2, .int l0)] := hl
  refine lv_iload_n hx hb dX2_channel_0 rfl (lv_at hl 1 rfl) ?_
  refine vp_callSi (W.runS (As := [.int c0]) (rest := []) ⟨hx, hb, hml, hown, hts⟩ (c_X2_isChannel l (c0)) (va_cwS 1 hts gX2_channel_X2_isChannel rfl rfl rfl (by decide +kernel) ⟨(Nat.le_of_ble_eq_true rfl), (Nat.le_of_ble_eq_true rfl)⟩) pu_pre rfl rfl hl.1 rfl (lv_room (Nat.le_of_ble_eq_true rfl)) dX2_channel_1 ⟨(Nat.le_of_ble_eq_true rfl), (Nat.le_of_ble_eq_true rfl)⟩) (fun r_1 w_1 => ?_)
  subst w_1
  refine lv_if_eq (tgt := 20) hx hb dX2_channel_4 (by decide) (fun c_4 => ?_) (fun c_4 => ?_)
  ·
    refine lv_bipush (v := (-2)) hx hb dX2_channel_20 (by decide +kernel) ?_
    exact W.iret (v := (-2)) hx hb hr (fun t ht hW => ⟨⟨_, ch, rfl, ⟨by simp [chR, okc, c_4], by simp [chN, okc, c_4]⟩, by rw [ht]; exact hP, hD⟩, hS.F ht⟩) hS.2.2 dX2_channel_22
  ·
    refine lv_iload_n hx hb dX2_channel_7 rfl (lv_at hl 2 rfl) ?_
    refine lv_iconst (v := (-1)) hx hb dX2_channel_8 (by decide +kernel) ?_
    refine lv_icmp_lt (tgt := 20) hx hb dX2_channel_9 (by decide) (fun c_9 => ?_) (fun c_9 => ?_)
    ·
      refine lv_bipush (v := (-2)) hx hb dX2_channel_20 (by decide +kernel) ?_
      exact W.iret (v := (-2)) hx hb hr (fun t ht hW => ⟨⟨_, ch, rfl, ⟨by simp [chR, okc, c_4, c_9], by simp [chN, okc, c_4, c_9]⟩, by rw [ht]; exact hP, hD⟩, hS.F ht⟩) hS.2.2 dX2_channel_22
    ·
      refine lv_iload_n hx hb dX2_channel_12 rfl (lv_at hl 2 rfl) ?_
      refine lv_aload_n hx hb dX2_channel_13 rfl (lv_at hl 0 rfl) ?_
      refine va_get (D := D) (ci := 3) (v := .int (nI L)) (C := RX2) (T := TX2) (N := 16) hx hb hts hinX2 hown hK.1 hP 0 rfl rfl 0 (by decide) (hts (.fieldLink RX2 13 "PrinterRows" "lines" "I") (by decide +kernel)) (fun _ h9 => h9) rfl dX2_channel_14 ?_
      refine lv_icmp_lt (tgt := 23) hx hb dX2_channel_17 (by decide) (fun c_17 => ?_) (fun c_17 => ?_)
      ·
        refine lv_aload_n hx hb dX2_channel_23 rfl (lv_at hl 0 rfl) ?_
        refine va_get (D := D) (ci := 3) (v := .ref aC) (C := RX2) (T := TX2) (N := 16) hx hb hts hinX2 hown hK.1 hP 0 rfl rfl 2 (by decide) (hts (.fieldLink RX2 20 "PrinterRows" "channelLines" "[I") (by decide +kernel)) (fun _ h9 => h9) rfl dX2_channel_24 ?_
        refine lv_iload_n hx hb dX2_channel_27 rfl (lv_at hl 1 rfl) ?_
        refine va_iald hx hb hK.1 hP 1 0 rfl rfl (isCh_in c_4) dX2_channel_28 ?_
        refine lv_istore_n (lv' := [(3, .int (ch (c0).toNatClampNeg)), (0, .ref x), (1, .int c0), (2, .int l0)]) hx hb dX2_channel_29 rfl hl (by decide) rfl (fun ls hl => ?_)
        refine lv_aload_n hx hb dX2_channel_30 rfl (lv_at hl 1 rfl) ?_
        refine va_get (D := D) (ci := 3) (v := .ref aC) (C := RX2) (T := TX2) (N := 16) hx hb hts hinX2 hown hK.1 hP 0 rfl rfl 2 (by decide) (hts (.fieldLink RX2 20 "PrinterRows" "channelLines" "[I") (by decide +kernel)) (fun _ h9 => h9) rfl dX2_channel_31 ?_
        refine lv_iload_n hx hb dX2_channel_34 rfl (lv_at hl 2 rfl) ?_
        refine lv_iload_n hx hb dX2_channel_35 rfl (lv_at hl 3 rfl) ?_
        refine va_iast hx hb hK.1 hP hD hS 1 0 rfl rfl (isCh_in c_4) dX2_channel_36 (fun H locs hP hD hS => ?_)
        have hP : va_P D vwCl (wX cI cP x aC aT aR aP (nI L) (nI C) (nI rl) (nI bg) (zb on) (nI st) mk rp sp sc sk fa (upd ch (c0).toNatClampNeg l0) tr rc pg pl) H := hP
        have hD : va_D A (wX cI cP x aC aT aR aP (nI L) (nI C) (nI rl) (nI bg) (zb on) (nI st) mk rp sp sc sk fa (upd ch (c0).toNatClampNeg l0) tr rc pg pl) := hD
        refine lv_iload_n hx hb dX2_channel_37 rfl (lv_at hl 0 rfl) ?_
        exact W.iret (v := (ch (c0).toNatClampNeg)) hx hb hr (fun t ht hW => ⟨⟨_, _, rfl, ⟨by simp [chR, okc, c_4, c_9, c_17], by simp [chN, okc, c_4, c_9, c_17]⟩, by rw [ht]; exact hP, hD⟩, hS.F ht⟩) hS.2.2 dX2_channel_38
      ·
        refine lv_bipush (v := (-2)) hx hb dX2_channel_20 (by decide +kernel) ?_
        exact W.iret (v := (-2)) hx hb hr (fun t ht hW => ⟨⟨_, ch, rfl, ⟨by simp [chR, okc, c_4, c_9, c_17], by simp [chN, okc, c_4, c_9, c_17]⟩, by rw [ht]; exact hP, hD⟩, hS.F ht⟩) hS.2.2 dX2_channel_22

set_option maxHeartbeats 4000000 in
set_option maxRecDepth 100000 in
theorem c_X2_sign (l : Launch) {D : va_G} {cI cP cR cJ : ClassId} {x aC aT aR aP L C rl bg st : Nat} {on : Bool} {mk rp sp sc sk fa : Int32} {ch tr rc : Nat → Int32} {pg : Nat → Option Nat} {pl : va_W} {sz : Nat} (hrl : rl ≤ 200) (c0 : Int32) : Met l yX2_sign wsX2_sign ({ frames := 1, cells := 0, slots := 0, locals := 22 }) (mu [.ref x, .int c0] D cI cP cR cJ (wX cI cP x aC aT aR aP (nI L) (nI C) (nI rl) (nI bg) (zb on) (nI st) mk rp sp sc sk fa ch tr rc pg pl) sz) (qv D (fun (u : (Nat → Int32) × Nat) => u = (sgC rl rc c0, sgL rl)) (fun u : (Nat → Int32) × Nat => wX cI cP x aC aT aR aP (nI L) (nI C) (nI u.2) (nI bg) (zb on) (nI st) mk rp sp sc sk fa ch tr u.1 pg pl) (va_A (wX cI cP x aC aT aR aP (nI L) (nI C) (nI rl) (nI bg) (zb on) (nI st) mk rp sp sc sk fa ch tr rc pg pl) sz)) 0 0 (va_A (wX cI cP x aC aT aR aP (nI L) (nI C) (nI rl) (nI bg) (zb on) (nI st) mk rp sp sc sk fa ch tr rc pg pl) sz) := by
  refine Met.ofW (cc := cX2_sign) (maxL := 2) (ret := none) (by decide) rfl ?_
  intro p e s m args below meth c s₁ B hml hv
  obtain ⟨rfl, hsz, hP, hK, hD0⟩ := hv
  have hx := B.exec
  have hb := B.bytes
  have hr := B.returns
  have hts := atoms_spec (ws := wsX2_sign) B.pre
  have hown : s.vm.findClass RX2 = some m.cls := findClass_of_methodNamed B.named
  have hlocks := B.notSynchronized
  have hinX2 : ∀ w ∈ wsX20, w ∈ wsX2_sign := by decide +kernel
  subst hsz
  have hD := hD0.self (sz := s.heap.size)
  generalize hAe : va_A (wX cI cP x aC aT aR aP (nI L) (nI C) (nI rl) (nI bg) (zb on) (nI st) mk rp sp sc sk fa ch tr rc pg pl) s.heap.size = A at hD ⊢
  have hA : ∀ q : Nat, s.heap.size ≤ q → A q := fun q h => by rw [← hAe]; exact Or.inr h
  have hS : va_S A s.heap s.heap [] := va_S.rf
  have hP : va_P D vwCl (wX cI cP x aC aT aR aP (nI L) (nI C) (nI rl) (nI bg) (zb on) (nI st) mk rp sp sc sk fa ch tr rc pg pl) s.heap := hP
  have hl := lv_entry ([.ref x, .int c0]) (n := 2) (Nat.le_of_ble_eq_true rfl)
  rw [lg_entry_eq]
  generalize (lg_sl ([.ref x, .int c0]) ++ List.replicate (2 - (lg_sl ([.ref x, .int c0])).length) Slot.unset).toArray = ls at hl ⊢
  have hl : lv_has ls 2 [(0, .ref x), (1, .int c0)] := hl
  refine lv_aload_n hx hb dX2_sign_0 rfl (lv_at hl 0 rfl) ?_
  refine va_get (D := D) (ci := 3) (v := .int (nI rl)) (C := RX2) (T := TX2) (N := 16) hx hb hts hinX2 hown hK.1 hP 0 rfl rfl 5 (by decide) (hts (.fieldLink RX2 46 "PrinterRows" "recordLength" "I") (by decide +kernel)) (fun _ h9 => h9) rfl dX2_sign_1 ?_
  refine lv_if_lt (tgt := 19) hx hb dX2_sign_4 (by decide) (fun c_4 => absurd c_4 (nI_pos (by omega))) (fun c_4 => ?_)
  refine lv_aload_n hx hb dX2_sign_7 rfl (lv_at hl 0 rfl) ?_
  refine va_get (D := D) (ci := 3) (v := .int (nI rl)) (C := RX2) (T := TX2) (N := 16) hx hb hts hinX2 hown hK.1 hP 0 rfl rfl 5 (by decide) (hts (.fieldLink RX2 46 "PrinterRows" "recordLength" "I") (by decide +kernel)) (fun _ h9 => h9) rfl dX2_sign_8 ?_
  refine lv_aload_n hx hb dX2_sign_11 rfl (lv_at hl 0 rfl) ?_
  refine va_get (D := D) (ci := 3) (v := .ref aR) (C := RX2) (T := TX2) (N := 16) hx hb hts hinX2 hown hK.1 hP 0 rfl rfl 4 (by decide) (hts (.fieldLink RX2 33 "PrinterRows" "record" "[I") (by decide +kernel)) (fun _ h9 => h9) rfl dX2_sign_12 ?_
  refine va_alen (v := 200) hx hb hK.1 hP 3 0 rfl rfl rfl dX2_sign_15 ?_
  refine lv_icmp_lt (tgt := 20) hx hb dX2_sign_16 (by decide) (fun c_16 => ?_) (fun c_16 => ?_)
  ·
    refine lv_aload_n hx hb dX2_sign_20 rfl (lv_at hl 0 rfl) ?_
    refine va_get (D := D) (ci := 3) (v := .ref aR) (C := RX2) (T := TX2) (N := 16) hx hb hts hinX2 hown hK.1 hP 0 rfl rfl 4 (by decide) (hts (.fieldLink RX2 33 "PrinterRows" "record" "[I") (by decide +kernel)) (fun _ h9 => h9) rfl dX2_sign_21 ?_
    refine lv_aload_n hx hb dX2_sign_24 rfl (lv_at hl 0 rfl) ?_
    refine va_get (D := D) (ci := 3) (v := .int (nI rl)) (C := RX2) (T := TX2) (N := 16) hx hb hts hinX2 hown hK.1 hP 0 rfl rfl 5 (by decide) (hts (.fieldLink RX2 46 "PrinterRows" "recordLength" "I") (by decide +kernel)) (fun _ h9 => h9) rfl dX2_sign_25 ?_
    refine lv_bipush (v := 32) hx hb dX2_sign_28 (by decide +kernel) ?_
    refine lv_iload_n hx hb dX2_sign_30 rfl (lv_at hl 1 rfl) ?_
    refine lv_sipush (v := 256) hx hb dX2_sign_31 (by decide +kernel) ?_
    refine vp_callSi (W.runS (As := [.int c0, .int 256]) (rest := [.int 32, .int (nI rl), .ref aR]) ⟨hx, hb, hml, hown, hts⟩ (c_J9_floorMod_7cf53 l c0 256 (by decide)) (va_cwS 2 hts gX2_sign_J9_floorMod_7cf53 rfl rfl rfl (by decide +kernel) ⟨(Nat.le_of_ble_eq_true rfl), (Nat.le_of_ble_eq_true rfl)⟩) pu_pre rfl rfl hl.1 rfl (lv_room (Nat.le_of_ble_eq_true rfl)) dX2_sign_34 ⟨(Nat.le_of_ble_eq_true rfl), (Nat.le_of_ble_eq_true rfl)⟩) (fun r_34 w_34 => ?_)
    subst w_34
    refine va_mmax hx hb (by rw [hml]; exact hl.1.symm) hown (hts (.methodLink RX2 54 Lib.Math.max.name) (by decide +kernel)) (hts (.static Lib.Math.max.name) (by decide +kernel)) (hts (.initialized "java/lang/Math") (by decide +kernel)) (hts (.code Lib.Math.max.name Lib.Math.max.code 2 (some .int)) (by decide +kernel)) (Nat.le_of_ble_eq_true rfl) (Nat.le_of_ble_eq_true rfl) (Nat.le_of_ble_eq_true rfl) (Nat.le_of_ble_eq_true rfl) dX2_sign_37 ?_
    refine va_iast hx hb hK.1 hP hD hS 3 0 rfl rfl (vp_in_nI (nI_ltI (a := rl) (b := 200) (by omega) (by decide) |>.mp c_16) (by decide)) dX2_sign_40 (fun H locs hP hD hS => ?_)
    rw [show (upd rc ((nI rl)).toNatClampNeg (if 32 < (fMod c0 256) then (fMod c0 256) else 32)) = (upd rc rl (sgV c0)) from by rw [nI_clamp (by omega)]; rfl] at hP hD
    have hP : va_P D vwCl (wX cI cP x aC aT aR aP (nI L) (nI C) (nI rl) (nI bg) (zb on) (nI st) mk rp sp sc sk fa ch tr (upd rc rl (sgV c0)) pg pl) H := hP
    have hD : va_D A (wX cI cP x aC aT aR aP (nI L) (nI C) (nI rl) (nI bg) (zb on) (nI st) mk rp sp sc sk fa ch tr (upd rc rl (sgV c0)) pg pl) := hD
    refine lv_aload_n hx hb dX2_sign_41 rfl (lv_at hl 0 rfl) ?_
    refine lv_dup hx hb dX2_sign_42 rfl ?_
    refine va_get (D := D) (ci := 3) (v := .int (nI rl)) (C := RX2) (T := TX2) (N := 16) hx hb hts hinX2 hown hK.1 hP 0 rfl rfl 5 (by decide) (hts (.fieldLink RX2 46 "PrinterRows" "recordLength" "I") (by decide +kernel)) (fun _ h9 => h9) rfl dX2_sign_43 ?_
    refine lv_iconst (v := 1) hx hb dX2_sign_46 (by decide +kernel) ?_
    refine lv_iadd hx hb dX2_sign_47 ?_
    refine lv_topi (fun x_47 ex_47 => ?_)
    obtain rfl : x_47 = nI (rl + 1) := ex_47.trans (nI_1 rl)
    refine va_put (D := D) (ci := 3) (v := .int (nI (rl + 1))) (ty := .int) (C := RX2) (T := TX2) (N := 16) hx hb hts hinX2 tyX2 tyX2_ok nmX2 hown hK.1 hP hD hS 0 rfl rfl 5 (by decide) (hts (.fieldLink RX2 46 "PrinterRows" "recordLength" "I") (by decide +kernel)) (fun _ h9 => h9) rfl (by decide +kernel) rfl rfl (Nat.le_of_ble_eq_true rfl) dX2_sign_48 (fun H locs hP hD hS => ?_)
    have hP : va_P D vwCl (wX cI cP x aC aT aR aP (nI L) (nI C) (nI (rl + 1)) (nI bg) (zb on) (nI st) mk rp sp sc sk fa ch tr (upd rc rl (sgV c0)) pg pl) H := hP
    have hD : va_D A (wX cI cP x aC aT aR aP (nI L) (nI C) (nI (rl + 1)) (nI bg) (zb on) (nI st) mk rp sp sc sk fa ch tr (upd rc rl (sgV c0)) pg pl) := hD
    exact W.vret hx hb hr (fun t ht hW => ⟨⟨(upd rc rl (sgV c0), rl + 1), rfl, by rw [sgC, sgL, if_pos ((nI_ltI (a := rl) (b := 200) (by omega) (by decide)).mp c_16), if_pos ((nI_ltI (a := rl) (b := 200) (by omega) (by decide)).mp c_16)], by rw [ht]; exact hP, hD⟩, hS.F ht⟩) hS.2.2 dX2_sign_51
  ·
    exact W.vret hx hb hr (fun t ht hW => ⟨⟨(rc, rl), rfl, by rw [sgC, sgL, if_neg (fun h9 => c_16 (nI_lt (b := 200) h9 (by decide))), if_neg (fun h9 => c_16 (nI_lt (b := 200) h9 (by decide)))], by rw [ht]; exact hP, hD⟩, hS.F ht⟩) hS.2.2 dX2_sign_19

set_option maxHeartbeats 4000000 in
set_option maxRecDepth 100000 in
theorem c_X2_countSkip (l : Launch) {D : va_G} {cI cP cR cJ : ClassId} {x aC aT aR aP L C rl bg st : Nat} {on : Bool} {mk rp sp sc sk fa : Int32} {ch tr rc : Nat → Int32} {pg : Nat → Option Nat} {pl : va_W} {sz : Nat} (c0 : Int32) : Met l yX2_countSkip wsX2_countSkip ({ frames := 1, cells := 0, slots := 0, locals := 20 }) (mu [.ref x, .int c0] D cI cP cR cJ (wX cI cP x aC aT aR aP (nI L) (nI C) (nI rl) (nI bg) (zb on) (nI st) mk rp sp sc sk fa ch tr rc pg pl) sz) (qv D (fun (u : Int32) => u = skN ch sk c0) (fun u : Int32 => wX cI cP x aC aT aR aP (nI L) (nI C) (nI rl) (nI bg) (zb on) (nI st) mk rp sp sc u fa ch tr rc pg pl) (va_A (wX cI cP x aC aT aR aP (nI L) (nI C) (nI rl) (nI bg) (zb on) (nI st) mk rp sp sc sk fa ch tr rc pg pl) sz)) 0 0 (va_A (wX cI cP x aC aT aR aP (nI L) (nI C) (nI rl) (nI bg) (zb on) (nI st) mk rp sp sc sk fa ch tr rc pg pl) sz) := by
  refine Met.ofW (cc := cX2_countSkip) (maxL := 2) (ret := none) (by decide) rfl ?_
  intro p e s m args below meth c s₁ B hml hv
  obtain ⟨rfl, hsz, hP, hK, hD0⟩ := hv
  have hx := B.exec
  have hb := B.bytes
  have hr := B.returns
  have hts := atoms_spec (ws := wsX2_countSkip) B.pre
  have hown : s.vm.findClass RX2 = some m.cls := findClass_of_methodNamed B.named
  have hlocks := B.notSynchronized
  have hinX2 : ∀ w ∈ wsX20, w ∈ wsX2_countSkip := by decide +kernel
  subst hsz
  have hD := hD0.self (sz := s.heap.size)
  generalize hAe : va_A (wX cI cP x aC aT aR aP (nI L) (nI C) (nI rl) (nI bg) (zb on) (nI st) mk rp sp sc sk fa ch tr rc pg pl) s.heap.size = A at hD ⊢
  have hA : ∀ q : Nat, s.heap.size ≤ q → A q := fun q h => by rw [← hAe]; exact Or.inr h
  have hS : va_S A s.heap s.heap [] := va_S.rf
  have hP : va_P D vwCl (wX cI cP x aC aT aR aP (nI L) (nI C) (nI rl) (nI bg) (zb on) (nI st) mk rp sp sc sk fa ch tr rc pg pl) s.heap := hP
  have hl := lv_entry ([.ref x, .int c0]) (n := 2) (Nat.le_of_ble_eq_true rfl)
  rw [lg_entry_eq]
  generalize (lg_sl ([.ref x, .int c0]) ++ List.replicate (2 - (lg_sl ([.ref x, .int c0])).length) Slot.unset).toArray = ls at hl ⊢
  have hl : lv_has ls 2 [(0, .ref x), (1, .int c0)] := hl
  refine lv_iload_n hx hb dX2_countSkip_0 rfl (lv_at hl 1 rfl) ?_
  refine vp_callSi (W.runS (As := [.int c0]) (rest := []) ⟨hx, hb, hml, hown, hts⟩ (c_X2_isChannel l (c0)) (va_cwS 1 hts gX2_countSkip_X2_isChannel rfl rfl rfl (by decide +kernel) ⟨(Nat.le_of_ble_eq_true rfl), (Nat.le_of_ble_eq_true rfl)⟩) pu_pre rfl rfl hl.1 rfl (lv_room (Nat.le_of_ble_eq_true rfl)) dX2_countSkip_1 ⟨(Nat.le_of_ble_eq_true rfl), (Nat.le_of_ble_eq_true rfl)⟩) (fun r_1 w_1 => ?_)
  subst w_1
  refine lv_if_eq (tgt := 27) hx hb dX2_countSkip_4 (by decide) (fun c_4 => ?_) (fun c_4 => ?_)
  ·
    exact W.vret hx hb hr (fun t ht hW => ⟨⟨sk, rfl, by rw [skN, if_pos c_4], by rw [ht]; exact hP, hD⟩, hS.F ht⟩) hS.2.2 dX2_countSkip_27
  ·
    refine lv_aload_n hx hb dX2_countSkip_7 rfl (lv_at hl 0 rfl) ?_
    refine va_get (D := D) (ci := 3) (v := .ref aC) (C := RX2) (T := TX2) (N := 16) hx hb hts hinX2 hown hK.1 hP 0 rfl rfl 2 (by decide) (hts (.fieldLink RX2 20 "PrinterRows" "channelLines" "[I") (by decide +kernel)) (fun _ h9 => h9) rfl dX2_countSkip_8 ?_
    refine lv_iload_n hx hb dX2_countSkip_11 rfl (lv_at hl 1 rfl) ?_
    refine va_iald hx hb hK.1 hP 1 0 rfl rfl (isCh_in c_4) dX2_countSkip_12 ?_
    refine lv_iconst (v := (-1)) hx hb dX2_countSkip_13 (by decide +kernel) ?_
    refine lv_icmp_ne (tgt := 27) hx hb dX2_countSkip_14 (by decide) (fun c_14 => ?_) (fun c_14 => ?_)
    ·
      exact W.vret hx hb hr (fun t ht hW => ⟨⟨sk, rfl, by rw [skN, if_neg c_4, if_pos c_14], by rw [ht]; exact hP, hD⟩, hS.F ht⟩) hS.2.2 dX2_countSkip_27
    ·
      refine lv_aload_n hx hb dX2_countSkip_17 rfl (lv_at hl 0 rfl) ?_
      refine lv_dup hx hb dX2_countSkip_18 rfl ?_
      refine va_get (D := D) (ci := 3) (v := .int sk) (C := RX2) (T := TX2) (N := 16) hx hb hts hinX2 hown hK.1 hP 0 rfl rfl 14 (by decide) (hts (.fieldLink RX2 141 "PrinterRows" "skipsToNoLine" "I") (by decide +kernel)) (fun _ h9 => h9) rfl dX2_countSkip_19 ?_
      refine lv_iconst (v := 1) hx hb dX2_countSkip_22 (by decide +kernel) ?_
      refine lv_iadd hx hb dX2_countSkip_23 ?_
      refine va_put (D := D) (ci := 3) (v := .int (sk + 1)) (ty := .int) (C := RX2) (T := TX2) (N := 16) hx hb hts hinX2 tyX2 tyX2_ok nmX2 hown hK.1 hP hD hS 0 rfl rfl 14 (by decide) (hts (.fieldLink RX2 141 "PrinterRows" "skipsToNoLine" "I") (by decide +kernel)) (fun _ h9 => h9) rfl (by decide +kernel) rfl rfl (Nat.le_of_ble_eq_true rfl) dX2_countSkip_24 (fun H locs hP hD hS => ?_)
      have hP : va_P D vwCl (wX cI cP x aC aT aR aP (nI L) (nI C) (nI rl) (nI bg) (zb on) (nI st) mk rp sp sc (sk + 1) fa ch tr rc pg pl) H := hP
      have hD : va_D A (wX cI cP x aC aT aR aP (nI L) (nI C) (nI rl) (nI bg) (zb on) (nI st) mk rp sp sc (sk + 1) fa ch tr rc pg pl) := hD
      exact W.vret hx hb hr (fun t ht hW => ⟨⟨(sk + 1), rfl, by rw [skN, if_neg c_4, if_neg (fun h9 => h9 c_14)], by rw [ht]; exact hP, hD⟩, hS.F ht⟩) hS.2.2 dX2_countSkip_27

set_option maxHeartbeats 4000000 in
set_option maxRecDepth 100000 in
theorem c_X2_standOnNewPage (l : Launch) {D : va_G} {cI cP cR cJ : ClassId} {x aC aT aR aP L C rl bg st : Nat} {on : Bool} {mk rp sp sc sk fa : Int32} {ch tr rc : Nat → Int32} {pg : Nat → Option Nat} {pl : va_W} {sz : Nat} : Met l yX2_standOnNewPage wsX2_standOnNewPage ({ frames := 0, cells := 0, slots := 0, locals := 0 }) (mu [.ref x] D cI cP cR cJ (wX cI cP x aC aT aR aP (nI L) (nI C) (nI rl) (nI bg) (zb on) (nI st) mk rp sp sc sk fa ch tr rc pg pl) sz) (qv D (fun (_ : Unit) => True) (fun _ : Unit => wX cI cP x aC aT aR aP (nI L) (nI C) (nI rl) (nI bg) (zb false) (nI 0) mk rp sp sc sk fa ch tr rc pg pl) (va_A (wX cI cP x aC aT aR aP (nI L) (nI C) (nI rl) (nI bg) (zb on) (nI st) mk rp sp sc sk fa ch tr rc pg pl) sz)) 0 0 (va_A (wX cI cP x aC aT aR aP (nI L) (nI C) (nI rl) (nI bg) (zb on) (nI st) mk rp sp sc sk fa ch tr rc pg pl) sz) := by
  refine Met.ofW (cc := cX2_standOnNewPage) (maxL := 1) (ret := none) (by decide) rfl ?_
  intro p e s m args below meth c s₁ B hml hv
  obtain ⟨rfl, hsz, hP, hK, hD0⟩ := hv
  have hx := B.exec
  have hb := B.bytes
  have hr := B.returns
  have hts := atoms_spec (ws := wsX2_standOnNewPage) B.pre
  have hown : s.vm.findClass RX2 = some m.cls := findClass_of_methodNamed B.named
  have hlocks := B.notSynchronized
  have hinX2 : ∀ w ∈ wsX20, w ∈ wsX2_standOnNewPage := by decide +kernel
  subst hsz
  have hD := hD0.self (sz := s.heap.size)
  generalize hAe : va_A (wX cI cP x aC aT aR aP (nI L) (nI C) (nI rl) (nI bg) (zb on) (nI st) mk rp sp sc sk fa ch tr rc pg pl) s.heap.size = A at hD ⊢
  have hA : ∀ q : Nat, s.heap.size ≤ q → A q := fun q h => by rw [← hAe]; exact Or.inr h
  have hS : va_S A s.heap s.heap [] := va_S.rf
  have hP : va_P D vwCl (wX cI cP x aC aT aR aP (nI L) (nI C) (nI rl) (nI bg) (zb on) (nI st) mk rp sp sc sk fa ch tr rc pg pl) s.heap := hP
  have hl := lv_entry ([.ref x]) (n := 1) (Nat.le_of_ble_eq_true rfl)
  rw [lg_entry_eq]
  generalize (lg_sl ([.ref x]) ++ List.replicate (1 - (lg_sl ([.ref x])).length) Slot.unset).toArray = ls at hl ⊢
  have hl : lv_has ls 1 [(0, .ref x)] := hl
  refine lv_aload_n hx hb dX2_standOnNewPage_0 rfl (lv_at hl 0 rfl) ?_
  refine lv_iconst (v := 0) hx hb dX2_standOnNewPage_1 (by decide +kernel) ?_
  refine va_put (D := D) (ci := 3) (v := .int 0) (ty := .boolean) (C := RX2) (T := TX2) (N := 16) hx hb hts hinX2 tyX2 tyX2_ok nmX2 hown hK.1 hP hD hS 0 rfl rfl 8 (by decide) (hts (.fieldLink RX2 150 "PrinterRows" "onBegunPage" "Z") (by decide +kernel)) (fun _ h9 => h9) rfl (by decide +kernel) (by decide +kernel) (by decide +kernel) (Nat.le_of_ble_eq_true rfl) dX2_standOnNewPage_2 (fun H locs hP hD hS => ?_)
  have hP : va_P D vwCl (wX cI cP x aC aT aR aP (nI L) (nI C) (nI rl) (nI bg) 0 (nI st) mk rp sp sc sk fa ch tr rc pg pl) H := hP
  have hD : va_D A (wX cI cP x aC aT aR aP (nI L) (nI C) (nI rl) (nI bg) 0 (nI st) mk rp sp sc sk fa ch tr rc pg pl) := hD
  refine lv_aload_n hx hb dX2_standOnNewPage_5 rfl (lv_at hl 0 rfl) ?_
  refine lv_iconst (v := 0) hx hb dX2_standOnNewPage_6 (by decide +kernel) ?_
  refine va_put (D := D) (ci := 3) (v := .int 0) (ty := .int) (C := RX2) (T := TX2) (N := 16) hx hb hts hinX2 tyX2 tyX2_ok nmX2 hown hK.1 hP hD hS 0 rfl rfl 9 (by decide) (hts (.fieldLink RX2 129 "PrinterRows" "standLine" "I") (by decide +kernel)) (fun _ h9 => h9) rfl (by decide +kernel) rfl rfl (Nat.le_of_ble_eq_true rfl) dX2_standOnNewPage_7 (fun H locs hP hD hS => ?_)
  have hP : va_P D vwCl (wX cI cP x aC aT aR aP (nI L) (nI C) (nI rl) (nI bg) 0 0 mk rp sp sc sk fa ch tr rc pg pl) H := hP
  have hD : va_D A (wX cI cP x aC aT aR aP (nI L) (nI C) (nI rl) (nI bg) 0 0 mk rp sp sc sk fa ch tr rc pg pl) := hD
  exact W.vret hx hb hr (fun t ht hW => ⟨⟨(), rfl, trivial, by rw [ht]; exact hP, hD⟩, hS.F ht⟩) hS.2.2 dX2_standOnNewPage_10

set_option maxHeartbeats 4000000 in
set_option maxRecDepth 100000 in
theorem c_X2_end (l : Launch) {D : va_G} {cI cP cR cJ : ClassId} {x aC aT aR aP L C rl bg st : Nat} {on : Bool} {mk rp sp sc sk fa : Int32} {ch tr rc : Nat → Int32} {pg : Nat → Option Nat} {pl : va_W} {sz : Nat} : Met l yX2_end wsX2_end ({ frames := 1, cells := 0, slots := 0, locals := 20 }) (mu [.ref x] D cI cP cR cJ (wX cI cP x aC aT aR aP (nI L) (nI C) (nI rl) (nI bg) (zb on) (nI st) mk rp sp sc sk fa ch tr rc pg pl) sz) (qi D (fun (r : Int32) (_ : Unit) => r = nI bg) (fun _ : Unit => wX cI cP x aC aT aR aP (nI L) (nI C) (nI rl) (nI bg) (zb false) (nI 0) mk rp sp sc sk fa ch tr rc pg pl) (va_A (wX cI cP x aC aT aR aP (nI L) (nI C) (nI rl) (nI bg) (zb on) (nI st) mk rp sp sc sk fa ch tr rc pg pl) sz)) 0 0 (va_A (wX cI cP x aC aT aR aP (nI L) (nI C) (nI rl) (nI bg) (zb on) (nI st) mk rp sp sc sk fa ch tr rc pg pl) sz) := by
  refine Met.ofW (cc := cX2_end) (maxL := 1) (ret := (some .int)) (by decide) rfl ?_
  intro p e s m args below meth c s₁ B hml hv
  obtain ⟨rfl, hsz, hP, hK, hD0⟩ := hv
  have hx := B.exec
  have hb := B.bytes
  have hr := B.returns
  have hts := atoms_spec (ws := wsX2_end) B.pre
  have hown : s.vm.findClass RX2 = some m.cls := findClass_of_methodNamed B.named
  have hlocks := B.notSynchronized
  have hinX2 : ∀ w ∈ wsX20, w ∈ wsX2_end := by decide +kernel
  subst hsz
  have hD := hD0.self (sz := s.heap.size)
  generalize hAe : va_A (wX cI cP x aC aT aR aP (nI L) (nI C) (nI rl) (nI bg) (zb on) (nI st) mk rp sp sc sk fa ch tr rc pg pl) s.heap.size = A at hD ⊢
  have hA : ∀ q : Nat, s.heap.size ≤ q → A q := fun q h => by rw [← hAe]; exact Or.inr h
  have hS : va_S A s.heap s.heap [] := va_S.rf
  have hP : va_P D vwCl (wX cI cP x aC aT aR aP (nI L) (nI C) (nI rl) (nI bg) (zb on) (nI st) mk rp sp sc sk fa ch tr rc pg pl) s.heap := hP
  have hl := lv_entry ([.ref x]) (n := 1) (Nat.le_of_ble_eq_true rfl)
  rw [lg_entry_eq]
  generalize (lg_sl ([.ref x]) ++ List.replicate (1 - (lg_sl ([.ref x])).length) Slot.unset).toArray = ls at hl ⊢
  have hl : lv_has ls 1 [(0, .ref x)] := hl
  refine lv_aload_n hx hb dX2_end_0 rfl (lv_at hl 0 rfl) ?_
  refine callQv (va_runV (As := []) (rest := []) ⟨hx, hb, hml, hown, hts⟩ (c_X2_standOnNewPage l) (cwV 0 hts gX2_end_X2_standOnNewPage rfl rfl rfl (by decide +kernel) ⟨(Nat.le_of_ble_eq_true rfl), (Nat.le_of_ble_eq_true rfl)⟩) (mu_pre hK hP hD rfl 0 rfl) rfl rfl hl.1 rfl (lv_room (Nat.le_of_ble_eq_true rfl)) dX2_end_1 ⟨(Nat.le_of_ble_eq_true rfl), (Nat.le_of_ble_eq_true rfl)⟩) hD hS hA (fun u_1 H locs w_1 hP hD hS => ?_)
  have hP : va_P D vwCl (wX cI cP x aC aT aR aP (nI L) (nI C) (nI rl) (nI bg) (zb false) (nI 0) mk rp sp sc sk fa ch tr rc pg pl) H := hP
  have hD : va_D A (wX cI cP x aC aT aR aP (nI L) (nI C) (nI rl) (nI bg) (zb false) (nI 0) mk rp sp sc sk fa ch tr rc pg pl) := hD
  refine lv_aload_n hx hb dX2_end_4 rfl (lv_at hl 0 rfl) ?_
  refine va_get (D := D) (ci := 3) (v := .int (nI bg)) (C := RX2) (T := TX2) (N := 16) hx hb hts hinX2 hown hK.1 hP 0 rfl rfl 7 (by decide) (hts (.fieldLink RX2 90 "PrinterRows" "begun" "I") (by decide +kernel)) (fun _ h9 => h9) rfl dX2_end_5 ?_
  exact W.iret (v := (nI bg)) hx hb hr (fun t ht hW => ⟨⟨_, (), rfl, rfl, by rw [ht]; exact hP, hD⟩, hS.F ht⟩) hS.2.2 dX2_end_8

set_option maxHeartbeats 4000000 in
set_option maxRecDepth 100000 in
theorem c_X2_translate (l : Launch) {D : va_G} {cI cP cR cJ : ClassId} {x aC aT aR aP L C rl bg st : Nat} {on : Bool} {mk rp sp sc sk fa : Int32} {ch tr rc : Nat → Int32} {pg : Nat → Option Nat} {pl : va_W} {sz : Nat} (c0 t0 : Int32) : Met l yX2_translate wsX2_translate ({ frames := 1, cells := 0, slots := 0, locals := 20 }) (mu [.ref x, .int c0, .int t0] D cI cP cR cJ (wX cI cP x aC aT aR aP (nI L) (nI C) (nI rl) (nI bg) (zb on) (nI st) mk rp sp sc sk fa ch tr rc pg pl) sz) (qi D (fun (r : Int32) (u : Nat → Int32) => r = trR tr c0 t0 ∧ u = trN tr c0 t0) (fun u : Nat → Int32 => wX cI cP x aC aT aR aP (nI L) (nI C) (nI rl) (nI bg) (zb on) (nI st) mk rp sp sc sk fa ch u rc pg pl) (va_A (wX cI cP x aC aT aR aP (nI L) (nI C) (nI rl) (nI bg) (zb on) (nI st) mk rp sp sc sk fa ch tr rc pg pl) sz)) 0 0 (va_A (wX cI cP x aC aT aR aP (nI L) (nI C) (nI rl) (nI bg) (zb on) (nI st) mk rp sp sc sk fa ch tr rc pg pl) sz) := by
  refine Met.ofW (cc := cX2_translate) (maxL := 4) (ret := (some .int)) (by decide) rfl ?_
  intro p e s m args below meth c s₁ B hml hv
  obtain ⟨rfl, hsz, hP, hK, hD0⟩ := hv
  have hx := B.exec
  have hb := B.bytes
  have hr := B.returns
  have hts := atoms_spec (ws := wsX2_translate) B.pre
  have hown : s.vm.findClass RX2 = some m.cls := findClass_of_methodNamed B.named
  have hlocks := B.notSynchronized
  have hinX2 : ∀ w ∈ wsX20, w ∈ wsX2_translate := by decide +kernel
  subst hsz
  have hD := hD0.self (sz := s.heap.size)
  generalize hAe : va_A (wX cI cP x aC aT aR aP (nI L) (nI C) (nI rl) (nI bg) (zb on) (nI st) mk rp sp sc sk fa ch tr rc pg pl) s.heap.size = A at hD ⊢
  have hA : ∀ q : Nat, s.heap.size ≤ q → A q := fun q h => by rw [← hAe]; exact Or.inr h
  have hS : va_S A s.heap s.heap [] := va_S.rf
  have hP : va_P D vwCl (wX cI cP x aC aT aR aP (nI L) (nI C) (nI rl) (nI bg) (zb on) (nI st) mk rp sp sc sk fa ch tr rc pg pl) s.heap := hP
  have hl := lv_entry ([.ref x, .int c0, .int t0]) (n := 4) (Nat.le_of_ble_eq_true rfl)
  rw [lg_entry_eq]
  generalize (lg_sl ([.ref x, .int c0, .int t0]) ++ List.replicate (4 - (lg_sl ([.ref x, .int c0, .int t0])).length) Slot.unset).toArray = ls at hl ⊢
  have hl : lv_has ls 4 [(0, .ref x), (1, .int c0), (2, .int t0)] := hl
  refine lv_iload_n hx hb dX2_translate_0 rfl (lv_at hl 1 rfl) ?_
  refine vp_callSi (W.runS (As := [.int c0]) (rest := []) ⟨hx, hb, hml, hown, hts⟩ (c_X2_isSign l (c0)) (va_cwS 1 hts gX2_translate_X2_isSign rfl rfl rfl (by decide +kernel) ⟨(Nat.le_of_ble_eq_true rfl), (Nat.le_of_ble_eq_true rfl)⟩) pu_pre rfl rfl hl.1 rfl (lv_room (Nat.le_of_ble_eq_true rfl)) dX2_translate_1 ⟨(Nat.le_of_ble_eq_true rfl), (Nat.le_of_ble_eq_true rfl)⟩) (fun r_1 w_1 => ?_)
  subst w_1
  refine lv_if_eq (tgt := 14) hx hb dX2_translate_4 (by decide) (fun c_4 => ?_) (fun c_4 => ?_)
  ·
    refine lv_iconst (v := (-1)) hx hb dX2_translate_14 (by decide +kernel) ?_
    exact W.iret (v := (-1)) hx hb hr (fun t ht hW => ⟨⟨_, tr, rfl, ⟨by simp [trR, okt, c_4], by simp [trN, okt, c_4]⟩, by rw [ht]; exact hP, hD⟩, hS.F ht⟩) hS.2.2 dX2_translate_15
  ·
    refine lv_iload_n hx hb dX2_translate_7 rfl (lv_at hl 2 rfl) ?_
    refine vp_callSi (W.runS (As := [.int t0]) (rest := []) ⟨hx, hb, hml, hown, hts⟩ (c_X2_isSign l (t0)) (va_cwS 1 hts gX2_translate_X2_isSign rfl rfl rfl (by decide +kernel) ⟨(Nat.le_of_ble_eq_true rfl), (Nat.le_of_ble_eq_true rfl)⟩) pu_pre rfl rfl hl.1 rfl (lv_room (Nat.le_of_ble_eq_true rfl)) dX2_translate_8 ⟨(Nat.le_of_ble_eq_true rfl), (Nat.le_of_ble_eq_true rfl)⟩) (fun r_8 w_8 => ?_)
    subst w_8
    refine lv_if_ne (tgt := 16) hx hb dX2_translate_11 (by decide) (fun c_11 => ?_) (fun c_11 => ?_)
    ·
      refine lv_aload_n hx hb dX2_translate_16 rfl (lv_at hl 0 rfl) ?_
      refine va_get (D := D) (ci := 3) (v := .ref aT) (C := RX2) (T := TX2) (N := 16) hx hb hts hinX2 hown hK.1 hP 0 rfl rfl 3 (by decide) (hts (.fieldLink RX2 30 "PrinterRows" "printedAs" "[I") (by decide +kernel)) (fun _ h9 => h9) rfl dX2_translate_17 ?_
      refine lv_iload_n hx hb dX2_translate_20 rfl (lv_at hl 1 rfl) ?_
      refine va_iald hx hb hK.1 hP 2 0 rfl rfl (isSg_in c_4) dX2_translate_21 ?_
      refine lv_istore_n (lv' := [(3, .int (tr (c0).toNatClampNeg)), (0, .ref x), (1, .int c0), (2, .int t0)]) hx hb dX2_translate_22 rfl hl (by decide) rfl (fun ls hl => ?_)
      refine lv_aload_n hx hb dX2_translate_23 rfl (lv_at hl 1 rfl) ?_
      refine va_get (D := D) (ci := 3) (v := .ref aT) (C := RX2) (T := TX2) (N := 16) hx hb hts hinX2 hown hK.1 hP 0 rfl rfl 3 (by decide) (hts (.fieldLink RX2 30 "PrinterRows" "printedAs" "[I") (by decide +kernel)) (fun _ h9 => h9) rfl dX2_translate_24 ?_
      refine lv_iload_n hx hb dX2_translate_27 rfl (lv_at hl 2 rfl) ?_
      refine lv_iload_n hx hb dX2_translate_28 rfl (lv_at hl 3 rfl) ?_
      refine va_iast hx hb hK.1 hP hD hS 2 0 rfl rfl (isSg_in c_4) dX2_translate_29 (fun H locs hP hD hS => ?_)
      have hP : va_P D vwCl (wX cI cP x aC aT aR aP (nI L) (nI C) (nI rl) (nI bg) (zb on) (nI st) mk rp sp sc sk fa ch (upd tr (c0).toNatClampNeg t0) rc pg pl) H := hP
      have hD : va_D A (wX cI cP x aC aT aR aP (nI L) (nI C) (nI rl) (nI bg) (zb on) (nI st) mk rp sp sc sk fa ch (upd tr (c0).toNatClampNeg t0) rc pg pl) := hD
      refine lv_iload_n hx hb dX2_translate_30 rfl (lv_at hl 0 rfl) ?_
      exact W.iret (v := (tr (c0).toNatClampNeg)) hx hb hr (fun t ht hW => ⟨⟨_, _, rfl, ⟨by simp [trR, okt, c_4, c_11], by simp [trN, okt, c_4, c_11]⟩, by rw [ht]; exact hP, hD⟩, hS.F ht⟩) hS.2.2 dX2_translate_31
    ·
      refine lv_iconst (v := (-1)) hx hb dX2_translate_14 (by decide +kernel) ?_
      exact W.iret (v := (-1)) hx hb hr (fun t ht hW => ⟨⟨_, tr, rfl, ⟨by simp [trR, okt, c_4, c_11], by simp [trN, okt, c_4, c_11]⟩, by rw [ht]; exact hP, hD⟩, hS.F ht⟩) hS.2.2 dX2_translate_15

set_option maxHeartbeats 4000000 in
set_option maxRecDepth 100000 in
theorem c_X2_forms (l : Launch) {D : va_G} {cI cP cR cJ : ClassId} {x aC aT aR aP L C rl bg st : Nat} {on : Bool} {mk rp sp sc sk fa : Int32} {ch tr rc : Nat → Int32} {pg : Nat → Option Nat} {pl : va_W} {sz : Nat} (k0 : Int32) : Met l yX2_forms wsX2_forms ({ frames := 1, cells := 0, slots := 0, locals := 20 }) (mu [.ref x, .int k0] D cI cP cR cJ (wX cI cP x aC aT aR aP (nI L) (nI C) (nI rl) (nI bg) (zb on) (nI st) mk rp sp sc sk fa ch tr rc pg pl) sz) (qi D (fun (r : Int32) (u : Int32 × Int32 × Bool × Nat) => r = fmR mk k0 ∧ u = if fmD mk k0 then (k0, fa + 1, false, 0) else (mk, fa, on, st)) (fun u : Int32 × Int32 × Bool × Nat => wX cI cP x aC aT aR aP (nI L) (nI C) (nI rl) (nI bg) (zb u.2.2.1) (nI u.2.2.2) u.1 rp sp sc sk u.2.1 ch tr rc pg pl) (va_A (wX cI cP x aC aT aR aP (nI L) (nI C) (nI rl) (nI bg) (zb on) (nI st) mk rp sp sc sk fa ch tr rc pg pl) sz)) 0 0 (va_A (wX cI cP x aC aT aR aP (nI L) (nI C) (nI rl) (nI bg) (zb on) (nI st) mk rp sp sc sk fa ch tr rc pg pl) sz) := by
  refine Met.ofW (cc := cX2_forms) (maxL := 2) (ret := (some .int)) (by decide) rfl ?_
  intro p e s m args below meth c s₁ B hml hv
  obtain ⟨rfl, hsz, hP, hK, hD0⟩ := hv
  have hx := B.exec
  have hb := B.bytes
  have hr := B.returns
  have hts := atoms_spec (ws := wsX2_forms) B.pre
  have hown : s.vm.findClass RX2 = some m.cls := findClass_of_methodNamed B.named
  have hlocks := B.notSynchronized
  have hinX2 : ∀ w ∈ wsX20, w ∈ wsX2_forms := by decide +kernel
  subst hsz
  have hD := hD0.self (sz := s.heap.size)
  generalize hAe : va_A (wX cI cP x aC aT aR aP (nI L) (nI C) (nI rl) (nI bg) (zb on) (nI st) mk rp sp sc sk fa ch tr rc pg pl) s.heap.size = A at hD ⊢
  have hA : ∀ q : Nat, s.heap.size ≤ q → A q := fun q h => by rw [← hAe]; exact Or.inr h
  have hS : va_S A s.heap s.heap [] := va_S.rf
  have hP : va_P D vwCl (wX cI cP x aC aT aR aP (nI L) (nI C) (nI rl) (nI bg) (zb on) (nI st) mk rp sp sc sk fa ch tr rc pg pl) s.heap := hP
  have hl := lv_entry ([.ref x, .int k0]) (n := 2) (Nat.le_of_ble_eq_true rfl)
  rw [lg_entry_eq]
  generalize (lg_sl ([.ref x, .int k0]) ++ List.replicate (2 - (lg_sl ([.ref x, .int k0])).length) Slot.unset).toArray = ls at hl ⊢
  have hl : lv_has ls 2 [(0, .ref x), (1, .int k0)] := hl
  refine lv_iload_n hx hb dX2_forms_0 rfl (lv_at hl 1 rfl) ?_
  refine lv_if_ge (tgt := 7) hx hb dX2_forms_1 (by decide) (fun c_1 => ?_) (fun c_1 => ?_)
  ·
    refine lv_iload_n hx hb dX2_forms_7 rfl (lv_at hl 1 rfl) ?_
    refine lv_aload_n hx hb dX2_forms_8 rfl (lv_at hl 0 rfl) ?_
    refine va_get (D := D) (ci := 3) (v := .int mk) (C := RX2) (T := TX2) (N := 16) hx hb hts hinX2 hown hK.1 hP 0 rfl rfl 10 (by decide) (hts (.fieldLink RX2 123 "PrinterRows" "mountedKind" "I") (by decide +kernel)) (fun _ h9 => h9) rfl dX2_forms_9 ?_
    refine lv_icmp_ne (tgt := 17) hx hb dX2_forms_12 (by decide) (fun c_12 => ?_) (fun c_12 => ?_)
    ·
      refine lv_aload_n hx hb dX2_forms_17 rfl (lv_at hl 0 rfl) ?_
      refine lv_iload_n hx hb dX2_forms_18 rfl (lv_at hl 1 rfl) ?_
      refine va_put (D := D) (ci := 3) (v := .int k0) (ty := .int) (C := RX2) (T := TX2) (N := 16) hx hb hts hinX2 tyX2 tyX2_ok nmX2 hown hK.1 hP hD hS 0 rfl rfl 10 (by decide) (hts (.fieldLink RX2 123 "PrinterRows" "mountedKind" "I") (by decide +kernel)) (fun _ h9 => h9) rfl (by decide +kernel) rfl rfl (Nat.le_of_ble_eq_true rfl) dX2_forms_19 (fun H locs hP hD hS => ?_)
      have hP : va_P D vwCl (wX cI cP x aC aT aR aP (nI L) (nI C) (nI rl) (nI bg) (zb on) (nI st) k0 rp sp sc sk fa ch tr rc pg pl) H := hP
      have hD : va_D A (wX cI cP x aC aT aR aP (nI L) (nI C) (nI rl) (nI bg) (zb on) (nI st) k0 rp sp sc sk fa ch tr rc pg pl) := hD
      refine lv_aload_n hx hb dX2_forms_22 rfl (lv_at hl 0 rfl) ?_
      refine lv_dup hx hb dX2_forms_23 rfl ?_
      refine va_get (D := D) (ci := 3) (v := .int fa) (C := RX2) (T := TX2) (N := 16) hx hb hts hinX2 hown hK.1 hP 0 rfl rfl 15 (by decide) (hts (.fieldLink RX2 126 "PrinterRows" "formsAskedFor" "I") (by decide +kernel)) (fun _ h9 => h9) rfl dX2_forms_24 ?_
      refine lv_iconst (v := 1) hx hb dX2_forms_27 (by decide +kernel) ?_
      refine lv_iadd hx hb dX2_forms_28 ?_
      refine va_put (D := D) (ci := 3) (v := .int (fa + 1)) (ty := .int) (C := RX2) (T := TX2) (N := 16) hx hb hts hinX2 tyX2 tyX2_ok nmX2 hown hK.1 hP hD hS 0 rfl rfl 15 (by decide) (hts (.fieldLink RX2 126 "PrinterRows" "formsAskedFor" "I") (by decide +kernel)) (fun _ h9 => h9) rfl (by decide +kernel) rfl rfl (Nat.le_of_ble_eq_true rfl) dX2_forms_29 (fun H locs hP hD hS => ?_)
      have hP : va_P D vwCl (wX cI cP x aC aT aR aP (nI L) (nI C) (nI rl) (nI bg) (zb on) (nI st) k0 rp sp sc sk (fa + 1) ch tr rc pg pl) H := hP
      have hD : va_D A (wX cI cP x aC aT aR aP (nI L) (nI C) (nI rl) (nI bg) (zb on) (nI st) k0 rp sp sc sk (fa + 1) ch tr rc pg pl) := hD
      refine lv_aload_n hx hb dX2_forms_32 rfl (lv_at hl 0 rfl) ?_
      refine callQv (va_runV (As := []) (rest := []) ⟨hx, hb, hml, hown, hts⟩ (c_X2_standOnNewPage l) (cwV 0 hts gX2_forms_X2_standOnNewPage rfl rfl rfl (by decide +kernel) ⟨(Nat.le_of_ble_eq_true rfl), (Nat.le_of_ble_eq_true rfl)⟩) (mu_pre hK hP hD rfl 0 rfl) rfl rfl hl.1 rfl (lv_room (Nat.le_of_ble_eq_true rfl)) dX2_forms_33 ⟨(Nat.le_of_ble_eq_true rfl), (Nat.le_of_ble_eq_true rfl)⟩) hD hS hA (fun u_33 H locs w_33 hP hD hS => ?_)
      have hP : va_P D vwCl (wX cI cP x aC aT aR aP (nI L) (nI C) (nI rl) (nI bg) (zb false) (nI 0) k0 rp sp sc sk (fa + 1) ch tr rc pg pl) H := hP
      have hD : va_D A (wX cI cP x aC aT aR aP (nI L) (nI C) (nI rl) (nI bg) (zb false) (nI 0) k0 rp sp sc sk (fa + 1) ch tr rc pg pl) := hD
      refine lv_iconst (v := 2) hx hb dX2_forms_36 (by decide +kernel) ?_
      exact W.iret (v := 2) hx hb hr (fun t ht hW => ⟨⟨_, (k0, fa + 1, false, 0), rfl, ⟨by rw [fmR, if_pos c_1, if_neg c_12], by rw [fmD, if_pos c_1, if_neg c_12]; rfl⟩, by rw [ht]; exact hP, hD⟩, hS.F ht⟩) hS.2.2 dX2_forms_37
    ·
      refine lv_iconst (v := 1) hx hb dX2_forms_15 (by decide +kernel) ?_
      exact W.iret (v := 1) hx hb hr (fun t ht hW => ⟨⟨_, (mk, fa, on, st), rfl, ⟨by rw [fmR, if_pos c_1, if_pos c_12], by rw [fmD, if_pos c_1, if_pos c_12]; rfl⟩, by rw [ht]; exact hP, hD⟩, hS.F ht⟩) hS.2.2 dX2_forms_16
  ·
    refine lv_bipush (v := (-2)) hx hb dX2_forms_4 (by decide +kernel) ?_
    exact W.iret (v := (-2)) hx hb hr (fun t ht hW => ⟨⟨_, (mk, fa, on, st), rfl, ⟨by rw [fmR, if_neg c_1], by rw [fmD, if_neg c_1]; rfl⟩, by rw [ht]; exact hP, hD⟩, hS.F ht⟩) hS.2.2 dX2_forms_6

set_option maxHeartbeats 4000000 in
set_option maxRecDepth 100000 in
theorem c_X2_addPage (l : Launch) {D : va_G} {cI cP cR cJ : ClassId} {x aC aT aR aP L C rl bg st : Nat} {on : Bool} {mk rp sp sc sk fa : Int32} {ch tr rc : Nat → Int32} {pg : Nat → Option Nat} {pl : va_W} {sz : Nat} (hbg : bg < 40) (a : Nat) (ka : Nat) (fs : List Value) (hka : pl[ka]? = some (a, .inr (1, fs))) : Met l yX2_addPage wsX2_addPage ({ frames := 0, cells := 0, slots := 0, locals := 0 }) (mu [.ref x, .ref a] D cI cP cR cJ (wX cI cP x aC aT aR aP (nI L) (nI C) (nI rl) (nI bg) (zb on) (nI st) mk rp sp sc sk fa ch tr rc pg pl) sz) (qv D (fun (_ : Unit) => True) (fun u : Unit => wX cI cP x aC aT aR aP (nI L) (nI C) (nI rl) (nI (bg + 1)) (zb on) (nI st) mk rp sp sc sk fa ch tr rc (va_up pg bg (some a)) pl) (va_A (wX cI cP x aC aT aR aP (nI L) (nI C) (nI rl) (nI bg) (zb on) (nI st) mk rp sp sc sk fa ch tr rc pg pl) sz)) 0 0 (va_A (wX cI cP x aC aT aR aP (nI L) (nI C) (nI rl) (nI bg) (zb on) (nI st) mk rp sp sc sk fa ch tr rc pg pl) sz) := by
  refine Met.ofW (cc := cX2_addPage) (maxL := 2) (ret := none) (by decide) rfl ?_
  intro p e s m args below meth c s₁ B hml hv
  obtain ⟨rfl, hsz, hP, hK, hD0⟩ := hv
  have hx := B.exec
  have hb := B.bytes
  have hr := B.returns
  have hts := atoms_spec (ws := wsX2_addPage) B.pre
  have hown : s.vm.findClass RX2 = some m.cls := findClass_of_methodNamed B.named
  have hlocks := B.notSynchronized
  have hinX2 : ∀ w ∈ wsX20, w ∈ wsX2_addPage := by decide +kernel
  subst hsz
  have hD := hD0.self (sz := s.heap.size)
  generalize hAe : va_A (wX cI cP x aC aT aR aP (nI L) (nI C) (nI rl) (nI bg) (zb on) (nI st) mk rp sp sc sk fa ch tr rc pg pl) s.heap.size = A at hD ⊢
  have hA : ∀ q : Nat, s.heap.size ≤ q → A q := fun q h => by rw [← hAe]; exact Or.inr h
  have hS : va_S A s.heap s.heap [] := va_S.rf
  have hP : va_P D vwCl (wX cI cP x aC aT aR aP (nI L) (nI C) (nI rl) (nI bg) (zb on) (nI st) mk rp sp sc sk fa ch tr rc pg pl) s.heap := hP
  have hl := lv_entry ([.ref x, .ref a]) (n := 2) (Nat.le_of_ble_eq_true rfl)
  rw [lg_entry_eq]
  generalize (lg_sl ([.ref x, .ref a]) ++ List.replicate (2 - (lg_sl ([.ref x, .ref a])).length) Slot.unset).toArray = ls at hl ⊢
  have hl : lv_has ls 2 [(0, .ref x), (1, .ref a)] := hl
  refine lv_aload_n hx hb dX2_addPage_0 rfl (lv_at hl 0 rfl) ?_
  refine va_get (D := D) (ci := 3) (v := .int (nI bg)) (C := RX2) (T := TX2) (N := 16) hx hb hts hinX2 hown hK.1 hP 0 rfl rfl 7 (by decide) (hts (.fieldLink RX2 90 "PrinterRows" "begun" "I") (by decide +kernel)) (fun _ h9 => h9) rfl dX2_addPage_1 ?_
  refine lv_if_lt (tgt := 39) hx hb dX2_addPage_4 (by decide) (fun c_4 => absurd c_4 (nI_pos (by omega))) (fun c_4 => ?_)
  refine lv_aload_n hx hb dX2_addPage_7 rfl (lv_at hl 0 rfl) ?_
  refine va_get (D := D) (ci := 3) (v := .int (nI bg)) (C := RX2) (T := TX2) (N := 16) hx hb hts hinX2 hown hK.1 hP 0 rfl rfl 7 (by decide) (hts (.fieldLink RX2 90 "PrinterRows" "begun" "I") (by decide +kernel)) (fun _ h9 => h9) rfl dX2_addPage_8 ?_
  refine lv_aload_n hx hb dX2_addPage_11 rfl (lv_at hl 0 rfl) ?_
  refine va_get (D := D) (ci := 3) (v := .ref aP) (C := RX2) (T := TX2) (N := 16) hx hb hts hinX2 hown hK.1 hP 0 rfl rfl 6 (by decide) (hts (.fieldLink RX2 38 "PrinterRows" "pages" "[LPrinterRows$Page;") (by decide +kernel)) (fun _ h9 => h9) rfl dX2_addPage_12 ?_
  refine va_alen (v := 40) hx hb hK.1 hP 4 1 rfl rfl rfl dX2_addPage_15 ?_
  refine lv_icmp_ge (tgt := 39) hx hb dX2_addPage_16 (by decide) (fun c_16 => absurd c_16 (nI_ge (b := 40) hbg (by decide))) (fun c_16 => ?_)
  refine lv_aload_n hx hb dX2_addPage_19 rfl (lv_at hl 0 rfl) ?_
  refine va_get (D := D) (ci := 3) (v := .ref aP) (C := RX2) (T := TX2) (N := 16) hx hb hts hinX2 hown hK.1 hP 0 rfl rfl 6 (by decide) (hts (.fieldLink RX2 38 "PrinterRows" "pages" "[LPrinterRows$Page;") (by decide +kernel)) (fun _ h9 => h9) rfl dX2_addPage_20 ?_
  refine lv_aload_n hx hb dX2_addPage_23 rfl (lv_at hl 0 rfl) ?_
  refine va_get (D := D) (ci := 3) (v := .int (nI bg)) (C := RX2) (T := TX2) (N := 16) hx hb hts hinX2 hown hK.1 hP 0 rfl rfl 7 (by decide) (hts (.fieldLink RX2 90 "PrinterRows" "begun" "I") (by decide +kernel)) (fun _ h9 => h9) rfl dX2_addPage_24 ?_
  refine lv_aload_n hx hb dX2_addPage_27 rfl (lv_at hl 1 rfl) ?_
  refine va_astq hx hb hK.1 hP hD hS 4 1 (ka + 5) 1 rfl rfl hka rfl (vp_in_nI hbg (by decide)) dX2_addPage_28 (fun H locs hP hD hS => ?_)
  rw [show (va_up pg ((nI bg)).toNatClampNeg (some a)) = (va_up pg bg (some a)) from by rw [nI_clamp (by omega)]] at hP hD
  have hP : va_P D vwCl (wX cI cP x aC aT aR aP (nI L) (nI C) (nI rl) (nI bg) (zb on) (nI st) mk rp sp sc sk fa ch tr rc (va_up pg bg (some a)) pl) H := hP
  have hD : va_D A (wX cI cP x aC aT aR aP (nI L) (nI C) (nI rl) (nI bg) (zb on) (nI st) mk rp sp sc sk fa ch tr rc (va_up pg bg (some a)) pl) := hD
  refine lv_aload_n hx hb dX2_addPage_29 rfl (lv_at hl 0 rfl) ?_
  refine lv_dup hx hb dX2_addPage_30 rfl ?_
  refine va_get (D := D) (ci := 3) (v := .int (nI bg)) (C := RX2) (T := TX2) (N := 16) hx hb hts hinX2 hown hK.1 hP 0 rfl rfl 7 (by decide) (hts (.fieldLink RX2 90 "PrinterRows" "begun" "I") (by decide +kernel)) (fun _ h9 => h9) rfl dX2_addPage_31 ?_
  refine lv_iconst (v := 1) hx hb dX2_addPage_34 (by decide +kernel) ?_
  refine lv_iadd hx hb dX2_addPage_35 ?_
  refine lv_topi (fun x_35 ex_35 => ?_)
  obtain rfl : x_35 = nI (bg + 1) := ex_35.trans (nI_1 bg)
  refine va_put (D := D) (ci := 3) (v := .int (nI (bg + 1))) (ty := .int) (C := RX2) (T := TX2) (N := 16) hx hb hts hinX2 tyX2 tyX2_ok nmX2 hown hK.1 hP hD hS 0 rfl rfl 7 (by decide) (hts (.fieldLink RX2 90 "PrinterRows" "begun" "I") (by decide +kernel)) (fun _ h9 => h9) rfl (by decide +kernel) rfl rfl (Nat.le_of_ble_eq_true rfl) dX2_addPage_36 (fun H locs hP hD hS => ?_)
  have hP : va_P D vwCl (wX cI cP x aC aT aR aP (nI L) (nI C) (nI rl) (nI (bg + 1)) (zb on) (nI st) mk rp sp sc sk fa ch tr rc (va_up pg bg (some a)) pl) H := hP
  have hD : va_D A (wX cI cP x aC aT aR aP (nI L) (nI C) (nI rl) (nI (bg + 1)) (zb on) (nI st) mk rp sp sc sk fa ch tr rc (va_up pg bg (some a)) pl) := hD
  exact W.vret hx hb hr (fun t ht hW => ⟨⟨(), rfl, trivial, by rw [ht]; exact hP, hD⟩, hS.F ht⟩) hS.2.2 dX2_addPage_39

set_option maxHeartbeats 4000000 in
set_option maxRecDepth 100000 in
theorem c_X2_takeLastPage (l : Launch) {D : va_G} {cI cP cR cJ : ClassId} {x aC aT aR aP L C rl bg st : Nat} {on : Bool} {mk rp sp sc sk fa : Int32} {ch tr rc : Nat → Int32} {pg : Nat → Option Nat} {pl : va_W} {sz : Nat} (hbg0 : 0 < bg) (hbg : bg ≤ 40) : Met l yX2_takeLastPage wsX2_takeLastPage ({ frames := 0, cells := 0, slots := 0, locals := 0 }) (mu [.ref x] D cI cP cR cJ (wX cI cP x aC aT aR aP (nI L) (nI C) (nI rl) (nI bg) (zb on) (nI st) mk rp sp sc sk fa ch tr rc pg pl) sz) (qv D (fun (_ : Unit) => True) (fun u : Unit => wX cI cP x aC aT aR aP (nI L) (nI C) (nI rl) (nI (bg - 1)) (zb on) (nI st) mk rp sp sc sk fa ch tr rc (va_up pg (bg - 1) none) pl) (va_A (wX cI cP x aC aT aR aP (nI L) (nI C) (nI rl) (nI bg) (zb on) (nI st) mk rp sp sc sk fa ch tr rc pg pl) sz)) 0 0 (va_A (wX cI cP x aC aT aR aP (nI L) (nI C) (nI rl) (nI bg) (zb on) (nI st) mk rp sp sc sk fa ch tr rc pg pl) sz) := by
  refine Met.ofW (cc := cX2_takeLastPage) (maxL := 1) (ret := none) (by decide) rfl ?_
  intro p e s m args below meth c s₁ B hml hv
  obtain ⟨rfl, hsz, hP, hK, hD0⟩ := hv
  have hx := B.exec
  have hb := B.bytes
  have hr := B.returns
  have hts := atoms_spec (ws := wsX2_takeLastPage) B.pre
  have hown : s.vm.findClass RX2 = some m.cls := findClass_of_methodNamed B.named
  have hlocks := B.notSynchronized
  have hinX2 : ∀ w ∈ wsX20, w ∈ wsX2_takeLastPage := by decide +kernel
  subst hsz
  have hD := hD0.self (sz := s.heap.size)
  generalize hAe : va_A (wX cI cP x aC aT aR aP (nI L) (nI C) (nI rl) (nI bg) (zb on) (nI st) mk rp sp sc sk fa ch tr rc pg pl) s.heap.size = A at hD ⊢
  have hA : ∀ q : Nat, s.heap.size ≤ q → A q := fun q h => by rw [← hAe]; exact Or.inr h
  have hS : va_S A s.heap s.heap [] := va_S.rf
  have hP : va_P D vwCl (wX cI cP x aC aT aR aP (nI L) (nI C) (nI rl) (nI bg) (zb on) (nI st) mk rp sp sc sk fa ch tr rc pg pl) s.heap := hP
  have hl := lv_entry ([.ref x]) (n := 1) (Nat.le_of_ble_eq_true rfl)
  rw [lg_entry_eq]
  generalize (lg_sl ([.ref x]) ++ List.replicate (1 - (lg_sl ([.ref x])).length) Slot.unset).toArray = ls at hl ⊢
  have hl : lv_has ls 1 [(0, .ref x)] := hl
  refine lv_aload_n hx hb dX2_takeLastPage_0 rfl (lv_at hl 0 rfl) ?_
  refine va_get (D := D) (ci := 3) (v := .int (nI bg)) (C := RX2) (T := TX2) (N := 16) hx hb hts hinX2 hown hK.1 hP 0 rfl rfl 7 (by decide) (hts (.fieldLink RX2 90 "PrinterRows" "begun" "I") (by decide +kernel)) (fun _ h9 => h9) rfl dX2_takeLastPage_1 ?_
  refine lv_if_le (tgt := 39) hx hb dX2_takeLastPage_4 (by decide) (fun c_4 => absurd c_4 (nI_nle hbg0 (by omega))) (fun c_4 => ?_)
  refine lv_aload_n hx hb dX2_takeLastPage_7 rfl (lv_at hl 0 rfl) ?_
  refine va_get (D := D) (ci := 3) (v := .int (nI bg)) (C := RX2) (T := TX2) (N := 16) hx hb hts hinX2 hown hK.1 hP 0 rfl rfl 7 (by decide) (hts (.fieldLink RX2 90 "PrinterRows" "begun" "I") (by decide +kernel)) (fun _ h9 => h9) rfl dX2_takeLastPage_8 ?_
  refine lv_aload_n hx hb dX2_takeLastPage_11 rfl (lv_at hl 0 rfl) ?_
  refine va_get (D := D) (ci := 3) (v := .ref aP) (C := RX2) (T := TX2) (N := 16) hx hb hts hinX2 hown hK.1 hP 0 rfl rfl 6 (by decide) (hts (.fieldLink RX2 38 "PrinterRows" "pages" "[LPrinterRows$Page;") (by decide +kernel)) (fun _ h9 => h9) rfl dX2_takeLastPage_12 ?_
  refine va_alen (v := 40) hx hb hK.1 hP 4 1 rfl rfl rfl dX2_takeLastPage_15 ?_
  refine lv_icmp_gt (tgt := 39) hx hb dX2_takeLastPage_16 (by decide) (fun c_16 => absurd c_16 (nI_nlt (a := 40) hbg (by decide))) (fun c_16 => ?_)
  refine lv_aload_n hx hb dX2_takeLastPage_19 rfl (lv_at hl 0 rfl) ?_
  refine lv_dup hx hb dX2_takeLastPage_20 rfl ?_
  refine va_get (D := D) (ci := 3) (v := .int (nI bg)) (C := RX2) (T := TX2) (N := 16) hx hb hts hinX2 hown hK.1 hP 0 rfl rfl 7 (by decide) (hts (.fieldLink RX2 90 "PrinterRows" "begun" "I") (by decide +kernel)) (fun _ h9 => h9) rfl dX2_takeLastPage_21 ?_
  refine lv_iconst (v := 1) hx hb dX2_takeLastPage_24 (by decide +kernel) ?_
  refine lv_isub hx hb dX2_takeLastPage_25 ?_
  refine lv_topi (fun x_25 ex_25 => ?_)
  obtain rfl : x_25 = nI (bg - 1) := ex_25.trans (sub1 hbg0)
  refine va_put (D := D) (ci := 3) (v := .int (nI (bg - 1))) (ty := .int) (C := RX2) (T := TX2) (N := 16) hx hb hts hinX2 tyX2 tyX2_ok nmX2 hown hK.1 hP hD hS 0 rfl rfl 7 (by decide) (hts (.fieldLink RX2 90 "PrinterRows" "begun" "I") (by decide +kernel)) (fun _ h9 => h9) rfl (by decide +kernel) rfl rfl (Nat.le_of_ble_eq_true rfl) dX2_takeLastPage_26 (fun H locs hP hD hS => ?_)
  have hP : va_P D vwCl (wX cI cP x aC aT aR aP (nI L) (nI C) (nI rl) (nI (bg - 1)) (zb on) (nI st) mk rp sp sc sk fa ch tr rc pg pl) H := hP
  have hD : va_D A (wX cI cP x aC aT aR aP (nI L) (nI C) (nI rl) (nI (bg - 1)) (zb on) (nI st) mk rp sp sc sk fa ch tr rc pg pl) := hD
  refine lv_aload_n hx hb dX2_takeLastPage_29 rfl (lv_at hl 0 rfl) ?_
  refine va_get (D := D) (ci := 3) (v := .ref aP) (C := RX2) (T := TX2) (N := 16) hx hb hts hinX2 hown hK.1 hP 0 rfl rfl 6 (by decide) (hts (.fieldLink RX2 38 "PrinterRows" "pages" "[LPrinterRows$Page;") (by decide +kernel)) (fun _ h9 => h9) rfl dX2_takeLastPage_30 ?_
  refine lv_aload_n hx hb dX2_takeLastPage_33 rfl (lv_at hl 0 rfl) ?_
  refine va_get (D := D) (ci := 3) (v := .int (nI (bg - 1))) (C := RX2) (T := TX2) (N := 16) hx hb hts hinX2 hown hK.1 hP 0 rfl rfl 7 (by decide) (hts (.fieldLink RX2 90 "PrinterRows" "begun" "I") (by decide +kernel)) (fun _ h9 => h9) rfl dX2_takeLastPage_34 ?_
  refine lv_null hx hb dX2_takeLastPage_37 ?_
  refine va_astqN hx hb hK.1 hP hD hS 4 1 rfl rfl (vp_in_nI (by omega) (by decide)) dX2_takeLastPage_38 (fun H locs hP hD hS => ?_)
  rw [show (va_up pg ((nI (bg - 1))).toNatClampNeg none) = (va_up pg (bg - 1) none) from by rw [nI_clamp (by omega)]] at hP hD
  have hP : va_P D vwCl (wX cI cP x aC aT aR aP (nI L) (nI C) (nI rl) (nI (bg - 1)) (zb on) (nI st) mk rp sp sc sk fa ch tr rc (va_up pg (bg - 1) none) pl) H := hP
  have hD : va_D A (wX cI cP x aC aT aR aP (nI L) (nI C) (nI rl) (nI (bg - 1)) (zb on) (nI st) mk rp sp sc sk fa ch tr rc (va_up pg (bg - 1) none) pl) := hD
  exact W.vret hx hb hr (fun t ht hW => ⟨⟨(), rfl, trivial, by rw [ht]; exact hP, hD⟩, hS.F ht⟩) hS.2.2 dX2_takeLastPage_39
end
section
set_option maxHeartbeats 4000000 in
set_option maxRecDepth 100000 in
theorem c_X2_back (l : Launch) {D : va_G} {cI cP cR cJ : ClassId} {x aC aT aR aP L C rl bg st : Nat} {on : Bool} {mk rp sp sc sk fa : Int32} {ch tr rc : Nat → Int32} {pg : Nat → Option Nat} {pl : va_W} {sz : Nat} (hbg : bg ≤ 40) (n0 : Int32) : Met l yX2_back wsX2_back ({ frames := 1, cells := 0, slots := 0, locals := 20 }) (mu [.ref x, .int n0] D cI cP cR cJ (wX cI cP x aC aT aR aP (nI L) (nI C) (nI rl) (nI bg) (zb on) (nI st) mk rp sp sc sk fa ch tr rc pg pl) sz) (qi D (fun (r : Int32) (u : Nat × Bool × Nat × (Nat → Option Nat)) => r = bkR bg n0 ∧ u.1 = bkB bg n0 ∧ (u.2.1, u.2.2.1) = (if bkO bg n0 then (false, 0) else (on, st)) ∧ ∀ q, q < u.1 → u.2.2.2 q = pg q) (fun u : Nat × Bool × Nat × (Nat → Option Nat) => wX cI cP x aC aT aR aP (nI L) (nI C) (nI rl) (nI u.1) (zb u.2.1) (nI u.2.2.1) mk rp sp sc sk fa ch tr rc u.2.2.2 pl) (va_A (wX cI cP x aC aT aR aP (nI L) (nI C) (nI rl) (nI bg) (zb on) (nI st) mk rp sp sc sk fa ch tr rc pg pl) sz)) 0 0 (va_A (wX cI cP x aC aT aR aP (nI L) (nI C) (nI rl) (nI bg) (zb on) (nI st) mk rp sp sc sk fa ch tr rc pg pl) sz) := by
  refine Met.ofW (cc := cX2_back) (maxL := 3) (ret := (some .int)) (by decide) rfl ?_
  intro p e s m args below meth c s₁ B hml hv
  obtain ⟨rfl, hsz, hP, hK, hD0⟩ := hv
  have hx := B.exec
  have hb := B.bytes
  have hr := B.returns
  have hts := atoms_spec (ws := wsX2_back) B.pre
  have hown : s.vm.findClass RX2 = some m.cls := findClass_of_methodNamed B.named
  have hlocks := B.notSynchronized
  have hinX2 : ∀ w ∈ wsX20, w ∈ wsX2_back := by decide +kernel
  subst hsz
  have hD := hD0.self (sz := s.heap.size)
  generalize hAe : va_A (wX cI cP x aC aT aR aP (nI L) (nI C) (nI rl) (nI bg) (zb on) (nI st) mk rp sp sc sk fa ch tr rc pg pl) s.heap.size = A at hD ⊢
  have hA : ∀ q : Nat, s.heap.size ≤ q → A q := fun q h => by rw [← hAe]; exact Or.inr h
  have hS : va_S A s.heap s.heap [] := va_S.rf
  have hP : va_P D vwCl (wX cI cP x aC aT aR aP (nI L) (nI C) (nI rl) (nI bg) (zb on) (nI st) mk rp sp sc sk fa ch tr rc pg pl) s.heap := hP
  have hl := lv_entry ([.ref x, .int n0]) (n := 3) (Nat.le_of_ble_eq_true rfl)
  rw [lg_entry_eq]
  generalize (lg_sl ([.ref x, .int n0]) ++ List.replicate (3 - (lg_sl ([.ref x, .int n0])).length) Slot.unset).toArray = ls at hl ⊢
  have hl : lv_has ls 3 [(0, .ref x), (1, .int n0)] := hl
  refine lv_iload_n hx hb dX2_back_0 rfl (lv_at hl 1 rfl) ?_
  refine lv_if_lt (tgt := 12) hx hb dX2_back_1 (by decide) (fun c_1 => ?_) (fun c_1 => ?_)
  ·
    refine lv_bipush (v := (-2)) hx hb dX2_back_12 (by decide +kernel) ?_
    exact W.iret (v := (-2)) hx hb hr (fun t ht hW => ⟨⟨_, (bg, on, st, pg), rfl, ⟨by rw [bkR, bkO, if_pos c_1]; rfl, by rw [bkB, bkO, if_pos c_1]; rfl, by rw [bkO, if_pos c_1]; rfl, fun _ _ => rfl⟩, by rw [ht]; exact hP, hD⟩, hS.F ht⟩) hS.2.2 dX2_back_14
  ·
    refine lv_iload_n hx hb dX2_back_4 rfl (lv_at hl 1 rfl) ?_
    refine lv_aload_n hx hb dX2_back_5 rfl (lv_at hl 0 rfl) ?_
    refine va_get (D := D) (ci := 3) (v := .int (nI bg)) (C := RX2) (T := TX2) (N := 16) hx hb hts hinX2 hown hK.1 hP 0 rfl rfl 7 (by decide) (hts (.fieldLink RX2 90 "PrinterRows" "begun" "I") (by decide +kernel)) (fun _ h9 => h9) rfl dX2_back_6 ?_
    refine lv_icmp_le (tgt := 15) hx hb dX2_back_9 (by decide) (fun c_9 => ?_) (fun c_9 => ?_)
    ·
      obtain ⟨nn, hnn, hn0⟩ := nI_of (x := n0) c_1
      have hnb : nn ≤ bg := by rw [hn0] at c_9; exact (nI_leI (by omega) (by omega)).mp c_9
      have hok : bkO bg n0 = true := by rw [bkO, if_neg c_1, if_pos c_9]
      have hcl : n0.toNatClampNeg = nn := by rw [hn0, nI_clamp (by omega)]
      refine lv_iconst (v := 0) hx hb dX2_back_15 (by decide +kernel) ?_
      refine lv_istore_n (lv' := [(2, .int 0), (0, .ref x), (1, .int n0)]) hx hb dX2_back_16 rfl hl (by decide) rfl (fun ls hl => ?_)
      have loop : ∀ (n : Nat) (i : Nat) (pgv : Nat → Option Nat) (H : Heap) (locs : List Loc) (ls : Array Slot), (i ≤ nn) → (nn - i < n) → (∀ q, q < bg - i → pgv q = pg q) → va_P D vwCl (wX cI cP x aC aT aR aP (nI L) (nI C) (nI rl) (nI (bg - i)) (zb on) (nI st) mk rp sp sc sk fa ch tr rc pgv pl) H → va_D A (wX cI cP x aC aT aR aP (nI L) (nI C) (nI rl) (nI (bg - i)) (zb on) (nI st) mk rp sp sc sk fa ch tr rc pgv pl) → va_S A s.heap H locs → lv_has ls 3 [(0, .ref x), (1, .int n0), (2, .int (nI i))] → W p l e (headSpec wsX2_back ({ frames := 1, cells := 0, slots := 0, locals := 20 })).room s m (([.ref x, .int n0] : List Value).toArray) below meth c H locs 0 0 (MQ below (qi D (fun (r : Int32) (u : Nat × Bool × Nat × (Nat → Option Nat)) => r = bkR bg n0 ∧ u.1 = bkB bg n0 ∧ (u.2.1, u.2.2.1) = (if bkO bg n0 then (false, 0) else (on, st)) ∧ ∀ q, q < u.1 → u.2.2.2 q = pg q) (fun u : Nat × Bool × Nat × (Nat → Option Nat) => wX cI cP x aC aT aR aP (nI L) (nI C) (nI rl) (nI u.1) (zb u.2.1) (nI u.2.2.1) mk rp sp sc sk fa ch tr rc u.2.2.2 pl) (A)) (([.ref x, .int n0] : List Value).toArray) s 0 0 A) (F0 m 17 ls []) := by
        intro n
        induction n with
        | zero => intro i pgv H locs ls hi hn hpg hP hD hS hl; exact absurd hn (Nat.not_lt_zero _)
        | succ n ih =>
          intro i pgv H locs ls hi hn hpg hP hD hS hl
          refine lv_iload_n hx hb dX2_back_17 rfl (lv_at hl 2 rfl) ?_
          refine lv_iload_n hx hb dX2_back_18 rfl (lv_at hl 1 rfl) ?_
          refine lv_icmp_ge (tgt := 32) hx hb dX2_back_19 (by decide) (fun c_19 => ?_) (fun c_19 => ?_)
          ·
            have hie : nn = i := by rw [hn0] at c_19; have := (nI_leI (by omega) (by omega)).mp c_19; omega
            refine lv_aload_n hx hb dX2_back_32 rfl (lv_at hl 0 rfl) ?_
            refine callQv (va_runV (As := []) (rest := []) ⟨hx, hb, hml, hown, hts⟩ (c_X2_standOnNewPage l) (cwV 0 hts gX2_back_X2_standOnNewPage rfl rfl rfl (by decide +kernel) ⟨(Nat.le_of_ble_eq_true rfl), (Nat.le_of_ble_eq_true rfl)⟩) (mu_pre hK hP hD rfl 0 rfl) rfl rfl hl.1 rfl (lv_room (Nat.le_of_ble_eq_true rfl)) dX2_back_33 ⟨(Nat.le_of_ble_eq_true rfl), (Nat.le_of_ble_eq_true rfl)⟩) hD hS hA (fun u_33 H locs w_33 hP hD hS => ?_)
            have hP : va_P D vwCl (wX cI cP x aC aT aR aP (nI L) (nI C) (nI rl) (nI (bg - i)) (zb false) (nI 0) mk rp sp sc sk fa ch tr rc pgv pl) H := hP
            have hD : va_D A (wX cI cP x aC aT aR aP (nI L) (nI C) (nI rl) (nI (bg - i)) (zb false) (nI 0) mk rp sp sc sk fa ch tr rc pgv pl) := hD
            refine lv_aload_n hx hb dX2_back_36 rfl (lv_at hl 0 rfl) ?_
            refine va_get (D := D) (ci := 3) (v := .int (nI (bg - i))) (C := RX2) (T := TX2) (N := 16) hx hb hts hinX2 hown hK.1 hP 0 rfl rfl 7 (by decide) (hts (.fieldLink RX2 90 "PrinterRows" "begun" "I") (by decide +kernel)) (fun _ h9 => h9) rfl dX2_back_37 ?_
            exact W.iret (v := (nI (bg - i))) hx hb hr (fun t ht hW => ⟨⟨_, (bg - i, false, 0, pgv), rfl, ⟨by rw [bkR, hok, hcl, hie]; rfl, by rw [bkB, hok, hcl, hie]; rfl, by rw [hok]; rfl, hpg⟩, by rw [ht]; exact hP, hD⟩, hS.F ht⟩) hS.2.2 dX2_back_40
          ·
            have hlt : i < nn := by rw [hn0] at c_19; exact Nat.lt_of_not_le (fun h9 => c_19 (nI_le h9 (by omega)))
            refine lv_aload_n hx hb dX2_back_22 rfl (lv_at hl 0 rfl) ?_
            refine callQv (va_runV (As := []) (rest := []) ⟨hx, hb, hml, hown, hts⟩ (c_X2_takeLastPage l (by omega) (by omega)) (cwV 0 hts gX2_back_X2_takeLastPage rfl rfl rfl (by decide +kernel) ⟨(Nat.le_of_ble_eq_true rfl), (Nat.le_of_ble_eq_true rfl)⟩) (mu_pre hK hP hD rfl 0 rfl) rfl rfl hl.1 rfl (lv_room (Nat.le_of_ble_eq_true rfl)) dX2_back_23 ⟨(Nat.le_of_ble_eq_true rfl), (Nat.le_of_ble_eq_true rfl)⟩) hD hS hA (fun u_23 H locs w_23 hP hD hS => ?_)
            have hP : va_P D vwCl (wX cI cP x aC aT aR aP (nI L) (nI C) (nI rl) (nI (bg - i - 1)) (zb on) (nI st) mk rp sp sc sk fa ch tr rc (va_up pgv (bg - i - 1) none) pl) H := hP
            have hD : va_D A (wX cI cP x aC aT aR aP (nI L) (nI C) (nI rl) (nI (bg - i - 1)) (zb on) (nI st) mk rp sp sc sk fa ch tr rc (va_up pgv (bg - i - 1) none) pl) := hD
            rw [show bg - i - 1 = bg - (i + 1) by omega] at hP hD
            refine lv_iinc (v := (nI (i + 1))) (lv' := [(2, .int (nI (i + 1))), (0, .ref x), (1, .int n0)]) hx hb dX2_back_26 hl (k := 2) rfl (nI_1 i) (by decide) rfl (fun ls hl => ?_)
            refine lv_goto (tgt := 17) hx hb dX2_back_29 (by decide) ?_
            exact ih (i + 1) _ _ _ _ ((by omega)) (by omega) (fun q hq => by rw [va_up_ne _ _ (by omega)]; exact hpg q (by omega)) hP hD hS (lv_sub hl [1, 2, 0] rfl)
      exact loop (nn + 1) 0 pg _ _ _ (Nat.zero_le _) (by omega) (fun _ _ => rfl) hP hD hS (lv_sub hl [1, 2, 0] rfl)
    ·
      refine lv_bipush (v := (-2)) hx hb dX2_back_12 (by decide +kernel) ?_
      exact W.iret (v := (-2)) hx hb hr (fun t ht hW => ⟨⟨_, (bg, on, st, pg), rfl, ⟨by rw [bkR, bkO, if_neg c_1, if_neg c_9]; rfl, by rw [bkB, bkO, if_neg c_1, if_neg c_9]; rfl, by rw [bkO, if_neg c_1, if_neg c_9]; rfl, fun _ _ => rfl⟩, by rw [ht]; exact hP, hD⟩, hS.F ht⟩) hS.2.2 dX2_back_14
end
section
/-! a call that has the last cells of the world alone; places in worlds that are lists laid end to end -/
theorem sufP {D : va_G} {wr wc : va_W} {H : Heap} (h : va_P D vwCl (wr ++ wc) H) : va_P D vwCl wc H := fun k q hk => h (wr.length + k) q (by rw [List.getElem?_append_right (by omega), Nat.add_sub_cancel_left]; exact hk)
theorem preP {D : va_G} {wr wc : va_W} {H : Heap} (h : va_P D vwCl (wr ++ wc) H) : va_P D vwCl wr H := fun k q hk => h k q (by rw [List.getElem?_append_left (List.getElem?_eq_some_iff.mp hk).1]; exact hk)
theorem sufD {A : Nat → Prop} {wr wc : va_W} (h : va_D A (wr ++ wc)) : va_D A wc := by
  have e : ∀ (k : Nat) (q : Nat × va_E), wc[k]? = some q → (wr ++ wc)[wr.length + k]? = some q := fun k q hk => by rw [List.getElem?_append_right (by omega), Nat.add_sub_cancel_left]; exact hk
  refine ⟨fun i j x y hx hy hxy => ?_, fun k q hk => h.2 _ q (e k q hk)⟩
  have := h.1 _ _ x y (e i x hx) (e j y hy) hxy
  omega
theorem preD {A : Nat → Prop} {wr wc : va_W} (h : va_D A (wr ++ wc)) : va_D A wr := by
  have e : ∀ (k : Nat) (q : Nat × va_E), wr[k]? = some q → (wr ++ wc)[k]? = some q := fun k q hk => by rw [List.getElem?_append_left (List.getElem?_eq_some_iff.mp hk).1]; exact hk
  exact ⟨fun i j x y hx hy hxy => h.1 _ _ x y (e i x hx) (e j y hy) hxy, fun k q hk => h.2 _ q (e k q hk)⟩
theorem apL {wr t : va_W} {k : Nat} {e : Nat × va_E} (h : wr[k]? = some e) : (wr ++ t)[k]? = some e := by rw [List.getElem?_append_left (List.getElem?_eq_some_iff.mp h).1]; exact h
theorem apR {wr t : va_W} (j : Nat) {e : Nat × va_E} (h : t[j]? = some e) : (wr ++ t)[wr.length + j]? = some e := by rw [List.getElem?_append_right (by omega), Nat.add_sub_cancel_left]; exact h
theorem setL {wr t : va_W} {k : Nat} {e0 e : Nat × va_E} (h : wr[k]? = some e0) : (wr ++ t).set k e = wr.set k e ++ t := by
  rw [List.set_append, if_pos (List.getElem?_eq_some_iff.mp h).1]
theorem setR {wr t : va_W} (j : Nat) {e : Nat × va_E} : (wr ++ t).set (wr.length + j) e = wr ++ t.set j e := by
  rw [List.set_append, if_neg (by omega), Nat.add_sub_cancel_left]
theorem setNe {wr : va_W} {j k : Nat} {x y z : Nat × va_E} (hj : wr[j]? = some x) (hk : wr[k]? = some y) (hxy : x ≠ y) : (wr.set k z)[j]? = some x := by
  rw [List.getElem?_set_ne (fun e => hxy (by subst e; exact Option.some.inj (hj.symm.trans hk)))]
  exact hj
section SF
variable {p : Program} {l : Launch} {e : Env} {R : Room} {s : State} {m : MethodId} {args : Array Value} {below : List Frame} {meth : Method} {c : Code} {H : Heap} {locs : List Loc} {cells slots : Nat} {Q : State → Prop}
variable {pc : Nat} {ls : Array Slot} {rest st0 : List Value} {a : Array Value} {A0 : Nat → Prop} {H0 : Heap} {mc ms : Nat} {D : va_G} {wr wc : va_W}
theorem suf_free (hD : va_D A0 (wr ++ wc)) (hS : va_S A0 H0 H locs) (hA : ∀ q, H0.size ≤ q → A0 q) : ∀ q, va_A wc H.size q → A0 q := by
  intro q h
  rcases h with ⟨k, e, h⟩ | h
  · exact hD.2 _ (q, e) (apR k h)
  · exact hA q (Nat.le_trans hS.1 h)
theorem suf_join {w1 : va_W} {H1 : Heap} (hP : va_P D vwCl (wr ++ wc) H) (hD : va_D A0 (wr ++ wc)) (hk : ∀ q : Nat, q < H.size → ¬ va_A wc H.size q → H1[q]? = H[q]?) (hF : ∀ q, va_A wc H.size q → A0 q) (hP1 : va_P D vwCl w1 H1) (hD1 : va_D (va_A wc H.size) w1) : va_P D vwCl (wr ++ w1) H1 ∧ va_D A0 (wr ++ w1) := by
  have apart : ∀ (k : Nat) (q : Nat × va_E), wr[k]? = some q → q.1 < H.size ∧ ¬ va_A wc H.size q.1 := by
    intro k q hq
    have h2 := apL (t := wc) hq
    have hl := (hP k q h2).lt
    refine ⟨hl, fun h => ?_⟩
    rcases h with ⟨k2, e, h⟩ | h
    · have := hD.1 _ _ q (q.1, e) h2 (apR k2 h) rfl
      have := (List.getElem?_eq_some_iff.mp hq).1
      omega
    · omega
  refine ⟨va_P.app (fun k q hq => ?_) hP1, va_D.app (preD hD) (hD1.weaken (fun k q _ h => hF q.1 h)) (fun i j x y hx hy hxy => ?_)⟩
  · obtain ⟨g1, g2⟩ := apart k q hq
    exact (hP k q (apL hq)).kept (hk q.1 g1 g2)
  · exact (apart i x hx).2 (by rw [hxy]; exact hD1.2 j y hy)
theorem callSv {S : Type} {post : S → Prop} {ww : S → va_W} (hr : va_Run p l e R s m args below meth c H locs cells slots mc ms (F0 m pc ls st0) rest (qv D post ww (va_A wc H.size) a) (va_A wc H.size)) (hP : va_P D vwCl (wr ++ wc) H) (hD : va_D A0 (wr ++ wc)) (hS : va_S A0 H0 H locs) (hA : ∀ q, H0.size ≤ q → A0 q)
    (kk : ∀ (u : S) (H1 : Heap) (locs1 : List Loc), post u → va_P D vwCl (wr ++ ww u) H1 → va_D A0 (wr ++ ww u) → va_S A0 H0 H1 locs1 → W p l e R s m args below meth c H1 locs1 (cells + mc) (slots + ms) Q (F0 m (pc + 3) ls rest)) : W p l e R s m args below meth c H locs cells slots Q (F0 m pc ls st0) := by
  have hF := suf_free hD hS hA
  refine va_callv hr hS (fun q _ h => hF q h) hF (fun u t H1 locs1 ht hvm hw hB hz hk hS1 => ?_)
  obtain ⟨hP1, hD1⟩ := hB
  rw [ht] at hP1
  obtain ⟨hP2, hD2⟩ := suf_join hP hD hk hF hP1 hD1
  exact kk u H1 locs1 hw hP2 hD2 hS1
end SF
theorem max0 {n : Nat} (h : n < 2 ^ 31) : (if (0 : Int32) < nI n then nI n else 0) = nI n := by
  by_cases h0 : (0 : Int32) < nI n
  · rw [if_pos h0]
  · rw [if_neg h0]
    have : n = 0 := by
      by_cases hn : n = 0
      · exact hn
      · exact absurd (nI_lt (a := 0) (Nat.pos_of_ne_zero hn) h) h0
    rw [this]; rfl
theorem fill_step {g : Nat → Int32} {i : Nat} {v : Int32} (h : ∀ j, j < i → g j = v) : ∀ j, j < i + 1 → upd g i v j = v := by
  intro j hj
  by_cases e : j = i
  · rw [e]; exact if_pos rfl
  · rw [pk_un e]; exact h j (by omega)
theorem setSelf {wr : va_W} {k : Nat} {e0 e : Nat × va_E} (h : wr[k]? = some e0) : (wr.set k e)[k]? = some e := by
  rw [List.getElem?_set_self (List.getElem?_eq_some_iff.mp h).1]
end
section
set_option maxHeartbeats 1000000 in
set_option maxRecDepth 100000 in
theorem c_J7_fill_53178 (l : Launch) {D : va_G} {cI cP cR cJ : ClassId} {a : Nat} {n0 : Nat} {f0 : Nat → Int32} {sz : Nat} (hn0 : n0 < 2 ^ 31) (v0 : Int32) : Met l yJ7_fill_53178 wsJ7_fill_53178 ({ frames := 0, cells := 0, slots := 0, locals := 0 }) (mu [.ref a, .int v0] D cI cP cR cJ ([(a, .inl (cI, n0, .inl f0))]) sz) (qv D (fun (u : Nat → Int32) => ∀ j, j < n0 → u j = v0) (fun u : Nat → Int32 => [(a, .inl (cI, n0, .inl u))]) (va_A ([(a, .inl (cI, n0, .inl f0))]) sz)) 0 0 (va_A ([(a, .inl (cI, n0, .inl f0))]) sz) := by
  refine Met.ofW (cc := cJ7_fill_53178) (maxL := 4) (ret := none) (by decide) rfl ?_
  intro p e s m args below meth c s₁ B hml hv
  obtain ⟨rfl, hsz, hP, hK, hD0⟩ := hv
  have hx := B.exec
  have hb := B.bytes
  have hr := B.returns
  have hts := atoms_spec (ws := wsJ7_fill_53178) B.pre
  have hown : s.vm.findClass RJ7 = some m.cls := findClass_of_methodNamed B.named
  have hlocks := B.notSynchronized
  subst hsz
  have hD := hD0.self (sz := s.heap.size)
  generalize hAe : va_A ([(a, .inl (cI, n0, .inl f0))]) s.heap.size = A at hD ⊢
  have hA : ∀ q : Nat, s.heap.size ≤ q → A q := fun q h => by rw [← hAe]; exact Or.inr h
  have hS : va_S A s.heap s.heap [] := va_S.rf
  have hP : va_P D vwCl ([(a, .inl (cI, n0, .inl f0))]) s.heap := hP
  have hl := lv_entry ([.ref a, .int v0]) (n := 4) (Nat.le_of_ble_eq_true rfl)
  rw [lg_entry_eq]
  generalize (lg_sl ([.ref a, .int v0]) ++ List.replicate (4 - (lg_sl ([.ref a, .int v0])).length) Slot.unset).toArray = ls at hl ⊢
  have hl : lv_has ls 4 [(0, .ref a), (1, .int v0)] := hl
  refine lv_iconst (v := 0) hx hb dJ7_fill_53178_0 (by decide +kernel) ?_
  refine lv_istore_n (lv' := [(2, .int 0), (0, .ref a), (1, .int v0)]) hx hb dJ7_fill_53178_1 rfl hl (by decide) rfl (fun ls hl => ?_)
  refine lv_aload_n hx hb dJ7_fill_53178_2 rfl (lv_at hl 1 rfl) ?_
  refine va_alen (v := (nI n0)) hx hb hK.1 hP 0 0 rfl rfl rfl dJ7_fill_53178_3 ?_
  refine lv_istore_n (lv' := [(3, .int (nI n0)), (2, .int 0), (0, .ref a), (1, .int v0)]) hx hb dJ7_fill_53178_4 rfl hl (by decide) rfl (fun ls hl => ?_)
  have loop : ∀ (n : Nat) (i : Nat) (g : Nat → Int32) (H : Heap) (locs : List Loc) (ls : Array Slot), (i ≤ n0) → (n0 - i < n) → (∀ j, j < i → g j = v0) → va_P D vwCl ([(a, .inl (cI, n0, .inl g))]) H → va_D A ([(a, .inl (cI, n0, .inl g))]) → va_S A s.heap H locs → lv_has ls 4 [(0, .ref a), (1, .int v0), (2, .int (nI i)), (3, .int (nI n0))] → W p l e (headSpec wsJ7_fill_53178 ({ frames := 0, cells := 0, slots := 0, locals := 0 })).room s m (([.ref a, .int v0] : List Value).toArray) below meth c H locs 0 0 (MQ below (qv D (fun (u : Nat → Int32) => ∀ j, j < n0 → u j = v0) (fun u : Nat → Int32 => [(a, .inl (cI, n0, .inl u))]) (A)) (([.ref a, .int v0] : List Value).toArray) s 0 0 A) (F0 m 5 ls []) := by
    intro n
    induction n with
    | zero => intro i g H locs ls hi hn hg hP hD hS hl; exact absurd hn (Nat.not_lt_zero _)
    | succ n ih =>
      intro i g H locs ls hi hn hg hP hD hS hl
      refine lv_iload_n hx hb dJ7_fill_53178_5 rfl (lv_at hl 2 rfl) ?_
      refine lv_iload_n hx hb dJ7_fill_53178_6 rfl (lv_at hl 3 rfl) ?_
      refine lv_icmp_ge (tgt := 20) hx hb dJ7_fill_53178_7 (by decide) (fun c_7 => ?_) (fun c_7 => ?_)
      ·
        exact W.vret hx hb hr (fun t ht hW => ⟨⟨g, rfl, fun j hj => hg j (by have := (nI_leI (by omega) (by omega)).mp c_7; omega), by rw [ht]; exact hP, hD⟩, hS.F ht⟩) hS.2.2 dJ7_fill_53178_20
      ·
        have hlt : i < n0 := Nat.lt_of_not_le (fun h9 => c_7 (nI_le h9 (by omega)))
        refine lv_aload_n hx hb dJ7_fill_53178_10 rfl (lv_at hl 0 rfl) ?_
        refine lv_iload_n hx hb dJ7_fill_53178_11 rfl (lv_at hl 2 rfl) ?_
        refine lv_iload_n hx hb dJ7_fill_53178_12 rfl (lv_at hl 1 rfl) ?_
        refine va_iast hx hb hK.1 hP hD hS 0 0 rfl rfl (vp_in_nI hlt (by omega)) dJ7_fill_53178_13 (fun H locs hP hD hS => ?_)
        rw [show (upd g ((nI i)).toNatClampNeg v0) = (upd g i v0) from by rw [nI_clamp (by omega)]] at hP hD
        have hP : va_P D vwCl ([(a, .inl (cI, n0, .inl (upd g i v0)))]) H := hP
        have hD : va_D A ([(a, .inl (cI, n0, .inl (upd g i v0)))]) := hD
        refine lv_iinc (v := (nI (i + 1))) (lv' := [(2, .int (nI (i + 1))), (0, .ref a), (1, .int v0), (3, .int (nI n0))]) hx hb dJ7_fill_53178_14 hl (k := 2) rfl (nI_1 i) (by decide) rfl (fun ls hl => ?_)
        refine lv_goto (tgt := 5) hx hb dJ7_fill_53178_17 (by decide) ?_
        exact ih (i + 1) _ _ _ _ (by omega) (by omega) (fill_step hg) hP hD hS (lv_sub hl [1, 2, 0, 3] rfl)
  exact loop (n0 + 1) 0 f0 _ _ _ (Nat.zero_le _) (by omega) (fun j hj => absurd hj (Nat.not_lt_zero j)) hP hD hS (lv_sub hl [2, 3, 1, 0] rfl)

set_option maxHeartbeats 1000000 in
set_option maxRecDepth 100000 in
theorem c_X1_init (l : Launch) {D : va_G} {cI cP cR cJ : ClassId} {b : Nat} {C : Nat} {sz : Nat} (hC : C ≤ 132) : Met l yX1_init wsX1_init ({ frames := 1, cells := 1, slots := 132, locals := 23 }) (mu [.ref b, .int (nI C)] D cI cP cR cJ ([(b, .inr (2, [.null]))]) sz) (qv D (fun (u : Nat × (Nat → Int32)) => ∀ j, j < C → u.2 j = 32) (fun u : Nat × (Nat → Int32) => [(b, .inr (2, [.ref u.1])), (u.1, .inl (cI, C, .inl u.2))]) (va_A ([(b, .inr (2, [.null]))]) sz)) 1 132 (va_A ([(b, .inr (2, [.null]))]) sz) := by
  refine Met.ofW (cc := cX1_init) (maxL := 2) (ret := none) (by decide) rfl ?_
  intro p e s m args below meth c s₁ B hml hv
  obtain ⟨rfl, hsz, hP, hK, hD0⟩ := hv
  have hx := B.exec
  have hb := B.bytes
  have hr := B.returns
  have hts := atoms_spec (ws := wsX1_init) B.pre
  have hown : s.vm.findClass RX1 = some m.cls := findClass_of_methodNamed B.named
  have hlocks := B.notSynchronized
  have hin : meth.name = "<init>" := (name_of_methodNamed B.named B.method).1
  have hinX1 : ∀ w ∈ wsX10, w ∈ wsX1_init := by decide +kernel
  subst hsz
  have hD := hD0.self (sz := s.heap.size)
  generalize hAe : va_A ([(b, .inr (2, [.null]))]) s.heap.size = A at hD ⊢
  have hA : ∀ q : Nat, s.heap.size ≤ q → A q := fun q h => by rw [← hAe]; exact Or.inr h
  have hS : va_S A s.heap s.heap [] := va_S.rf
  have hP : va_P D vwCl ([(b, .inr (2, [.null]))]) s.heap := hP
  have hl := lv_entry ([.ref b, .int (nI C)]) (n := 2) (Nat.le_of_ble_eq_true rfl)
  rw [lg_entry_eq]
  generalize (lg_sl ([.ref b, .int (nI C)]) ++ List.replicate (2 - (lg_sl ([.ref b, .int (nI C)])).length) Slot.unset).toArray = ls at hl ⊢
  have hl : lv_has ls 2 [(0, .ref b), (1, .int (nI C))] := hl
  refine lv_aload_n hx hb dX1_init_0 rfl (lv_at hl 0 rfl) ?_
  refine W.objInit hx hb hown (hts (.methodLink RX1 3 objectInit) (by decide +kernel)) (hts (.instanceMethod objectInit) (by decide +kernel)) (hts (.code objectInit ⟨#[0xb1]⟩ 1 none) (by decide +kernel)) rfl (by rw [hml]; exact hl.1) rfl dX1_init_1 (Nat.le_of_ble_eq_true rfl) (Nat.le_of_ble_eq_true rfl) ?_
  refine W.eq (g2 := F0 m 4 ls []) rfl ?_
  refine lv_aload_n hx hb dX1_init_4 rfl (lv_at hl 0 rfl) ?_
  refine lv_iconst (v := 0) hx hb dX1_init_5 (by decide +kernel) ?_
  refine lv_iload_n hx hb dX1_init_6 rfl (lv_at hl 1 rfl) ?_
  refine va_mmax hx hb (by rw [hml]; exact hl.1.symm) hown (hts (.methodLink RX1 9 Lib.Math.max.name) (by decide +kernel)) (hts (.static Lib.Math.max.name) (by decide +kernel)) (hts (.initialized "java/lang/Math") (by decide +kernel)) (hts (.code Lib.Math.max.name Lib.Math.max.code 2 (some .int)) (by decide +kernel)) (Nat.le_of_ble_eq_true rfl) (Nat.le_of_ble_eq_true rfl) (Nat.le_of_ble_eq_true rfl) (Nat.le_of_ble_eq_true rfl) dX1_init_7 ?_
  refine lv_topi (fun x_7 ex_7 => ?_)
  obtain rfl : x_7 = nI C := ex_7.trans (max0 (by omega))
  refine va_newa (atype := .int) (ty := .int) hx hb (hts (.arrayClass .int) (by decide +kernel)) rfl hK.1 hP hD hS hA (n := (nI C)) (N' := C) (a0 := (C, .inl (fun _ => 0))) (fun _ => rfl) (nI_pos (by omega)) (nI_clamp (by omega)) (by rw [show componentBytes .int = 4 from rfl]; omega) (by show 0 + 1 ≤ 1; omega) (by show 0 + C ≤ 132; omega) dX1_init_10 (fun sa cA H hK2 hP hD hS => ?_)
  rw [show cA = cI from kI hK2] at hP hD
  have hP : va_P D vwCl ([(b, .inr (2, [.null])), (sa, .inl (cI, C, .inl (fun _ => 0)))]) H := hP
  have hD : va_D A ([(b, .inr (2, [.null])), (sa, .inl (cI, C, .inl (fun _ => 0)))]) := hD
  refine W.widen (k := 1) (n := 132) (by omega) (by omega) ?_
  refine va_putF (D := D) (ci := 2) (v := .ref sa) (ty := .array .int) (C := RX1) (T := TX1) (N := 1) hx hb hts hinX1 tyX1 tyX1_ok nmX1 hown hK.1 hP hD hS 0 rfl rfl 0 (by decide) (hts (.fieldLink RX1 15 "PrinterRows$Row" "signs" "[I") (by decide +kernel)) (fun _ h9 => h9) rfl hin rfl (by decide +kernel) rfl rfl (Nat.le_of_ble_eq_true rfl) dX1_init_12 (fun H locs hP hD hS => ?_)
  have hP : va_P D vwCl ([(b, .inr (2, [.ref sa])), (sa, .inl (cI, C, .inl (fun _ => 0)))]) H := hP
  have hD : va_D A ([(b, .inr (2, [.ref sa])), (sa, .inl (cI, C, .inl (fun _ => 0)))]) := hD
  refine lv_aload_n hx hb dX1_init_15 rfl (lv_at hl 0 rfl) ?_
  refine va_get (D := D) (ci := 2) (v := .ref sa) (C := RX1) (T := TX1) (N := 1) hx hb hts hinX1 hown hK.1 hP 0 rfl rfl 0 (by decide) (hts (.fieldLink RX1 15 "PrinterRows$Row" "signs" "[I") (by decide +kernel)) (fun _ h9 => h9) rfl dX1_init_16 ?_
  refine lv_bipush (v := 32) hx hb dX1_init_19 (by decide +kernel) ?_
  have hP : va_P D vwCl ([(b, .inr (2, [.ref sa]))] ++ [(sa, .inl (cI, C, .inl (fun _ => 0)))]) H := hP
  have hD : va_D A ([(b, .inr (2, [.ref sa]))] ++ [(sa, .inl (cI, C, .inl (fun _ => 0)))]) := hD
  refine callSv (wr := [(b, .inr (2, [.ref sa]))]) (wc := [(sa, .inl (cI, C, .inl (fun _ => 0)))]) (va_runS (As := [.ref sa, .int 32]) (rest := []) ⟨hx, hb, hml, hown, hts⟩ (c_J7_fill_53178 l (by omega) 32) (va_cwS 2 hts gX1_init_J7_fill_53178 rfl rfl rfl (by decide +kernel) ⟨(Nat.le_of_ble_eq_true rfl), (Nat.le_of_ble_eq_true rfl)⟩) (mu_preS hK (sufP hP) (sufD hD)) rfl rfl hl.1 rfl (lv_room (Nat.le_of_ble_eq_true rfl)) dX1_init_21 ⟨(Nat.le_of_ble_eq_true rfl), (Nat.le_of_ble_eq_true rfl)⟩) hP hD hS hA (fun u_21 H locs w_21 hP hD hS => ?_)
  have hP : va_P D vwCl ([(b, .inr (2, [.ref sa])), (sa, .inl (cI, C, .inl u_21))]) H := hP
  have hD : va_D A ([(b, .inr (2, [.ref sa])), (sa, .inl (cI, C, .inl u_21))]) := hD
  refine W.widen (k := 1) (n := 132) (by omega) (by omega) ?_
  exact W.vret hx hb hr (fun t ht hW => ⟨⟨(sa, u_21), rfl, w_21, by rw [ht]; exact hP, hD⟩, hS.F ht⟩) hS.2.2 dX1_init_24

set_option maxHeartbeats 1000000 in
set_option maxRecDepth 100000 in
theorem c_X1_joinSign (l : Launch) {D : va_G} {cI cP cR cJ : ClassId} {b sa C : Nat} {f : Nat → Int32} {pl : va_W} {sz : Nat} (kb ks : Nat) (hkb : pl[kb]? = some (b, .inr (2, [.ref sa]))) (hks : pl[ks]? = some (sa, .inl (cI, C, .inl f))) (hC : C ≤ 132) (k : Nat) (hk : k < C) (v0 : Int32) : Met l yX1_joinSign wsX1_joinSign ({ frames := 2, cells := 0, slots := 0, locals := 34 }) (mu [.ref b, .int (nI k), .int v0] D cI cP cR cJ (pl) sz) (qv D (fun (_ : Unit) => True) (fun _ : Unit => pl.set ks (sa, .inl (cI, C, .inl (upd f k (mx (f k) v0))))) (va_A (pl) sz)) 0 0 (va_A (pl) sz) := by
  refine Met.ofW (cc := cX1_joinSign) (maxL := 3) (ret := none) (by decide) rfl ?_
  intro p e s m args below meth c s₁ B hml hv
  obtain ⟨rfl, hsz, hP, hK, hD0⟩ := hv
  have hx := B.exec
  have hb := B.bytes
  have hr := B.returns
  have hts := atoms_spec (ws := wsX1_joinSign) B.pre
  have hown : s.vm.findClass RX1 = some m.cls := findClass_of_methodNamed B.named
  have hlocks := B.notSynchronized
  have hinX1 : ∀ w ∈ wsX10, w ∈ wsX1_joinSign := by decide +kernel
  subst hsz
  have hD := hD0.self (sz := s.heap.size)
  generalize hAe : va_A (pl) s.heap.size = A at hD ⊢
  have hA : ∀ q : Nat, s.heap.size ≤ q → A q := fun q h => by rw [← hAe]; exact Or.inr h
  have hS : va_S A s.heap s.heap [] := va_S.rf
  have hP : va_P D vwCl (pl) s.heap := hP
  have hl := lv_entry ([.ref b, .int (nI k), .int v0]) (n := 3) (Nat.le_of_ble_eq_true rfl)
  rw [lg_entry_eq]
  generalize (lg_sl ([.ref b, .int (nI k), .int v0]) ++ List.replicate (3 - (lg_sl ([.ref b, .int (nI k), .int v0])).length) Slot.unset).toArray = ls at hl ⊢
  have hl : lv_has ls 3 [(0, .ref b), (1, .int (nI k)), (2, .int v0)] := hl
  refine lv_iload_n hx hb dX1_joinSign_0 rfl (lv_at hl 1 rfl) ?_
  refine lv_if_lt (tgt := 29) hx hb dX1_joinSign_1 (by decide) (fun c_1 => absurd c_1 (nI_pos (by omega))) (fun c_1 => ?_)
  refine lv_iload_n hx hb dX1_joinSign_4 rfl (lv_at hl 1 rfl) ?_
  refine lv_aload_n hx hb dX1_joinSign_5 rfl (lv_at hl 0 rfl) ?_
  refine va_get (D := D) (ci := 2) (v := .ref sa) (C := RX1) (T := TX1) (N := 1) hx hb hts hinX1 hown hK.1 hP kb hkb rfl 0 (by decide) (hts (.fieldLink RX1 15 "PrinterRows$Row" "signs" "[I") (by decide +kernel)) (fun _ h9 => h9) rfl dX1_joinSign_6 ?_
  refine va_alen (v := (nI C)) hx hb hK.1 hP ks 0 hks rfl rfl dX1_joinSign_9 ?_
  refine lv_icmp_ge (tgt := 29) hx hb dX1_joinSign_10 (by decide) (fun c_10 => absurd c_10 (nI_ge hk (by omega))) (fun c_10 => ?_)
  refine lv_aload_n hx hb dX1_joinSign_13 rfl (lv_at hl 0 rfl) ?_
  refine va_get (D := D) (ci := 2) (v := .ref sa) (C := RX1) (T := TX1) (N := 1) hx hb hts hinX1 hown hK.1 hP kb hkb rfl 0 (by decide) (hts (.fieldLink RX1 15 "PrinterRows$Row" "signs" "[I") (by decide +kernel)) (fun _ h9 => h9) rfl dX1_joinSign_14 ?_
  refine lv_iload_n hx hb dX1_joinSign_17 rfl (lv_at hl 1 rfl) ?_
  refine lv_aload_n hx hb dX1_joinSign_18 rfl (lv_at hl 0 rfl) ?_
  refine va_get (D := D) (ci := 2) (v := .ref sa) (C := RX1) (T := TX1) (N := 1) hx hb hts hinX1 hown hK.1 hP kb hkb rfl 0 (by decide) (hts (.fieldLink RX1 15 "PrinterRows$Row" "signs" "[I") (by decide +kernel)) (fun _ h9 => h9) rfl dX1_joinSign_19 ?_
  refine lv_iload_n hx hb dX1_joinSign_22 rfl (lv_at hl 1 rfl) ?_
  refine va_iald hx hb hK.1 hP ks 0 hks rfl (vp_in_nI hk (by omega)) dX1_joinSign_23 ?_
  refine lv_topi (fun x_23 ex_23 => ?_)
  obtain rfl : x_23 = f k := ex_23.trans (by rw [nI_clamp (by omega)])
  refine lv_iload_n hx hb dX1_joinSign_24 rfl (lv_at hl 2 rfl) ?_
  refine vp_callSi (fun T hT X => by obtain ⟨v, st0, t, T1, L1, q1, q2, q3, q4, -, q5, q6⟩ := va_runSN (As := [.int (f k), .int v0]) (rest := [.int (nI k), .ref sa]) ⟨hx, hb, hml, hown, hts⟩ (c_X2_darker l (f k) v0) ⟨va_cnB 2 hts gX1_joinSign_X2_darker_n27 rfl rfl rfl hK.2.2.2 (hts (.initialized RX2) (by decide +kernel)) (by decide +kernel) ⟨(Nat.le_of_ble_eq_true rfl), (Nat.le_of_ble_eq_true rfl)⟩, hts (.static yX2_darker) (by decide +kernel), trivial⟩ pu_pre rfl rfl hl.1 rfl (lv_room (Nat.le_of_ble_eq_true rfl)) dX1_joinSign_25 ⟨(Nat.le_of_ble_eq_true rfl), (Nat.le_of_ble_eq_true rfl)⟩ T hT X; exact ⟨v, st0, t, T1, L1, q1, q2, q3, q4, q5, q6⟩) (fun r_25 w_25 => ?_)
  subst w_25
  refine va_iast hx hb hK.1 hP hD hS ks 0 hks rfl (vp_in_nI hk (by omega)) dX1_joinSign_28 (fun H locs hP hD hS => ?_)
  rw [show (upd f ((nI k)).toNatClampNeg (mx (f k) v0)) = (upd f k (mx (f k) v0)) from by rw [nI_clamp (by omega)]] at hP hD
  have hP : va_P D vwCl (pl.set ks (sa, .inl (cI, C, .inl (upd f k (mx (f k) v0))))) H := hP
  have hD : va_D A (pl.set ks (sa, .inl (cI, C, .inl (upd f k (mx (f k) v0))))) := hD
  exact W.vret hx hb hr (fun t ht hW => ⟨⟨(), rfl, trivial, by rw [ht]; exact hP, hD⟩, hS.F ht⟩) hS.2.2 dX1_joinSign_29

set_option maxHeartbeats 1000000 in
set_option maxRecDepth 100000 in
theorem c_X1_signOf (l : Launch) {D : va_G} {cI cP cR cJ : ClassId} {b sa C : Nat} {f : Nat → Int32} {pl : va_W} (kb ks : Nat) (hkb : pl[kb]? = some (b, .inr (2, [.ref sa]))) (hks : pl[ks]? = some (sa, .inl (cI, C, .inl f))) (hC : C ≤ 132) (k : Nat) (hk : k < C) : Met l yX1_signOf wsX1_signOf ({ frames := 0, cells := 0, slots := 0, locals := 0 }) (ro [.ref b, .int (nI k)] D cI cP cR cJ (pl)) (vp_Si (fun r => r = f k)) 0 0 (fun _ => False) := by
  refine Met.ofW (cc := cX1_signOf) (maxL := 2) (ret := (some .int)) (by decide) rfl ?_
  intro p e s m args below meth c s₁ B hml hv
  obtain ⟨rfl, hP, hK⟩ := hv
  have hx := B.exec
  have hb := B.bytes
  have hr := B.returns
  have hts := atoms_spec (ws := wsX1_signOf) B.pre
  have hown : s.vm.findClass RX1 = some m.cls := findClass_of_methodNamed B.named
  have hlocks := B.notSynchronized
  have hinX1 : ∀ w ∈ wsX10, w ∈ wsX1_signOf := by decide +kernel
  have hl := lv_entry ([.ref b, .int (nI k)]) (n := 2) (Nat.le_of_ble_eq_true rfl)
  rw [lg_entry_eq]
  generalize (lg_sl ([.ref b, .int (nI k)]) ++ List.replicate (2 - (lg_sl ([.ref b, .int (nI k)])).length) Slot.unset).toArray = ls at hl ⊢
  have hl : lv_has ls 2 [(0, .ref b), (1, .int (nI k))] := hl
  refine lv_iload_n hx hb dX1_signOf_0 rfl (lv_at hl 1 rfl) ?_
  refine lv_if_lt (tgt := 22) hx hb dX1_signOf_1 (by decide) (fun c_1 => absurd c_1 (nI_pos (by omega))) (fun c_1 => ?_)
  refine lv_iload_n hx hb dX1_signOf_4 rfl (lv_at hl 1 rfl) ?_
  refine lv_aload_n hx hb dX1_signOf_5 rfl (lv_at hl 0 rfl) ?_
  refine va_get (D := D) (ci := 2) (v := .ref sa) (C := RX1) (T := TX1) (N := 1) hx hb hts hinX1 hown hK.1 hP kb hkb rfl 0 (by decide) (hts (.fieldLink RX1 15 "PrinterRows$Row" "signs" "[I") (by decide +kernel)) (fun _ h9 => h9) rfl dX1_signOf_6 ?_
  refine va_alen (v := (nI C)) hx hb hK.1 hP ks 0 hks rfl rfl dX1_signOf_9 ?_
  refine lv_icmp_ge (tgt := 22) hx hb dX1_signOf_10 (by decide) (fun c_10 => absurd c_10 (nI_ge hk (by omega))) (fun c_10 => ?_)
  refine lv_aload_n hx hb dX1_signOf_13 rfl (lv_at hl 0 rfl) ?_
  refine va_get (D := D) (ci := 2) (v := .ref sa) (C := RX1) (T := TX1) (N := 1) hx hb hts hinX1 hown hK.1 hP kb hkb rfl 0 (by decide) (hts (.fieldLink RX1 15 "PrinterRows$Row" "signs" "[I") (by decide +kernel)) (fun _ h9 => h9) rfl dX1_signOf_14 ?_
  refine lv_iload_n hx hb dX1_signOf_17 rfl (lv_at hl 1 rfl) ?_
  refine va_iald hx hb hK.1 hP ks 0 hks rfl (vp_in_nI hk (by omega)) dX1_signOf_18 ?_
  refine lv_topi (fun x_18 ex_18 => ?_)
  obtain rfl : x_18 = f k := ex_18.trans (by rw [nI_clamp (by omega)])
  refine lv_goto (tgt := 24) hx hb dX1_signOf_19 (by decide) ?_
  exact W.iret (v := (f k)) hx hb hr (fun t ht hW => ⟨_, rfl, rfl, ht⟩) (fun q h => by cases h) dX1_signOf_24

set_option maxHeartbeats 1000000 in
set_option maxRecDepth 100000 in
theorem c_X0_init (l : Launch) {D : va_G} {cI cP cR cJ : ClassId} {a L C : Nat} {sz : Nat} (hL : L ≤ 66) : Met l yX0_init wsX0_init ({ frames := 1, cells := 1, slots := 66, locals := 15 }) (mu [.ref a, .int (nI L), .int (nI C)] D cI cP cR cJ ([(a, .inr (1, [.null, .int 0]))]) sz) (qv D (fun (_ : Nat) => True) (fun u : Nat => [(a, .inr (1, [.ref u, .int (nI C)])), (u, .inl (cR, L, .inr (.inr (.inr (.inr (fun _ => none))))))]) (va_A ([(a, .inr (1, [.null, .int 0]))]) sz)) 1 66 (va_A ([(a, .inr (1, [.null, .int 0]))]) sz) := by
  refine Met.ofW (cc := cX0_init) (maxL := 3) (ret := none) (by decide) rfl ?_
  intro p e s m args below meth c s₁ B hml hv
  obtain ⟨rfl, hsz, hP, hK, hD0⟩ := hv
  have hx := B.exec
  have hb := B.bytes
  have hr := B.returns
  have hts := atoms_spec (ws := wsX0_init) B.pre
  have hown : s.vm.findClass RX0 = some m.cls := findClass_of_methodNamed B.named
  have hlocks := B.notSynchronized
  have hin : meth.name = "<init>" := (name_of_methodNamed B.named B.method).1
  have hinX0 : ∀ w ∈ wsX00, w ∈ wsX0_init := by decide +kernel
  subst hsz
  have hD := hD0.self (sz := s.heap.size)
  generalize hAe : va_A ([(a, .inr (1, [.null, .int 0]))]) s.heap.size = A at hD ⊢
  have hA : ∀ q : Nat, s.heap.size ≤ q → A q := fun q h => by rw [← hAe]; exact Or.inr h
  have hS : va_S A s.heap s.heap [] := va_S.rf
  have hP : va_P D vwCl ([(a, .inr (1, [.null, .int 0]))]) s.heap := hP
  have hl := lv_entry ([.ref a, .int (nI L), .int (nI C)]) (n := 3) (Nat.le_of_ble_eq_true rfl)
  rw [lg_entry_eq]
  generalize (lg_sl ([.ref a, .int (nI L), .int (nI C)]) ++ List.replicate (3 - (lg_sl ([.ref a, .int (nI L), .int (nI C)])).length) Slot.unset).toArray = ls at hl ⊢
  have hl : lv_has ls 3 [(0, .ref a), (1, .int (nI L)), (2, .int (nI C))] := hl
  refine lv_aload_n hx hb dX0_init_0 rfl (lv_at hl 0 rfl) ?_
  refine W.objInit hx hb hown (hts (.methodLink RX0 3 objectInit) (by decide +kernel)) (hts (.instanceMethod objectInit) (by decide +kernel)) (hts (.code objectInit ⟨#[0xb1]⟩ 1 none) (by decide +kernel)) rfl (by rw [hml]; exact hl.1) rfl dX0_init_1 (Nat.le_of_ble_eq_true rfl) (Nat.le_of_ble_eq_true rfl) ?_
  refine W.eq (g2 := F0 m 4 ls []) rfl ?_
  refine lv_aload_n hx hb dX0_init_4 rfl (lv_at hl 0 rfl) ?_
  refine lv_iconst (v := 0) hx hb dX0_init_5 (by decide +kernel) ?_
  refine lv_iload_n hx hb dX0_init_6 rfl (lv_at hl 1 rfl) ?_
  refine va_mmax hx hb (by rw [hml]; exact hl.1.symm) hown (hts (.methodLink RX0 9 Lib.Math.max.name) (by decide +kernel)) (hts (.static Lib.Math.max.name) (by decide +kernel)) (hts (.initialized "java/lang/Math") (by decide +kernel)) (hts (.code Lib.Math.max.name Lib.Math.max.code 2 (some .int)) (by decide +kernel)) (Nat.le_of_ble_eq_true rfl) (Nat.le_of_ble_eq_true rfl) (Nat.le_of_ble_eq_true rfl) (Nat.le_of_ble_eq_true rfl) dX0_init_7 ?_
  refine lv_topi (fun x_7 ex_7 => ?_)
  obtain rfl : x_7 = nI L := ex_7.trans (max0 (by omega))
  refine va_newq (C := "PrinterRows$Row") hx hb hown (hts (.classLink RX0 15 RX1) (by decide +kernel)) hK.2.2.1 hK.1 hP hD hS hA (n := (nI L)) (N' := L) (nI_pos (by omega)) (nI_clamp (by omega)) (by omega) (by show 0 + 1 ≤ 1; omega) (by show 0 + L ≤ 66; omega) dX0_init_10 (fun ra cA H hK2 hP hD hS => ?_)
  rw [show cA = cR from kR hK2] at hP hD
  have hP : va_P D vwCl ([(a, .inr (1, [.null, .int 0])), (ra, .inl (cR, L, .inr (.inr (.inr (.inr (fun _ => none))))))]) H := hP
  have hD : va_D A ([(a, .inr (1, [.null, .int 0])), (ra, .inl (cR, L, .inr (.inr (.inr (.inr (fun _ => none))))))]) := hD
  refine W.widen (k := 1) (n := 66) (by omega) (by omega) ?_
  refine va_putF (D := D) (ci := 1) (v := .ref ra) (ty := .array (.object "PrinterRows$Row")) (C := RX0) (T := TX0) (N := 2) hx hb hts hinX0 tyX0 tyX0_ok nmX0 hown hK.1 hP hD hS 0 rfl rfl 0 (by decide) (hts (.fieldLink RX0 17 "PrinterRows$Page" "rows" "[LPrinterRows$Row;") (by decide +kernel)) (fun _ h9 => h9) rfl hin rfl (by decide +kernel) rfl rfl (Nat.le_of_ble_eq_true rfl) dX0_init_13 (fun H locs hP hD hS => ?_)
  have hP : va_P D vwCl ([(a, .inr (1, [.ref ra, .int 0])), (ra, .inl (cR, L, .inr (.inr (.inr (.inr (fun _ => none))))))]) H := hP
  have hD : va_D A ([(a, .inr (1, [.ref ra, .int 0])), (ra, .inl (cR, L, .inr (.inr (.inr (.inr (fun _ => none))))))]) := hD
  refine lv_aload_n hx hb dX0_init_16 rfl (lv_at hl 0 rfl) ?_
  refine lv_iload_n hx hb dX0_init_17 rfl (lv_at hl 2 rfl) ?_
  refine va_putF (D := D) (ci := 1) (v := .int (nI C)) (ty := .int) (C := RX0) (T := TX0) (N := 2) hx hb hts hinX0 tyX0 tyX0_ok nmX0 hown hK.1 hP hD hS 0 rfl rfl 1 (by decide) (hts (.fieldLink RX0 23 "PrinterRows$Page" "columns" "I") (by decide +kernel)) (fun _ h9 => h9) rfl hin rfl (by decide +kernel) rfl rfl (Nat.le_of_ble_eq_true rfl) dX0_init_18 (fun H locs hP hD hS => ?_)
  have hP : va_P D vwCl ([(a, .inr (1, [.ref ra, .int (nI C)])), (ra, .inl (cR, L, .inr (.inr (.inr (.inr (fun _ => none))))))]) H := hP
  have hD : va_D A ([(a, .inr (1, [.ref ra, .int (nI C)])), (ra, .inl (cR, L, .inr (.inr (.inr (.inr (fun _ => none))))))]) := hD
  refine W.widen (k := 1) (n := 66) (by omega) (by omega) ?_
  exact W.vret hx hb hr (fun t ht hW => ⟨⟨ra, rfl, trivial, by rw [ht]; exact hP, hD⟩, hS.F ht⟩) hS.2.2 dX0_init_21
end
section
set_option maxHeartbeats 1000000 in
set_option maxRecDepth 100000 in
theorem c_X0_signIn (l : Launch) {D : va_G} {cI cP cR cJ : ClassId} {a ra L C : Nat} {g : Nat → Option Nat} {pl : va_W} (ka kr : Nat) (hka : pl[ka]? = some (a, .inr (1, [.ref ra, .int (nI C)]))) (hkr : pl[kr]? = some (ra, .inl (cR, L, .inr (.inr (.inr (.inr g)))))) (hL : L ≤ 66) (hC : C ≤ 132) (i k : Nat) (hi : i < L) (hk : k < C) (v : Int32) (hrow : (g i = none ∧ v = 32) ∨ ∃ (b sa : Nat) (f : Nat → Int32) (kb ks : Nat), g i = some b ∧ pl[kb]? = some (b, .inr (2, [.ref sa])) ∧ pl[ks]? = some (sa, .inl (cI, C, .inl f)) ∧ v = f k) : Met l yX0_signIn wsX0_signIn ({ frames := 1, cells := 0, slots := 0, locals := 21 }) (ro [.ref a, .int (nI i), .int (nI k)] D cI cP cR cJ (pl)) (vp_Si (fun r => r = v)) 0 0 (fun _ => False) := by
  refine Met.ofW (cc := cX0_signIn) (maxL := 3) (ret := (some .int)) (by decide) rfl ?_
  intro p e s m args below meth c s₁ B hml hv
  obtain ⟨rfl, hP, hK⟩ := hv
  have hx := B.exec
  have hb := B.bytes
  have hr := B.returns
  have hts := atoms_spec (ws := wsX0_signIn) B.pre
  have hown : s.vm.findClass RX0 = some m.cls := findClass_of_methodNamed B.named
  have hlocks := B.notSynchronized
  have hinX0 : ∀ w ∈ wsX00, w ∈ wsX0_signIn := by decide +kernel
  have hinX1 : ∀ w ∈ wsX10, w ∈ wsX0_signIn := by decide +kernel
  have hl := lv_entry ([.ref a, .int (nI i), .int (nI k)]) (n := 3) (Nat.le_of_ble_eq_true rfl)
  rw [lg_entry_eq]
  generalize (lg_sl ([.ref a, .int (nI i), .int (nI k)]) ++ List.replicate (3 - (lg_sl ([.ref a, .int (nI i), .int (nI k)])).length) Slot.unset).toArray = ls at hl ⊢
  have hl : lv_has ls 3 [(0, .ref a), (1, .int (nI i)), (2, .int (nI k))] := hl
  refine lv_iload_n hx hb dX0_signIn_0 rfl (lv_at hl 1 rfl) ?_
  refine lv_if_lt (tgt := 22) hx hb dX0_signIn_1 (by decide) (fun c_1 => absurd c_1 (nI_pos (by omega))) (fun c_1 => ?_)
  refine lv_iload_n hx hb dX0_signIn_4 rfl (lv_at hl 1 rfl) ?_
  refine lv_aload_n hx hb dX0_signIn_5 rfl (lv_at hl 0 rfl) ?_
  refine va_get (D := D) (ci := 1) (v := .ref ra) (C := RX0) (T := TX0) (N := 2) hx hb hts hinX0 hown hK.1 hP ka hka rfl 0 (by decide) (hts (.fieldLink RX0 17 "PrinterRows$Page" "rows" "[LPrinterRows$Row;") (by decide +kernel)) (fun _ h9 => h9) rfl dX0_signIn_6 ?_
  refine va_alen (v := (nI L)) hx hb hK.1 hP kr 2 hkr rfl rfl dX0_signIn_9 ?_
  refine lv_icmp_ge (tgt := 22) hx hb dX0_signIn_10 (by decide) (fun c_10 => absurd c_10 (nI_ge hi (by omega))) (fun c_10 => ?_)
  refine lv_aload_n hx hb dX0_signIn_13 rfl (lv_at hl 0 rfl) ?_
  refine va_get (D := D) (ci := 1) (v := .ref ra) (C := RX0) (T := TX0) (N := 2) hx hb hts hinX0 hown hK.1 hP ka hka rfl 0 (by decide) (hts (.fieldLink RX0 17 "PrinterRows$Page" "rows" "[LPrinterRows$Row;") (by decide +kernel)) (fun _ h9 => h9) rfl dX0_signIn_14 ?_
  refine lv_iload_n hx hb dX0_signIn_17 rfl (lv_at hl 1 rfl) ?_
  refine va_aldq hx hb hK.1 hP kr 2 hkr rfl (vp_in_nI hi (by omega)) dX0_signIn_18 ?_
  rcases hrow with ⟨hg, hv⟩ | ⟨b, sa, f, kb, ks, hg, hkb, hks, hv⟩
  ·
    refine W.eq (g2 := F0 m 19 ls [.null]) (by rw [nI_clamp (by omega), hg]; rfl) ?_
    refine lv_ifnonnullN hx hb dX0_signIn_19 ?_
    refine lv_bipush (v := 32) hx hb dX0_signIn_22 (by decide +kernel) ?_
    exact W.iret (v := 32) hx hb hr (fun t ht hW => ⟨_, rfl, hv.symm, ht⟩) (fun q h => by cases h) dX0_signIn_24
  ·
    refine W.eq (g2 := F0 m 19 ls [.ref b]) (by rw [nI_clamp (by omega), hg]; rfl) ?_
    refine lv_ifnonnull (tgt := 25) hx hb dX0_signIn_19 (by decide) ?_
    refine lv_aload_n hx hb dX0_signIn_25 rfl (lv_at hl 0 rfl) ?_
    refine va_get (D := D) (ci := 1) (v := .ref ra) (C := RX0) (T := TX0) (N := 2) hx hb hts hinX0 hown hK.1 hP ka hka rfl 0 (by decide) (hts (.fieldLink RX0 17 "PrinterRows$Page" "rows" "[LPrinterRows$Row;") (by decide +kernel)) (fun _ h9 => h9) rfl dX0_signIn_26 ?_
    refine lv_iload_n hx hb dX0_signIn_29 rfl (lv_at hl 1 rfl) ?_
    refine va_aldq hx hb hK.1 hP kr 2 hkr rfl (vp_in_nI hi (by omega)) dX0_signIn_30 ?_
    refine W.eq (g2 := F0 m 31 ls [.ref b]) (by rw [nI_clamp (by omega), hg]; rfl) ?_
    refine lv_iload_n hx hb dX0_signIn_31 rfl (lv_at hl 2 rfl) ?_
    refine vp_callSi (W.runV (As := [.int (nI k)]) (rest := []) ⟨hx, hb, hml, hown, hts⟩ (c_X1_signOf l kb ks hkb hks hC k hk) (cwV 1 hts gX0_signIn_X1_signOf rfl rfl rfl (by decide +kernel) ⟨(Nat.le_of_ble_eq_true rfl), (Nat.le_of_ble_eq_true rfl)⟩) (ro_pre hK hP rfl kb hkb) rfl rfl hl.1 rfl (lv_room (Nat.le_of_ble_eq_true rfl)) dX0_signIn_32 ⟨(Nat.le_of_ble_eq_true rfl), (Nat.le_of_ble_eq_true rfl)⟩) (fun r_32 w_32 => ?_)
    subst w_32
    exact W.iret (v := (f k)) hx hb hr (fun t ht hW => ⟨_, rfl, hv.symm, ht⟩) (fun q h => by cases h) dX0_signIn_35

set_option maxHeartbeats 1000000 in
set_option maxRecDepth 100000 in
theorem c_X0_join_old (l : Launch) {D : va_G} {cI cP cR cJ : ClassId} {a ra L C : Nat} {g : Nat → Option Nat} {pl : va_W} {b sa : Nat} {f : Nat → Int32} {sz : Nat} (ka kr : Nat) (hka : pl[ka]? = some (a, .inr (1, [.ref ra, .int (nI C)]))) (hkr : pl[kr]? = some (ra, .inl (cR, L, .inr (.inr (.inr (.inr g)))))) (hL : L ≤ 66) (hC : C ≤ 132) (i k : Nat) (hi : i < L) (hk : k < C) (v0 : Int32) (hg : g i = some b) (kb ks : Nat) (hkb : pl[kb]? = some (b, .inr (2, [.ref sa]))) (hks : pl[ks]? = some (sa, .inl (cI, C, .inl f))) : Met l yX0_join wsX0_join ({ frames := 3, cells := 0, slots := 0, locals := 56 }) (mu [.ref a, .int (nI i), .int (nI k), .int v0] D cI cP cR cJ (pl) sz) (qv D (fun (_ : Unit) => True) (fun _ : Unit => pl.set ks (sa, .inl (cI, C, .inl (upd f k (mx (f k) v0))))) (va_A (pl) sz)) 0 0 (va_A (pl) sz) := by
  refine Met.ofW (cc := cX0_join) (maxL := 4) (ret := none) (by decide) rfl ?_
  intro p e s m args below meth c s₁ B hml hv
  obtain ⟨rfl, hsz, hP, hK, hD0⟩ := hv
  have hx := B.exec
  have hb := B.bytes
  have hr := B.returns
  have hts := atoms_spec (ws := wsX0_join) B.pre
  have hown : s.vm.findClass RX0 = some m.cls := findClass_of_methodNamed B.named
  have hlocks := B.notSynchronized
  have hinX0 : ∀ w ∈ wsX00, w ∈ wsX0_join := by decide +kernel
  have hinX1 : ∀ w ∈ wsX10, w ∈ wsX0_join := by decide +kernel
  subst hsz
  have hD := hD0.self (sz := s.heap.size)
  generalize hAe : va_A (pl) s.heap.size = A at hD ⊢
  have hA : ∀ q : Nat, s.heap.size ≤ q → A q := fun q h => by rw [← hAe]; exact Or.inr h
  have hS : va_S A s.heap s.heap [] := va_S.rf
  have hP : va_P D vwCl (pl) s.heap := hP
  have hl := lv_entry ([.ref a, .int (nI i), .int (nI k), .int v0]) (n := 4) (Nat.le_of_ble_eq_true rfl)
  rw [lg_entry_eq]
  generalize (lg_sl ([.ref a, .int (nI i), .int (nI k), .int v0]) ++ List.replicate (4 - (lg_sl ([.ref a, .int (nI i), .int (nI k), .int v0])).length) Slot.unset).toArray = ls at hl ⊢
  have hl : lv_has ls 4 [(0, .ref a), (1, .int (nI i)), (2, .int (nI k)), (3, .int v0)] := hl
  refine lv_iload_n hx hb dX0_join_0 rfl (lv_at hl 1 rfl) ?_
  refine lv_if_lt (tgt := 13) hx hb dX0_join_1 (by decide) (fun c_1 => absurd c_1 (nI_pos (by omega))) (fun c_1 => ?_)
  refine lv_iload_n hx hb dX0_join_4 rfl (lv_at hl 1 rfl) ?_
  refine lv_aload_n hx hb dX0_join_5 rfl (lv_at hl 0 rfl) ?_
  refine va_get (D := D) (ci := 1) (v := .ref ra) (C := RX0) (T := TX0) (N := 2) hx hb hts hinX0 hown hK.1 hP ka hka rfl 0 (by decide) (hts (.fieldLink RX0 17 "PrinterRows$Page" "rows" "[LPrinterRows$Row;") (by decide +kernel)) (fun _ h9 => h9) rfl dX0_join_6 ?_
  refine va_alen (v := (nI L)) hx hb hK.1 hP kr 2 hkr rfl rfl dX0_join_9 ?_
  refine lv_icmp_lt (tgt := 14) hx hb dX0_join_10 (by decide) (fun c_10 => ?_) (fun c_10 => absurd (nI_lt hi (by omega)) c_10)
  refine lv_aload_n hx hb dX0_join_14 rfl (lv_at hl 0 rfl) ?_
  refine va_get (D := D) (ci := 1) (v := .ref ra) (C := RX0) (T := TX0) (N := 2) hx hb hts hinX0 hown hK.1 hP ka hka rfl 0 (by decide) (hts (.fieldLink RX0 17 "PrinterRows$Page" "rows" "[LPrinterRows$Row;") (by decide +kernel)) (fun _ h9 => h9) rfl dX0_join_15 ?_
  refine lv_iload_n hx hb dX0_join_18 rfl (lv_at hl 1 rfl) ?_
  refine va_aldq hx hb hK.1 hP kr 2 hkr rfl (vp_in_nI hi (by omega)) dX0_join_19 ?_
  refine W.eq (g2 := F0 m 20 ls [.ref b]) (by rw [nI_clamp (by omega), hg]; rfl) ?_
  refine lv_ifnonnull (tgt := 40) hx hb dX0_join_20 (by decide) ?_
  refine lv_aload_n hx hb dX0_join_40 rfl (lv_at hl 0 rfl) ?_
  refine va_get (D := D) (ci := 1) (v := .ref ra) (C := RX0) (T := TX0) (N := 2) hx hb hts hinX0 hown hK.1 hP ka hka rfl 0 (by decide) (hts (.fieldLink RX0 17 "PrinterRows$Page" "rows" "[LPrinterRows$Row;") (by decide +kernel)) (fun _ h9 => h9) rfl dX0_join_41 ?_
  refine lv_iload_n hx hb dX0_join_44 rfl (lv_at hl 1 rfl) ?_
  refine va_aldq hx hb hK.1 hP kr 2 hkr rfl (vp_in_nI hi (by omega)) dX0_join_45 ?_
  refine W.eq (g2 := F0 m 46 ls [.ref b]) (by rw [nI_clamp (by omega), hg]; rfl) ?_
  refine lv_iload_n hx hb dX0_join_46 rfl (lv_at hl 2 rfl) ?_
  refine lv_iload_n hx hb dX0_join_47 rfl (lv_at hl 3 rfl) ?_
  refine callQv (va_runV (As := [.int (nI k), .int v0]) (rest := []) ⟨hx, hb, hml, hown, hts⟩ (c_X1_joinSign l kb ks hkb hks hC k hk v0) (cwV 2 hts gX0_join_X1_joinSign rfl rfl rfl (by decide +kernel) ⟨(Nat.le_of_ble_eq_true rfl), (Nat.le_of_ble_eq_true rfl)⟩) (mu_pre hK hP hD rfl kb hkb) rfl rfl hl.1 rfl (lv_room (Nat.le_of_ble_eq_true rfl)) dX0_join_48 ⟨(Nat.le_of_ble_eq_true rfl), (Nat.le_of_ble_eq_true rfl)⟩) hD hS hA (fun u_48 H locs w_48 hP hD hS => ?_)
  have hP : va_P D vwCl (pl.set ks (sa, .inl (cI, C, .inl (upd f k (mx (f k) v0))))) H := hP
  have hD : va_D A (pl.set ks (sa, .inl (cI, C, .inl (upd f k (mx (f k) v0))))) := hD
  exact W.vret hx hb hr (fun t ht hW => ⟨⟨(), rfl, trivial, by rw [ht]; exact hP, hD⟩, hS.F ht⟩) hS.2.2 dX0_join_51

set_option maxHeartbeats 1000000 in
set_option maxRecDepth 100000 in
theorem c_X0_join_new (l : Launch) {D : va_G} {cI cP cR cJ : ClassId} {a ra L C : Nat} {g : Nat → Option Nat} {pl : va_W} {sz : Nat} (ka kr : Nat) (hka : pl[ka]? = some (a, .inr (1, [.ref ra, .int (nI C)]))) (hkr : pl[kr]? = some (ra, .inl (cR, L, .inr (.inr (.inr (.inr g)))))) (hL : L ≤ 66) (hC : C ≤ 132) (i k : Nat) (hi : i < L) (hk : k < C) (v0 : Int32) (hg : g i = none) : Met l yX0_join wsX0_join ({ frames := 3, cells := 2, slots := 133, locals := 56 }) (mu [.ref a, .int (nI i), .int (nI k), .int v0] D cI cP cR cJ (pl) sz) (qv D (fun (u : Nat × Nat × (Nat → Int32)) => ∀ j, j < C → u.2.2 j = if j = k then mx 32 v0 else 32) (fun u : Nat × Nat × (Nat → Int32) => pl.set kr (ra, .inl (cR, L, .inr (.inr (.inr (.inr (va_up g i (some u.1))))))) ++ [(u.1, .inr (2, [.ref u.2.1])), (u.2.1, .inl (cI, C, .inl u.2.2))]) (va_A (pl) sz)) 2 133 (va_A (pl) sz) := by
  refine Met.ofW (cc := cX0_join) (maxL := 4) (ret := none) (by decide) rfl ?_
  intro p e s m args below meth c s₁ B hml hv
  obtain ⟨rfl, hsz, hP, hK, hD0⟩ := hv
  have hx := B.exec
  have hb := B.bytes
  have hr := B.returns
  have hts := atoms_spec (ws := wsX0_join) B.pre
  have hown : s.vm.findClass RX0 = some m.cls := findClass_of_methodNamed B.named
  have hlocks := B.notSynchronized
  have hinX0 : ∀ w ∈ wsX00, w ∈ wsX0_join := by decide +kernel
  have hinX1 : ∀ w ∈ wsX10, w ∈ wsX0_join := by decide +kernel
  subst hsz
  have hD := hD0.self (sz := s.heap.size)
  generalize hAe : va_A (pl) s.heap.size = A at hD ⊢
  have hA : ∀ q : Nat, s.heap.size ≤ q → A q := fun q h => by rw [← hAe]; exact Or.inr h
  have hS : va_S A s.heap s.heap [] := va_S.rf
  have hP : va_P D vwCl (pl) s.heap := hP
  have hl := lv_entry ([.ref a, .int (nI i), .int (nI k), .int v0]) (n := 4) (Nat.le_of_ble_eq_true rfl)
  rw [lg_entry_eq]
  generalize (lg_sl ([.ref a, .int (nI i), .int (nI k), .int v0]) ++ List.replicate (4 - (lg_sl ([.ref a, .int (nI i), .int (nI k), .int v0])).length) Slot.unset).toArray = ls at hl ⊢
  have hl : lv_has ls 4 [(0, .ref a), (1, .int (nI i)), (2, .int (nI k)), (3, .int v0)] := hl
  refine lv_iload_n hx hb dX0_join_0 rfl (lv_at hl 1 rfl) ?_
  refine lv_if_lt (tgt := 13) hx hb dX0_join_1 (by decide) (fun c_1 => absurd c_1 (nI_pos (by omega))) (fun c_1 => ?_)
  refine lv_iload_n hx hb dX0_join_4 rfl (lv_at hl 1 rfl) ?_
  refine lv_aload_n hx hb dX0_join_5 rfl (lv_at hl 0 rfl) ?_
  refine va_get (D := D) (ci := 1) (v := .ref ra) (C := RX0) (T := TX0) (N := 2) hx hb hts hinX0 hown hK.1 hP ka hka rfl 0 (by decide) (hts (.fieldLink RX0 17 "PrinterRows$Page" "rows" "[LPrinterRows$Row;") (by decide +kernel)) (fun _ h9 => h9) rfl dX0_join_6 ?_
  refine va_alen (v := (nI L)) hx hb hK.1 hP kr 2 hkr rfl rfl dX0_join_9 ?_
  refine lv_icmp_lt (tgt := 14) hx hb dX0_join_10 (by decide) (fun c_10 => ?_) (fun c_10 => absurd (nI_lt hi (by omega)) c_10)
  refine lv_aload_n hx hb dX0_join_14 rfl (lv_at hl 0 rfl) ?_
  refine va_get (D := D) (ci := 1) (v := .ref ra) (C := RX0) (T := TX0) (N := 2) hx hb hts hinX0 hown hK.1 hP ka hka rfl 0 (by decide) (hts (.fieldLink RX0 17 "PrinterRows$Page" "rows" "[LPrinterRows$Row;") (by decide +kernel)) (fun _ h9 => h9) rfl dX0_join_15 ?_
  refine lv_iload_n hx hb dX0_join_18 rfl (lv_at hl 1 rfl) ?_
  refine va_aldq hx hb hK.1 hP kr 2 hkr rfl (vp_in_nI hi (by omega)) dX0_join_19 ?_
  refine W.eq (g2 := F0 m 20 ls [.null]) (by rw [nI_clamp (by omega), hg]; rfl) ?_
  refine lv_ifnonnullN hx hb dX0_join_20 ?_
  refine lv_aload_n hx hb dX0_join_23 rfl (lv_at hl 0 rfl) ?_
  refine va_get (D := D) (ci := 1) (v := .ref ra) (C := RX0) (T := TX0) (N := 2) hx hb hts hinX0 hown hK.1 hP ka hka rfl 0 (by decide) (hts (.fieldLink RX0 17 "PrinterRows$Page" "rows" "[LPrinterRows$Row;") (by decide +kernel)) (fun _ h9 => h9) rfl dX0_join_24 ?_
  refine lv_iload_n hx hb dX0_join_27 rfl (lv_at hl 1 rfl) ?_
  refine va_new (ci := 2) (fs := [.null]) (C := RX1) (T := TX1) (N := 1) hx hb hts hinX1 tyX1 tyX1_ok hown (hts (.classLink RX0 15 RX1) (by decide +kernel)) (hts (.instantiable RX1 1) (by decide +kernel)) (hts (.initialized RX1) (by decide +kernel)) hK.1 hP hD hS hA rfl (fun j hj => by rcases (show j = 0 by omega) with rfl; rfl) (by show 0 + 1 ≤ 2; omega) (by show 0 + 1 ≤ 133; omega) dX0_join_28 (fun b H hP hD hS => ?_)
  have hP : va_P D vwCl (pl ++ [(b, .inr (2, [.null]))]) H := hP
  have hD : va_D A (pl ++ [(b, .inr (2, [.null]))]) := hD
  refine lv_dup hx hb dX0_join_31 rfl ?_
  refine lv_aload_n hx hb dX0_join_32 rfl (lv_at hl 0 rfl) ?_
  refine va_get (D := D) (ci := 1) (v := .int (nI C)) (C := RX0) (T := TX0) (N := 2) hx hb hts hinX0 hown hK.1 hP ka (apL hka) rfl 1 (by decide) (hts (.fieldLink RX0 23 "PrinterRows$Page" "columns" "I") (by decide +kernel)) (fun _ h9 => h9) rfl dX0_join_33 ?_
  refine callSv (wr := pl) (wc := [(b, .inr (2, [.null]))]) (va_runI (As := [.int (nI C)]) (rest := [.ref b, .int (nI i), .ref ra]) ⟨hx, hb, hml, hown, hts⟩ (c_X1_init l hC) (cwI 1 hts gX0_join_X1_init rfl rfl rfl (hts (.initialized RX1) (by decide +kernel)) (hts (.methodLink RX0 27 yX1_init) (by decide +kernel)) (hts (.instanceMethod yX1_init) (by decide +kernel)) rfl (by decide +kernel) ⟨(Nat.le_of_ble_eq_true rfl), (Nat.le_of_ble_eq_true rfl)⟩) (mu_preS hK (sufP hP) (sufD hD)) rfl rfl hl.1 rfl (lv_room (Nat.le_of_ble_eq_true rfl)) dX0_join_36 ⟨(Nat.le_of_ble_eq_true rfl), (Nat.le_of_ble_eq_true rfl)⟩) hP hD hS hA (fun u_36 H locs w_36 hP hD hS => ?_)
  obtain ⟨sa, f⟩ := u_36
  have w_36 : ∀ j, j < C → f j = 32 := w_36
  have hP : va_P D vwCl (pl ++ [(b, .inr (2, [.ref sa])), (sa, .inl (cI, C, .inl f))]) H := hP
  have hD : va_D A (pl ++ [(b, .inr (2, [.ref sa])), (sa, .inl (cI, C, .inl f))]) := hD
  refine va_astq hx hb hK.1 hP hD hS kr 2 (pl.length + 0) 2 (apL hkr) rfl (apR 0 rfl) rfl (vp_in_nI hi (by omega)) dX0_join_39 (fun H locs hP hD hS => ?_)
  rw [nI_clamp (by omega), setL hkr] at hP hD
  have hP : va_P D vwCl ((pl.set kr (ra, .inl (cR, L, .inr (.inr (.inr (.inr (va_up g i (some b)))))))) ++ [(b, .inr (2, [.ref sa])), (sa, .inl (cI, C, .inl f))]) H := hP
  have hD : va_D A ((pl.set kr (ra, .inl (cR, L, .inr (.inr (.inr (.inr (va_up g i (some b)))))))) ++ [(b, .inr (2, [.ref sa])), (sa, .inl (cI, C, .inl f))]) := hD
  refine lv_aload_n hx hb dX0_join_40 rfl (lv_at hl 0 rfl) ?_
  refine va_get (D := D) (ci := 1) (v := .ref ra) (C := RX0) (T := TX0) (N := 2) hx hb hts hinX0 hown hK.1 hP ka (apL (setNe hka hkr (fun h9 => by cases h9))) rfl 0 (by decide) (hts (.fieldLink RX0 17 "PrinterRows$Page" "rows" "[LPrinterRows$Row;") (by decide +kernel)) (fun _ h9 => h9) rfl dX0_join_41 ?_
  refine lv_iload_n hx hb dX0_join_44 rfl (lv_at hl 1 rfl) ?_
  refine va_aldq hx hb hK.1 hP kr 2 (apL (setSelf hkr)) rfl (vp_in_nI hi (by omega)) dX0_join_45 ?_
  refine W.eq (g2 := F0 m 46 ls [.ref b]) (by rw [nI_clamp (by omega), va_up_self]; rfl) ?_
  refine lv_iload_n hx hb dX0_join_46 rfl (lv_at hl 2 rfl) ?_
  refine lv_iload_n hx hb dX0_join_47 rfl (lv_at hl 3 rfl) ?_
  refine callQv (va_runV (As := [.int (nI k), .int v0]) (rest := []) ⟨hx, hb, hml, hown, hts⟩ (c_X1_joinSign l ((pl.set kr (ra, .inl (cR, L, .inr (.inr (.inr (.inr (va_up g i (some b)))))))).length + 0) ((pl.set kr (ra, .inl (cR, L, .inr (.inr (.inr (.inr (va_up g i (some b)))))))).length + 1) (apR 0 rfl) (apR 1 rfl) hC k hk v0) (cwV 2 hts gX0_join_X1_joinSign rfl rfl rfl (by decide +kernel) ⟨(Nat.le_of_ble_eq_true rfl), (Nat.le_of_ble_eq_true rfl)⟩) (mu_pre hK hP hD rfl ((pl.set kr (ra, .inl (cR, L, .inr (.inr (.inr (.inr (va_up g i (some b)))))))).length + 0) (apR 0 rfl)) rfl rfl hl.1 rfl (lv_room (Nat.le_of_ble_eq_true rfl)) dX0_join_48 ⟨(Nat.le_of_ble_eq_true rfl), (Nat.le_of_ble_eq_true rfl)⟩) hD hS hA (fun u_48 H locs w_48 hP hD hS => ?_)
  have hP : va_P D vwCl (((pl.set kr (ra, .inl (cR, L, .inr (.inr (.inr (.inr (va_up g i (some b)))))))) ++ [(b, .inr (2, [.ref sa])), (sa, .inl (cI, C, .inl f))] : va_W).set ((pl.set kr (ra, .inl (cR, L, .inr (.inr (.inr (.inr (va_up g i (some b)))))))).length + 1) (sa, .inl (cI, C, .inl (upd f k (mx (f k) v0))))) H := hP
  have hD : va_D A (((pl.set kr (ra, .inl (cR, L, .inr (.inr (.inr (.inr (va_up g i (some b)))))))) ++ [(b, .inr (2, [.ref sa])), (sa, .inl (cI, C, .inl f))] : va_W).set ((pl.set kr (ra, .inl (cR, L, .inr (.inr (.inr (.inr (va_up g i (some b)))))))).length + 1) (sa, .inl (cI, C, .inl (upd f k (mx (f k) v0))))) := hD
  rw [setR 1] at hP hD
  have hP : va_P D vwCl ((pl.set kr (ra, .inl (cR, L, .inr (.inr (.inr (.inr (va_up g i (some b)))))))) ++ [(b, .inr (2, [.ref sa])), (sa, .inl (cI, C, .inl (upd f k (mx (f k) v0))))]) H := hP
  have hD : va_D A ((pl.set kr (ra, .inl (cR, L, .inr (.inr (.inr (.inr (va_up g i (some b)))))))) ++ [(b, .inr (2, [.ref sa])), (sa, .inl (cI, C, .inl (upd f k (mx (f k) v0))))]) := hD
  refine W.widen (k := 2) (n := 133) (by omega) (by omega) ?_
  exact W.vret hx hb hr (fun t ht hW => ⟨⟨(b, sa, upd f k (mx (f k) v0)), rfl, fun j hj => by dsimp only; rw [upd, w_36 k hk]; by_cases e9 : j = k; (rw [if_pos e9, if_pos e9]); (rw [if_neg e9, if_neg e9]; exact w_36 j hj), by rw [ht]; exact hP, hD⟩, hS.F ht⟩) hS.2.2 dX0_join_51
end
section
/-! the pages as a picture: M page line column; whose cell is whose -/
def uq (pl : va_W) : Prop := ∀ (i j : Nat) (x y : Nat × va_E), pl[i]? = some x → pl[j]? = some y → x.1 = y.1 → i = j
theorem uqX {A : Nat → Prop} {cI cP : ClassId} {x aC aT aR aP : Nat} {L C rl bg on st mk rp sp sc sk fa : Int32} {ch tr rc : Nat → Int32} {pg : Nat → Option Nat} {pl : va_W} (h : va_D A (wX cI cP x aC aT aR aP L C rl bg on st mk rp sp sc sk fa ch tr rc pg pl)) : uq pl := fun i j p q hi hj e => by
  have := h.1 (i + 5) (j + 5) p q hi hj e
  omega
theorem uq.same {pl : va_W} (h : uq pl) {i j a : Nat} {e e' : va_E} (hi : pl[i]? = some (a, e)) (hj : pl[j]? = some (a, e')) : e = e' := by
  have := h i j _ _ hi hj rfl
  subst this
  exact (Prod.mk.inj (Option.some.inj (hi.symm.trans hj))).2
abbrev eRow (sa : Nat) : va_E := .inr (2, [.ref sa])
abbrev eSg (cI : ClassId) (C : Nat) (f : Nat → Int32) : va_E := .inl (cI, C, .inl f)
abbrev ePg (C ra : Nat) : va_E := .inr (1, [.ref ra, .int (nI C)])
abbrev eRs (cR : ClassId) (L : Nat) (g : Nat → Option Nat) : va_E := .inl (cR, L, .inr (.inr (.inr (.inr g))))
def rowOK (cI : ClassId) (pl : va_W) (own : Nat → Nat × Nat) (C b : Nat) (r : Nat → Int32) : Prop := ∃ (sa : Nat) (f : Nat → Int32) (kb ks : Nat), pl[kb]? = some (b, eRow sa) ∧ pl[ks]? = some (sa, eSg cI C f) ∧ own sa = (b, 0) ∧ ∀ c, c < C → f c = r c
def lineOK (cI : ClassId) (pl : va_W) (own : Nat → Nat × Nat) (C ra : Nat) (g : Nat → Option Nat) (i : Nat) (r : Nat → Int32) : Prop := (g i = none ∧ ∀ c, c < C → r c = 32) ∨ ∃ b, g i = some b ∧ own b = (ra, i) ∧ rowOK cI pl own C b r
def pageOK (cI cR : ClassId) (pl : va_W) (own : Nat → Nat × Nat) (L C a : Nat) (m : Nat → Nat → Int32) : Prop := ∃ (ra : Nat) (g : Nat → Option Nat) (ka kr : Nat), pl[ka]? = some (a, ePg C ra) ∧ pl[kr]? = some (ra, eRs cR L g) ∧ own ra = (a, 0) ∧ ∀ i, i < L → lineOK cI pl own C ra g i (m i)
def PI (cI cR : ClassId) (pl : va_W) (own : Nat → Nat × Nat) (L C bg : Nat) (pg : Nat → Option Nat) (M : Nat → Nat → Nat → Int32) : Prop := ∀ q, q < bg → ∃ a, pg q = some a ∧ pageOK cI cR pl own L C a (M q)
/-- the printer stands on a page that no other place holds -/
def CS (on : Bool) (bg : Nat) (pg : Nat → Option Nat) : Prop := on = true → 0 < bg ∧ ∀ q, q + 1 < bg → pg q ≠ pg (bg - 1)
section PIC
variable {cI cR : ClassId} {pl pl' : va_W} {own own' : Nat → Nat × Nat} {L C : Nat}
theorem rowOK.mono {P : Nat → Prop} (hk : ∀ (k : Nat) (e : Nat × va_E), pl[k]? = some e → P e.1 → ∃ k' : Nat, pl'[k']? = some e) (ho : ∀ (k : Nat) (e : Nat × va_E), pl[k]? = some e → own' e.1 = own e.1) {b : Nat} {r : Nat → Int32} (hb : P b) (hs : ∀ (sa k : Nat) (f : Nat → Int32), pl[k]? = some (sa, eSg cI C f) → own sa = (b, 0) → P sa) (h : rowOK cI pl own C b r) : rowOK cI pl' own' C b r := by
  obtain ⟨sa, f, kb, ks, h1, h2, h3, h4⟩ := h
  obtain ⟨kb', h1'⟩ := hk kb _ h1 hb
  obtain ⟨ks', h2'⟩ := hk ks _ h2 (hs sa ks f h2 h3)
  exact ⟨sa, f, kb', ks', h1', h2', (ho ks _ h2).trans h3, h4⟩
theorem lineOK.mono {P : Nat → Prop} (hk : ∀ (k : Nat) (e : Nat × va_E), pl[k]? = some e → P e.1 → ∃ k' : Nat, pl'[k']? = some e) (ho : ∀ (k : Nat) (e : Nat × va_E), pl[k]? = some e → own' e.1 = own e.1) {ra i : Nat} {g g' : Nat → Option Nat} {r : Nat → Int32} (hg : g' i = g i) (hb : ∀ (b k sa : Nat), pl[k]? = some (b, eRow sa) → own b = (ra, i) → P b) (hs : ∀ (b sa k : Nat) (f : Nat → Int32), own b = (ra, i) → pl[k]? = some (sa, eSg cI C f) → own sa = (b, 0) → P sa) (h : lineOK cI pl own C ra g i r) : lineOK cI pl' own' C ra g' i r := by
  rcases h with ⟨h1, h2⟩ | ⟨b, h1, h2, h3⟩
  · exact Or.inl ⟨hg.trans h1, h2⟩
  · have h3' := h3
    obtain ⟨sa, f, kb, ks, g1, -⟩ := h3'
    exact Or.inr ⟨b, hg.trans h1, (ho kb _ g1).trans h2, h3.mono hk ho (hb b kb sa g1 h2) (fun sa k f q1 q2 => hs b sa k f h2 q1 q2)⟩
theorem pageOK.mono {P : Nat → Prop} (hk : ∀ (k : Nat) (e : Nat × va_E), pl[k]? = some e → P e.1 → ∃ k' : Nat, pl'[k']? = some e) (ho : ∀ (k : Nat) (e : Nat × va_E), pl[k]? = some e → own' e.1 = own e.1) {a : Nat} {m : Nat → Nat → Int32} (ha : P a) (hr : ∀ (ra k : Nat) (g : Nat → Option Nat), pl[k]? = some (ra, eRs cR L g) → own ra = (a, 0) → P ra) (hb : ∀ (ra i b k sa : Nat), own ra = (a, 0) → pl[k]? = some (b, eRow sa) → own b = (ra, i) → P b) (hs : ∀ (ra i b sa k : Nat) (f : Nat → Int32), own ra = (a, 0) → own b = (ra, i) → pl[k]? = some (sa, eSg cI C f) → own sa = (b, 0) → P sa) (h : pageOK cI cR pl own L C a m) : pageOK cI cR pl' own' L C a m := by
  obtain ⟨ra, g, ka, kr, h1, h2, h3, h4⟩ := h
  obtain ⟨ka', h1'⟩ := hk ka _ h1 ha
  obtain ⟨kr', h2'⟩ := hk kr _ h2 (hr ra kr g h2 h3)
  exact ⟨ra, g, ka', kr', h1', h2', (ho kr _ h2).trans h3, fun i hi => (h4 i hi).mono hk ho rfl (fun b k sa q1 q2 => hb ra i b k sa h3 q1 q2) (fun b sa k f q0 q1 q2 => hs ra i b sa k f h3 q0 q1 q2)⟩
theorem pageOK.congr {a : Nat} {m m' : Nat → Nat → Int32} (hm : ∀ i c, i < L → c < C → m' i c = m i c) (h : pageOK cI cR pl own L C a m) : pageOK cI cR pl own L C a m' := by
  obtain ⟨ra, g, ka, kr, h1, h2, h3, h4⟩ := h
  refine ⟨ra, g, ka, kr, h1, h2, h3, fun i hi => ?_⟩
  rcases h4 i hi with ⟨q1, q2⟩ | ⟨b, q1, q2, sa, f, kb, ks, q3, q4, q5, q6⟩
  · exact Or.inl ⟨q1, fun c hc => (hm i c hi hc).trans (q2 c hc)⟩
  · exact Or.inr ⟨b, q1, q2, sa, f, kb, ks, q3, q4, q5, fun c hc => (q6 c hc).trans (hm i c hi hc).symm⟩
theorem PI.congr {bg bg' : Nat} {pg pg' : Nat → Option Nat} {M M' : Nat → Nat → Nat → Int32} (hb : bg' ≤ bg) (hp : ∀ q, q < bg' → pg' q = pg q) (hm : ∀ q i c, q < bg' → i < L → c < C → M' q i c = M q i c) (h : PI cI cR pl own L C bg pg M) : PI cI cR pl own L C bg' pg' M' := fun q hq => by
  obtain ⟨a, h1, h2⟩ := h q (by omega)
  exact ⟨a, (hp q hq).trans h1, h2.congr (fun i c hi hc => hm q i c hq hi hc)⟩
/-- a copy of a page comes behind all -/
theorem PI.copy {bg q0 : Nat} {pg : Nat → Option Nat} {M : Nat → Nat → Nat → Int32} (h : PI cI cR pl own L C bg pg M) (hq : q0 < bg) : PI cI cR pl own L C (bg + 1) (va_up pg bg (pg q0)) (va_up M bg (M q0)) := fun q hq' => by
  by_cases e : q = bg
  · subst e
    rw [va_up_self, va_up_self]
    exact h q0 hq
  · rw [va_up_ne _ _ e, va_up_ne _ _ e]
    exact h q (by omega)
/-- pages from bg on are blank -/
def MB (bg : Nat) (M : Nat → Nat → Nat → Int32) : Nat → Nat → Nat → Int32 := fun q i c => if q < bg then M q i c else 32
theorem MB_MB {bg b2 : Nat} (h : bg ≤ b2) (M : Nat → Nat → Nat → Int32) : MB b2 (MB bg M) = MB bg M := by
  funext q i c
  unfold MB
  by_cases h1 : q < b2
  · rw [if_pos h1]
  · rw [if_neg h1, if_neg (by omega)]
theorem uq.pre {t : va_W} (h : uq (pl ++ t)) : uq pl := fun i j x y hi hj e => h i j x y (apL hi) (apL hj) e
theorem uq.fresh {t : va_W} (h : uq (pl ++ t)) {k j : Nat} {e x : Nat × va_E} (hk : pl[k]? = some e) (hj : t[j]? = some x) : e.1 ≠ x.1 := fun q => by
  have h1 := h k (pl.length + j) e x (apL hk) (apR j hj) q
  have h2 := (List.getElem?_eq_some_iff.mp hk).1
  omega
/-- a new blank page comes behind all -/
theorem PI.fresh {bg a ra : Nat} {pg : Nat → Option Nat} {M : Nat → Nat → Nat → Int32} (h : PI cI cR pl own L C bg pg M) (hu : uq (pl ++ [(a, ePg C ra), (ra, eRs cR L (fun _ => none))])) : PI cI cR (pl ++ [(a, ePg C ra), (ra, eRs cR L (fun _ => none))]) (va_up own ra (a, 0)) L C (bg + 1) (va_up pg bg (some a)) (MB bg M) ∧ ∀ q, q < bg → va_up pg bg (some a) q ≠ some a := by
  have ho : ∀ (k : Nat) (e : Nat × va_E), pl[k]? = some e → va_up own ra (a, 0) e.1 = own e.1 := fun k e hk => va_up_ne _ _ (hu.fresh hk (j := 1) rfl)
  refine ⟨fun q hq => ?_, fun q hq => ?_⟩
  · by_cases e : q = bg
    · subst e
      refine ⟨a, va_up_self _ _ _, ra, fun _ => none, pl.length + 0, pl.length + 1, apR 0 rfl, apR 1 rfl, va_up_self _ _ _, fun i hi => Or.inl ⟨rfl, fun c hc => ?_⟩⟩
      unfold MB
      rw [if_neg (by omega)]
    · obtain ⟨a1, h1, h2⟩ := h q (by omega)
      refine ⟨a1, (va_up_ne _ _ e).trans h1, pageOK.congr (m := M q) (fun i c _ _ => by unfold MB; rw [if_pos (by omega)]) (h2.mono (P := fun _ => True) (fun k e hk _ => ⟨k, apL hk⟩) ho trivial (fun _ _ _ _ _ => trivial) (fun _ _ _ _ _ _ _ _ => trivial) (fun _ _ _ _ _ _ _ _ _ _ => trivial))⟩
  · rw [va_up_ne _ _ (by omega)]
    obtain ⟨a1, h1, ra1, g1, ka1, kr1, h2, -⟩ := h q hq
    rw [h1]
    intro q9
    exact hu.fresh h2 (j := 0) rfl (Option.some.inj q9)
/-- a sign is joined on the page that no other place holds: its row is there -/
def MJ (M : Nat → Nat → Nat → Int32) (q0 i0 k0 : Nat) (v : Int32) : Nat → Nat → Nat → Int32 := fun q i c => if q = q0 ∧ i = i0 ∧ c = k0 then mx (M q i c) v else M q i c
theorem pageOK.joinOld {a ra i k b sa ka kr kb ks : Nat} {g : Nat → Option Nat} {f : Nat → Int32} {m : Nat → Nat → Int32} {v : Int32} (hu : uq pl) (h : pageOK cI cR pl own L C a m) (hka : pl[ka]? = some (a, ePg C ra)) (hkr : pl[kr]? = some (ra, eRs cR L g)) (hg : g i = some b) (hkb : pl[kb]? = some (b, eRow sa)) (hks : pl[ks]? = some (sa, eSg cI C f)) (hra : own ra = (a, 0)) (hbo : own b = (ra, i)) (hsa : own sa = (b, 0)) (hf : ∀ c, c < C → f c = m i c) (hi : i < L) (hk : k < C) :
    pageOK cI cR (pl.set ks (sa, eSg cI C (upd f k (mx (f k) v)))) own L C a (fun i' c => if i' = i ∧ c = k then mx (m i' c) v else m i' c) := by
  obtain ⟨ra', g', ka', kr', h1, h2, h3, h4⟩ := h
  have e1 := hu.same hka h1
  have e1 : ra = ra' := by simpa [ePg] using e1
  subst e1
  have e2 := hu.same hkr h2
  have e2 : g = g' := by simpa [eRs] using e2
  subst e2
  have keep : ∀ (k' : Nat) (e : Nat × va_E), pl[k']? = some e → e.1 ≠ sa → (pl.set ks (sa, eSg cI C (upd f k (mx (f k) v))))[k']? = some e := fun k' e hk' hne => setNe hk' hks (fun q => hne (by rw [q]))
  have nP : ∀ (z k' : Nat) (e : va_E), pl[k']? = some (z, e) → (∀ f', e ≠ eSg cI C f') → z ≠ sa := fun z k' e hz hne q => by
    subst q
    exact hne f (hu.same hz hks)
  refine ⟨ra, g, ka, kr, keep ka _ hka (nP a ka _ hka (fun f' q => by cases q)), keep kr _ hkr (nP ra kr _ hkr (fun f' q => by cases q)), hra, fun j hj => ?_⟩
  by_cases ej : j = i
  · subst ej
    refine Or.inr ⟨b, hg, hbo, sa, upd f k (mx (f k) v), kb, ks, keep kb _ hkb (nP b kb _ hkb (fun f' q => by cases q)), setSelf hks, hsa, fun c hc => ?_⟩
    by_cases ec : c = k
    · subst ec
      show upd f c (mx (f c) v) c = if j = j ∧ c = c then mx (m j c) v else m j c
      rw [if_pos ⟨rfl, rfl⟩, ← hf c hc]
      exact if_pos rfl
    · show upd f k (mx (f k) v) c = if j = j ∧ c = k then mx (m j c) v else m j c
      rw [if_neg (fun q => ec q.2), pk_un ec]
      exact hf c hc
  · have hl : lineOK cI (pl.set ks (sa, eSg cI C (upd f k (mx (f k) v)))) own C ra g j (m j) := (h4 j hj).mono (P := fun z => z ≠ sa) (fun k' e hk' hne => ⟨k', keep k' e hk' hne⟩) (fun _ _ _ => rfl) rfl (fun b' k' sa' q1 _ => nP b' k' _ q1 (fun f' q => by cases q)) (fun b' sa' k' f' q0 q1 q2 q => by
      subst q
      rw [hsa] at q2
      have : b = b' := (Prod.mk.inj q2).1
      subst this
      rw [hbo] at q0
      exact ej (Prod.mk.inj q0).2.symm)
    have e9 : (fun c => if j = i ∧ c = k then mx (m j c) v else m j c) = m j := funext fun c => if_neg (fun q => ej q.1)
    show lineOK cI _ own C ra g j (fun c => if j = i ∧ c = k then mx (m j c) v else m j c)
    rw [e9]
    exact hl
theorem PI.joinOld {bg q0 a ra i k b sa ka kr kb ks : Nat} {pg : Nat → Option Nat} {M : Nat → Nat → Nat → Int32} {g : Nat → Option Nat} {f : Nat → Int32} {v : Int32} (hu : uq pl) (h : PI cI cR pl own L C bg pg M) (hq : q0 < bg) (hpa : pg q0 = some a) (hsep : ∀ q, q < bg → q ≠ q0 → pg q ≠ some a) (hka : pl[ka]? = some (a, ePg C ra)) (hkr : pl[kr]? = some (ra, eRs cR L g)) (hg : g i = some b) (hkb : pl[kb]? = some (b, eRow sa)) (hks : pl[ks]? = some (sa, eSg cI C f)) (hra : own ra = (a, 0)) (hbo : own b = (ra, i)) (hsa : own sa = (b, 0)) (hf : ∀ c, c < C → f c = M q0 i c) (hi : i < L) (hk : k < C) :
    PI cI cR (pl.set ks (sa, eSg cI C (upd f k (mx (f k) v)))) own L C bg pg (MJ M q0 i k v) := by
  have keep : ∀ (k' : Nat) (e : Nat × va_E), pl[k']? = some e → e.1 ≠ sa → (pl.set ks (sa, eSg cI C (upd f k (mx (f k) v))))[k']? = some e := fun k' e hk' hne => setNe hk' hks (fun q => hne (by rw [q]))
  have nP : ∀ (z k' : Nat) (e : va_E), pl[k']? = some (z, e) → (∀ f', e ≠ eSg cI C f') → z ≠ sa := fun z k' e hz hne q => by
    subst q
    exact hne f (hu.same hz hks)
  intro q hqb
  obtain ⟨a1, h1, h2⟩ := h q hqb
  refine ⟨a1, h1, ?_⟩
  by_cases e : q = q0
  · subst e
    have : a1 = a := Option.some.inj (h1.symm.trans hpa)
    subst this
    refine pageOK.congr (fun i' c _ _ => ?_) (h2.joinOld (k := k) (v := v) hu hka hkr hg hkb hks hra hbo hsa hf hi hk)
    unfold MJ
    by_cases e2 : i' = i ∧ c = k
    · rw [if_pos ⟨rfl, e2⟩, if_pos e2]
    · rw [if_neg (fun z => e2 z.2), if_neg e2]
  · have hne : a1 ≠ a := fun z => hsep q hqb e (z ▸ h1)
    have hm : MJ M q0 i k v q = M q := by funext i' c; unfold MJ; rw [if_neg (fun z => e z.1)]
    rw [hm]
    have h2' := h2
    obtain ⟨ra1, g1, ka1, kr1, p1, p2, -⟩ := h2'
    refine h2.mono (P := fun z => z ≠ sa) (fun k' e hk' hn => ⟨k', keep k' e hk' hn⟩) (fun _ _ _ => rfl) (nP a1 ka1 _ p1 (fun f' q => by cases q)) (fun ra' k' g' q1 _ => nP ra' k' _ q1 (fun f' q => by cases q)) (fun ra' i' b' k' sa' _ q1 _ => nP b' k' _ q1 (fun f' q => by cases q)) (fun ra' i' b' sa' k' f' q0 q1 q2 q3 q => ?_)
    subst q
    rw [hsa] at q3
    have e3 : b = b' := (Prod.mk.inj q3).1
    subst e3
    rw [hbo] at q1
    have e4 : ra = ra' := (Prod.mk.inj q1).1
    subst e4
    rw [hra] at q0
    exact hne (Prod.mk.inj q0).1.symm
/-- .. its row is made -/
theorem PI.joinNew {bg q0 a ra i k b sa ka kr : Nat} {pg : Nat → Option Nat} {M : Nat → Nat → Nat → Int32} {g : Nat → Option Nat} {f : Nat → Int32} {v : Int32} (hu : uq pl) (hu2 : uq (pl.set kr (ra, eRs cR L (va_up g i (some b))) ++ [(b, eRow sa), (sa, eSg cI C f)])) (h : PI cI cR pl own L C bg pg M) (hq : q0 < bg) (hpa : pg q0 = some a) (hsep : ∀ q, q < bg → q ≠ q0 → pg q ≠ some a) (hka : pl[ka]? = some (a, ePg C ra)) (hkr : pl[kr]? = some (ra, eRs cR L g)) (hg : g i = none) (hra : own ra = (a, 0)) (hf : ∀ c, c < C → f c = if c = k then mx 32 v else 32) (hi : i < L) (hk : k < C) :
    PI cI cR (pl.set kr (ra, eRs cR L (va_up g i (some b))) ++ [(b, eRow sa), (sa, eSg cI C f)]) (va_up (va_up own b (ra, i)) sa (b, 0)) L C bg pg (MJ M q0 i k v) := by
  have keep : ∀ (k' : Nat) (e : Nat × va_E), pl[k']? = some e → e.1 ≠ ra → (pl.set kr (ra, eRs cR L (va_up g i (some b))) ++ [(b, eRow sa), (sa, eSg cI C f)])[k']? = some e := fun k' e hk' hne => apL (setNe hk' hkr (fun q => hne (by rw [q])))
  have same : ∀ (k' : Nat) (e : Nat × va_E), pl[k']? = some e → ∃ e' : va_E, (pl.set kr (ra, eRs cR L (va_up g i (some b))))[k']? = some (e.1, e') := fun k' e hk' => by
    by_cases q : k' = kr
    · subst q
      refine ⟨eRs cR L (va_up g i (some b)), ?_⟩
      rw [Option.some.inj (hk'.symm.trans hkr)]
      exact setSelf hkr
    · exact ⟨e.2, by rw [List.getElem?_set_ne (Ne.symm q)]; exact hk'⟩
  have ho : ∀ (k' : Nat) (e : Nat × va_E), pl[k']? = some e → va_up (va_up own b (ra, i)) sa (b, 0) e.1 = own e.1 := fun k' e hk' => by
    obtain ⟨e', he'⟩ := same k' e hk'
    rw [va_up_ne _ _ (hu2.fresh he' (j := 1) rfl), va_up_ne _ _ (hu2.fresh he' (j := 0) rfl)]
  have nP : ∀ (z k' : Nat) (e : va_E), pl[k']? = some (z, e) → (∀ g', e ≠ eRs cR L g') → z ≠ ra := fun z k' e hz hne q => by
    subst q
    exact hne g (hu.same hz hkr)
  have hbs : b ≠ sa := fun q => by
    have h9 := hu2 ((pl.set kr (ra, eRs cR L (va_up g i (some b)))).length + 0) ((pl.set kr (ra, eRs cR L (va_up g i (some b)))).length + 1) _ _ (apR 0 rfl) (apR 1 rfl) q
    omega
  intro q hqb
  obtain ⟨a1, h1, h2⟩ := h q hqb
  refine ⟨a1, h1, ?_⟩
  by_cases e : q = q0
  · subst e
    have : a1 = a := Option.some.inj (h1.symm.trans hpa)
    subst this
    obtain ⟨ra', g', ka', kr', p1, p2, p3, p4⟩ := h2
    have e1 := hu.same hka p1
    have e1 : ra = ra' := by simpa [ePg] using e1
    subst e1
    have e2 := hu.same hkr p2
    have e2 : g = g' := by simpa [eRs] using e2
    subst e2
    refine ⟨ra, va_up g i (some b), ka, kr, keep ka _ hka (nP a1 ka _ hka (fun g' q => by cases q)), apL (setSelf hkr), (ho kr _ hkr).trans hra, fun j hj => ?_⟩
    by_cases ej : j = i
    · subst ej
      refine Or.inr ⟨b, va_up_self _ _ _, by rw [va_up_ne _ _ hbs, va_up_self], sa, f, _, _, apR 0 rfl, apR 1 rfl, va_up_self _ _ _, fun c hc => ?_⟩
      rcases p4 j hj with ⟨-, q2⟩ | ⟨b', q1, -⟩
      · unfold MJ
        rw [hf c hc]
        by_cases ec : c = k
        · rw [if_pos ec, if_pos ⟨rfl, rfl, ec⟩, q2 c hc]
        · rw [if_neg ec, if_neg (fun z => ec z.2.2), q2 c hc]
      · rw [hg] at q1; cases q1
    · have hm : MJ M q i k v q j = M q j := by funext c; unfold MJ; rw [if_neg (fun z => ej z.2.1)]
      rw [hm]
      exact (p4 j hj).mono (P := fun z => z ≠ ra) (fun k' e hk' hn => ⟨k', keep k' e hk' hn⟩) ho (va_up_ne _ _ ej) (fun b' k' sa' q1 _ => nP b' k' _ q1 (fun g' q => by cases q)) (fun b' sa' k' f' _ q1 _ => nP sa' k' _ q1 (fun g' q => by cases q))
  · have hne : a1 ≠ a := fun z => hsep q hqb e (z ▸ h1)
    have hm : MJ M q0 i k v q = M q := by funext i' c; unfold MJ; rw [if_neg (fun z => e z.1)]
    rw [hm]
    have h2' := h2
    obtain ⟨ra1, g1, ka1, kr1, p1, p2, -⟩ := h2'
    refine h2.mono (P := fun z => z ≠ ra) (fun k' e hk' hn => ⟨k', keep k' e hk' hn⟩) ho (nP a1 ka1 _ p1 (fun g' q => by cases q)) (fun ra' k' g' q1 q2 q => ?_) (fun ra' i' b' k' sa' _ q1 _ => nP b' k' _ q1 (fun g' q => by cases q)) (fun ra' i' b' sa' k' f' _ _ q1 _ => nP sa' k' _ q1 (fun g' q => by cases q))
    subst q
    rw [hra] at q2
    exact hne (Prod.mk.inj q2).1.symm
end PIC
end
section
/-! moving, beginning pages, printing -/
def mv1 (L : Nat) (t : Nat × Nat × Bool) : Nat × Nat × Bool := if t.2.1 + 1 < L then (t.1, t.2.1 + 1, t.2.2) else ((if t.2.2 then t.1 else t.1 + 1), 0, false)
def mvn (L : Nat) : Nat → Nat × Nat × Bool → Nat × Nat × Bool
  | 0, t => t
  | n + 1, t => mv1 L (mvn L n t)
theorem mv1_le (L : Nat) (t : Nat × Nat × Bool) : t.1 ≤ (mv1 L t).1 := by
  unfold mv1
  by_cases h : t.2.1 + 1 < L
  · rw [if_pos h]; exact Nat.le_refl _
  · rw [if_neg h]; dsimp only; split <;> omega
theorem mvn_le {L i n : Nat} (h : i ≤ n) (t : Nat × Nat × Bool) : (mvn L i t).1 ≤ (mvn L n t).1 := by
  induction n with
  | zero => rw [Nat.le_zero.mp h]; exact Nat.le_refl _
  | succ n ih =>
    by_cases e : i = n + 1
    · rw [e]; exact Nat.le_refl _
    · exact Nat.le_trans (ih (by omega)) (mv1_le L _)
theorem mvn_st {L : Nat} (hL : 0 < L) (n : Nat) (t : Nat × Nat × Bool) (h : t.2.1 < L) : (mvn L n t).2.1 < L := by
  induction n with
  | zero => exact h
  | succ n ih =>
    show (mv1 L (mvn L n t)).2.1 < L
    unfold mv1
    by_cases q : (mvn L n t).2.1 + 1 < L
    · rw [if_pos q]; exact q
    · rw [if_neg q]; exact hL
def bgB (bg : Nat) (on : Bool) : Nat := if on then bg else bg + 1
def rowT (cR : ClassId) (pl : va_W) (L C a i : Nat) : Prop := ∃ (ra : Nat) (g : Nat → Option Nat) (ka kr b : Nat), pl[ka]? = some (a, ePg C ra) ∧ pl[kr]? = some (ra, eRs cR L g) ∧ g i = some b
def MT (M : Nat → Nat → Nat → Int32) (q0 i k : Nat) (v : Int32) : Nat → Nat → Nat → Int32 := if v = 32 then M else MJ M q0 i k v
def spN (sp v : Int32) : Int32 := if v = 32 then sp else sp + 1
/-- the record printed as far as column n -/
def MP (M : Nat → Nat → Nat → Int32) (q0 i0 : Nat) (tr rc : Nat → Int32) (n : Nat) : Nat → Nat → Nat → Int32 := fun q i c => if q = q0 ∧ i = i0 ∧ c < n then mx (M q i c) (tr (rc c).toNatClampNeg) else M q i c
def cS (tr rc : Nat → Int32) (C : Nat) : Nat → Int32
  | 0 => 0
  | k + 1 => cS tr rc C k + (if C ≤ k then 0 else if tr (rc k).toNatClampNeg = 32 then 0 else 1)
def cC (C : Nat) : Nat → Int32
  | 0 => 0
  | k + 1 => cC C k + (if C ≤ k then 1 else 0)
def MG (L C bg : Nat) (M : Nat → Nat → Nat → Int32) : Prop := ∀ q i c, q < bg → i < L → c < C → ¬ M q i c < 32
theorem MG.blank {L C bg b2 : Nat} {M : Nat → Nat → Nat → Int32} (h : MG L C bg M) : MG L C b2 (MB bg M) := fun q i c _ hi hc => by
  unfold MB
  by_cases e : q < bg
  · rw [if_pos e]; exact h q i c e hi hc
  · rw [if_neg e]; decide
theorem mx32 {m : Int32} (h : ¬ m < 32) : mx m 32 = m := if_neg h
theorem MP_step {L C b1 q0 i0 k : Nat} {M : Nat → Nat → Nat → Int32} {tr rc : Nat → Int32} (hM : MG L C b1 M) (q i c : Nat) (hq : q < b1) (hi : i < L) (hc : c < C) : MP M q0 i0 tr rc (k + 1) q i c = MT (MP M q0 i0 tr rc k) q0 i0 k (tr (rc k).toNatClampNeg) q i c := by
  unfold MT
  by_cases e : q = q0 ∧ i = i0 ∧ c = k
  · obtain ⟨e1, e2, e3⟩ := e
    subst e1; subst e2; subst e3
    have hl : MP M q i tr rc (c + 1) q i c = mx (M q i c) (tr (rc c).toNatClampNeg) := if_pos ⟨rfl, rfl, Nat.lt_succ_self c⟩
    have hr : MP M q i tr rc c q i c = M q i c := if_neg (fun z => Nat.lt_irrefl _ z.2.2)
    rw [hl]
    by_cases hv : tr (rc c).toNatClampNeg = 32
    · rw [if_pos hv, hr, hv, mx32 (hM q i c hq hi hc)]
    · rw [if_neg hv]
      unfold MJ
      rw [if_pos ⟨rfl, rfl, rfl⟩, hr]
  · have h1 : (if tr (rc k).toNatClampNeg = 32 then MP M q0 i0 tr rc k else MJ (MP M q0 i0 tr rc k) q0 i0 k (tr (rc k).toNatClampNeg)) q i c = MP M q0 i0 tr rc k q i c := by
      by_cases hv : tr (rc k).toNatClampNeg = 32
      · rw [if_pos hv]
      · rw [if_neg hv]; exact if_neg e
    rw [h1]
    unfold MP
    by_cases h2 : q = q0 ∧ i = i0 ∧ c < k
    · rw [if_pos h2, if_pos ⟨h2.1, h2.2.1, by omega⟩]
    · rw [if_neg h2, if_neg (fun z => by
        by_cases e3 : c = k
        · exact e ⟨z.1, z.2.1, e3⟩
        · exact h2 ⟨z.1, z.2.1, by omega⟩)]
theorem MP_cut {C q0 i0 k : Nat} {M : Nat → Nat → Nat → Int32} {tr rc : Nat → Int32} (hk : C ≤ k) (q i c : Nat) (hc : c < C) : MP M q0 i0 tr rc (k + 1) q i c = MP M q0 i0 tr rc k q i c := by
  unfold MP
  by_cases h2 : q = q0 ∧ i = i0 ∧ c < k
  · rw [if_pos h2, if_pos ⟨h2.1, h2.2.1, by omega⟩]
  · rw [if_neg h2, if_neg (fun z => h2 ⟨z.1, z.2.1, by omega⟩)]
theorem MP_0 {q0 i0 : Nat} {M : Nat → Nat → Nat → Int32} {tr rc : Nat → Int32} : MP M q0 i0 tr rc 0 = M := by
  funext q i c
  exact if_neg (fun z => Nat.not_lt_zero _ z.2.2)

set_option maxHeartbeats 1000000 in
set_option maxRecDepth 100000 in
theorem c_X2_beginPage (l : Launch) {D : va_G} {cI cP cR cJ : ClassId} {x aC aT aR aP L C rl bg st : Nat} {on : Bool} {mk rp sp sc sk fa : Int32} {ch tr rc : Nat → Int32} {pg : Nat → Option Nat} {pl : va_W} {own : Nat → Nat × Nat} {M : Nat → Nat → Nat → Int32} {sz : Nat} (hbg : on = false → bg < 40) (hL : L ≤ 66) (hPI : PI cI cR pl own L C bg pg M) (hCS : CS on bg pg) : Met l yX2_beginPage wsX2_beginPage ({ frames := 2, cells := 2, slots := 68, locals := 37 }) (mu [.ref x] D cI cP cR cJ (wX cI cP x aC aT aR aP (nI L) (nI C) (nI rl) (nI bg) (zb on) (nI st) mk rp sp sc sk fa ch tr rc pg pl) sz) (qv D (fun (u : va_W × (Nat → Option Nat) × Nat) => ∃ own' : Nat → Nat × Nat, u.2.2 = bgB bg on ∧ (∀ q, q < bg → u.2.1 q = pg q) ∧ PI cI cR u.1 own' L C u.2.2 u.2.1 (MB bg M) ∧ CS true u.2.2 u.2.1) (fun u : va_W × (Nat → Option Nat) × Nat => wX cI cP x aC aT aR aP (nI L) (nI C) (nI rl) (nI u.2.2) (zb true) (nI st) mk rp sp sc sk fa ch tr rc u.2.1 u.1) (va_A (wX cI cP x aC aT aR aP (nI L) (nI C) (nI rl) (nI bg) (zb on) (nI st) mk rp sp sc sk fa ch tr rc pg pl) sz)) 2 68 (va_A (wX cI cP x aC aT aR aP (nI L) (nI C) (nI rl) (nI bg) (zb on) (nI st) mk rp sp sc sk fa ch tr rc pg pl) sz) := by
  refine Met.ofW (cc := cX2_beginPage) (maxL := 1) (ret := none) (by decide) rfl ?_
  intro p e s m args below meth c s₁ B hml hv
  obtain ⟨rfl, hsz, hP, hK, hD0⟩ := hv
  have hx := B.exec
  have hb := B.bytes
  have hr := B.returns
  have hts := atoms_spec (ws := wsX2_beginPage) B.pre
  have hown : s.vm.findClass RX2 = some m.cls := findClass_of_methodNamed B.named
  have hlocks := B.notSynchronized
  have hinX0 : ∀ w ∈ wsX00, w ∈ wsX2_beginPage := by decide +kernel
  have hinX2 : ∀ w ∈ wsX20, w ∈ wsX2_beginPage := by decide +kernel
  subst hsz
  have hD := hD0.self (sz := s.heap.size)
  generalize hAe : va_A (wX cI cP x aC aT aR aP (nI L) (nI C) (nI rl) (nI bg) (zb on) (nI st) mk rp sp sc sk fa ch tr rc pg pl) s.heap.size = A at hD ⊢
  have hA : ∀ q : Nat, s.heap.size ≤ q → A q := fun q h => by rw [← hAe]; exact Or.inr h
  have hS : va_S A s.heap s.heap [] := va_S.rf
  have hP : va_P D vwCl (wX cI cP x aC aT aR aP (nI L) (nI C) (nI rl) (nI bg) (zb on) (nI st) mk rp sp sc sk fa ch tr rc pg pl) s.heap := hP
  have hl := lv_entry ([.ref x]) (n := 1) (Nat.le_of_ble_eq_true rfl)
  rw [lg_entry_eq]
  generalize (lg_sl ([.ref x]) ++ List.replicate (1 - (lg_sl ([.ref x])).length) Slot.unset).toArray = ls at hl ⊢
  have hl : lv_has ls 1 [(0, .ref x)] := hl
  refine lv_aload_n hx hb dX2_beginPage_0 rfl (lv_at hl 0 rfl) ?_
  refine va_get (D := D) (ci := 3) (v := .int (zb on)) (C := RX2) (T := TX2) (N := 16) hx hb hts hinX2 hown hK.1 hP 0 rfl rfl 8 (by decide) (hts (.fieldLink RX2 150 "PrinterRows" "onBegunPage" "Z") (by decide +kernel)) (fun _ h9 => h9) rfl dX2_beginPage_1 ?_
  refine lv_if_ne (tgt := 31) hx hb dX2_beginPage_4 (by decide) (fun c_4 => ?_) (fun c_4 => ?_)
  ·
    obtain rfl : on = true := zb1.mp c_4
    refine W.widen (k := 2) (n := 68) (by omega) (by omega) ?_
    exact W.vret hx hb hr (fun t ht hW => ⟨⟨(pl, pg, bg), rfl, ⟨own, rfl, fun _ _ => rfl, PI.congr (Nat.le_refl _) (fun _ _ => rfl) (fun q i c hq _ _ => by unfold MB; rw [if_pos hq]) hPI, hCS⟩, by rw [ht]; exact hP, hD⟩, hS.F ht⟩) hS.2.2 dX2_beginPage_31
  ·
    obtain rfl : on = false := zb0.mp c_4
    have hb40 := hbg rfl
    refine lv_aload_n hx hb dX2_beginPage_7 rfl (lv_at hl 0 rfl) ?_
    refine va_new (ci := 1) (fs := [.null, .int 0]) (C := RX0) (T := TX0) (N := 2) hx hb hts hinX0 tyX0 tyX0_ok hown (hts (.classLink RX2 36 RX0) (by decide +kernel)) (hts (.instantiable RX0 2) (by decide +kernel)) (hts (.initialized RX0) (by decide +kernel)) hK.1 hP hD hS hA rfl (fun j hj => by rcases (show j = 0 ∨ j = 1 by omega) with rfl | rfl <;> rfl) (by show 0 + 1 ≤ 2; omega) (by show 0 + 2 ≤ 68; omega) dX2_beginPage_8 (fun a H hP hD hS => ?_)
    have hP : va_P D vwCl (wX cI cP x aC aT aR aP (nI L) (nI C) (nI rl) (nI bg) (zb false) (nI st) mk rp sp sc sk fa ch tr rc pg (pl ++ [(a, .inr (1, [.null, .int 0]))])) H := hP
    have hD : va_D A (wX cI cP x aC aT aR aP (nI L) (nI C) (nI rl) (nI bg) (zb false) (nI st) mk rp sp sc sk fa ch tr rc pg (pl ++ [(a, .inr (1, [.null, .int 0]))])) := hD
    refine lv_dup hx hb dX2_beginPage_11 rfl ?_
    refine lv_aload_n hx hb dX2_beginPage_12 rfl (lv_at hl 0 rfl) ?_
    refine va_get (D := D) (ci := 3) (v := .int (nI L)) (C := RX2) (T := TX2) (N := 16) hx hb hts hinX2 hown hK.1 hP 0 rfl rfl 0 (by decide) (hts (.fieldLink RX2 13 "PrinterRows" "lines" "I") (by decide +kernel)) (fun _ h9 => h9) rfl dX2_beginPage_13 ?_
    refine lv_aload_n hx hb dX2_beginPage_16 rfl (lv_at hl 0 rfl) ?_
    refine va_get (D := D) (ci := 3) (v := .int (nI C)) (C := RX2) (T := TX2) (N := 16) hx hb hts hinX2 hown hK.1 hP 0 rfl rfl 1 (by decide) (hts (.fieldLink RX2 17 "PrinterRows" "columns" "I") (by decide +kernel)) (fun _ h9 => h9) rfl dX2_beginPage_17 ?_
    have hP : va_P D vwCl (wX cI cP x aC aT aR aP (nI L) (nI C) (nI rl) (nI bg) (zb false) (nI st) mk rp sp sc sk fa ch tr rc pg pl ++ [(a, .inr (1, [.null, .int 0]))]) H := hP
    have hD : va_D A (wX cI cP x aC aT aR aP (nI L) (nI C) (nI rl) (nI bg) (zb false) (nI st) mk rp sp sc sk fa ch tr rc pg pl ++ [(a, .inr (1, [.null, .int 0]))]) := hD
    refine callSv (wr := wX cI cP x aC aT aR aP (nI L) (nI C) (nI rl) (nI bg) (zb false) (nI st) mk rp sp sc sk fa ch tr rc pg pl) (wc := [(a, .inr (1, [.null, .int 0]))]) (va_runI (As := [.int (nI L), .int (nI C)]) (rest := [.ref a, .ref x]) ⟨hx, hb, hml, hown, hts⟩ (c_X0_init l (C := C) hL) (cwI 2 hts gX2_beginPage_X0_init rfl rfl rfl (hts (.initialized RX0) (by decide +kernel)) (hts (.methodLink RX2 164 yX0_init) (by decide +kernel)) (hts (.instanceMethod yX0_init) (by decide +kernel)) rfl (by decide +kernel) ⟨(Nat.le_of_ble_eq_true rfl), (Nat.le_of_ble_eq_true rfl)⟩) (mu_preS hK (sufP hP) (sufD hD)) rfl rfl hl.1 rfl (lv_room (Nat.le_of_ble_eq_true rfl)) dX2_beginPage_20 ⟨(Nat.le_of_ble_eq_true rfl), (Nat.le_of_ble_eq_true rfl)⟩) hP hD hS hA (fun ra H locs _ hP hD hS => ?_)
    have hP : va_P D vwCl (wX cI cP x aC aT aR aP (nI L) (nI C) (nI rl) (nI bg) (zb false) (nI st) mk rp sp sc sk fa ch tr rc pg (pl ++ [(a, ePg C ra), (ra, eRs cR L (fun _ => none))])) H := hP
    have hD : va_D A (wX cI cP x aC aT aR aP (nI L) (nI C) (nI rl) (nI bg) (zb false) (nI st) mk rp sp sc sk fa ch tr rc pg (pl ++ [(a, ePg C ra), (ra, eRs cR L (fun _ => none))])) := hD
    have hu := uqX hD
    have hnew := PI.fresh hPI hu
    refine callQv (va_runV (As := [.ref a]) (rest := []) ⟨hx, hb, hml, hown, hts⟩ (c_X2_addPage l hb40 a (pl.length + 0) [.ref ra, .int (nI C)] (apR 0 rfl)) (cwV 1 hts gX2_beginPage_X2_addPage rfl rfl rfl (by decide +kernel) ⟨(Nat.le_of_ble_eq_true rfl), (Nat.le_of_ble_eq_true rfl)⟩) (mu_pre hK hP hD rfl 0 rfl) rfl rfl hl.1 rfl (lv_room (Nat.le_of_ble_eq_true rfl)) dX2_beginPage_23 ⟨(Nat.le_of_ble_eq_true rfl), (Nat.le_of_ble_eq_true rfl)⟩) hD hS hA (fun u_23 H locs w_23 hP hD hS => ?_)
    have hP : va_P D vwCl (wX cI cP x aC aT aR aP (nI L) (nI C) (nI rl) (nI (bg + 1)) (zb false) (nI st) mk rp sp sc sk fa ch tr rc (va_up pg bg (some a)) (pl ++ [(a, ePg C ra), (ra, eRs cR L (fun _ => none))])) H := hP
    have hD : va_D A (wX cI cP x aC aT aR aP (nI L) (nI C) (nI rl) (nI (bg + 1)) (zb false) (nI st) mk rp sp sc sk fa ch tr rc (va_up pg bg (some a)) (pl ++ [(a, ePg C ra), (ra, eRs cR L (fun _ => none))])) := hD
    refine lv_aload_n hx hb dX2_beginPage_26 rfl (lv_at hl 0 rfl) ?_
    refine lv_iconst (v := 1) hx hb dX2_beginPage_27 (by decide +kernel) ?_
    refine va_put (D := D) (ci := 3) (v := .int 1) (ty := .boolean) (C := RX2) (T := TX2) (N := 16) hx hb hts hinX2 tyX2 tyX2_ok nmX2 hown hK.1 hP hD hS 0 rfl rfl 8 (by decide) (hts (.fieldLink RX2 150 "PrinterRows" "onBegunPage" "Z") (by decide +kernel)) (fun _ h9 => h9) rfl (by decide +kernel) (by decide +kernel) (by decide +kernel) (Nat.le_of_ble_eq_true rfl) dX2_beginPage_28 (fun H locs hP hD hS => ?_)
    have hP : va_P D vwCl (wX cI cP x aC aT aR aP (nI L) (nI C) (nI rl) (nI (bg + 1)) 1 (nI st) mk rp sp sc sk fa ch tr rc (va_up pg bg (some a)) (pl ++ [(a, ePg C ra), (ra, eRs cR L (fun _ => none))])) H := hP
    have hD : va_D A (wX cI cP x aC aT aR aP (nI L) (nI C) (nI rl) (nI (bg + 1)) 1 (nI st) mk rp sp sc sk fa ch tr rc (va_up pg bg (some a)) (pl ++ [(a, ePg C ra), (ra, eRs cR L (fun _ => none))])) := hD
    refine W.widen (k := 2) (n := 68) (by omega) (by omega) ?_
    exact W.vret hx hb hr (fun t ht hW => ⟨⟨(pl ++ [(a, ePg C ra), (ra, eRs cR L (fun _ => none))], va_up pg bg (some a), bg + 1), rfl, ⟨va_up own ra (a, 0), rfl, fun q hq => va_up_ne _ _ (Nat.ne_of_lt hq), hnew.1, fun _ => ⟨Nat.succ_pos _, fun q hq => by show va_up pg bg (some a) q ≠ va_up pg bg (some a) bg; rw [va_up_self]; exact hnew.2 q (Nat.lt_of_succ_lt_succ hq)⟩⟩, by rw [ht]; exact hP, hD⟩, hS.F ht⟩) hS.2.2 dX2_beginPage_31

set_option maxHeartbeats 1000000 in
set_option maxRecDepth 100000 in
theorem c_X2_moveBy (l : Launch) {D : va_G} {cI cP cR cJ : ClassId} {x aC aT aR aP L C rl bg st : Nat} {on : Bool} {mk rp sp sc sk fa : Int32} {ch tr rc : Nat → Int32} {pg : Nat → Option Nat} {pl : va_W} {own : Nat → Nat × Nat} {M : Nat → Nat → Nat → Int32} {sz : Nat} (hL0 : 0 < L) (hL : L ≤ 66) (hst : st < L) (hbg : bg ≤ 40) (hPI : PI cI cR pl own L C bg pg M) (hCS : CS on bg pg) (w : Nat) (hw : w ≤ 66) (hfit : (mvn L w (bg, st, on)).1 ≤ 40) : Met l yX2_moveBy wsX2_moveBy ({ frames := 3, cells := 132, slots := 4488, locals := 57 }) (mu [.ref x, .int (nI w)] D cI cP cR cJ (wX cI cP x aC aT aR aP (nI L) (nI C) (nI rl) (nI bg) (zb on) (nI st) mk rp sp sc sk fa ch tr rc pg pl) sz) (qv D (fun (u : va_W × (Nat → Option Nat) × Nat × Nat × Bool) => (u.2.2.1, u.2.2.2.1, u.2.2.2.2) = mvn L w (bg, st, on) ∧ (∀ q, q < bg → u.2.1 q = pg q) ∧ (∃ own' : Nat → Nat × Nat, PI cI cR u.1 own' L C u.2.2.1 u.2.1 (MB bg M)) ∧ CS u.2.2.2.2 u.2.2.1 u.2.1) (fun u : va_W × (Nat → Option Nat) × Nat × Nat × Bool => wX cI cP x aC aT aR aP (nI L) (nI C) (nI rl) (nI u.2.2.1) (zb u.2.2.2.2) (nI u.2.2.2.1) mk rp sp sc sk fa ch tr rc u.2.1 u.1) (va_A (wX cI cP x aC aT aR aP (nI L) (nI C) (nI rl) (nI bg) (zb on) (nI st) mk rp sp sc sk fa ch tr rc pg pl) sz)) 132 4488 (va_A (wX cI cP x aC aT aR aP (nI L) (nI C) (nI rl) (nI bg) (zb on) (nI st) mk rp sp sc sk fa ch tr rc pg pl) sz) := by
  refine Met.ofW (cc := cX2_moveBy) (maxL := 3) (ret := none) (by decide) rfl ?_
  intro p e s m args below meth c s₁ B hml hv
  obtain ⟨rfl, hsz, hP, hK, hD0⟩ := hv
  have hx := B.exec
  have hb := B.bytes
  have hr := B.returns
  have hts := atoms_spec (ws := wsX2_moveBy) B.pre
  have hown : s.vm.findClass RX2 = some m.cls := findClass_of_methodNamed B.named
  have hlocks := B.notSynchronized
  have hinX0 : ∀ w ∈ wsX00, w ∈ wsX2_moveBy := by decide +kernel
  have hinX2 : ∀ w ∈ wsX20, w ∈ wsX2_moveBy := by decide +kernel
  subst hsz
  have hD := hD0.self (sz := s.heap.size)
  generalize hAe : va_A (wX cI cP x aC aT aR aP (nI L) (nI C) (nI rl) (nI bg) (zb on) (nI st) mk rp sp sc sk fa ch tr rc pg pl) s.heap.size = A at hD ⊢
  have hA : ∀ q : Nat, s.heap.size ≤ q → A q := fun q h => by rw [← hAe]; exact Or.inr h
  have hS : va_S A s.heap s.heap [] := va_S.rf
  have hP : va_P D vwCl (wX cI cP x aC aT aR aP (nI L) (nI C) (nI rl) (nI bg) (zb on) (nI st) mk rp sp sc sk fa ch tr rc pg pl) s.heap := hP
  have hl := lv_entry ([.ref x, .int (nI w)]) (n := 3) (Nat.le_of_ble_eq_true rfl)
  rw [lg_entry_eq]
  generalize (lg_sl ([.ref x, .int (nI w)]) ++ List.replicate (3 - (lg_sl ([.ref x, .int (nI w)])).length) Slot.unset).toArray = ls at hl ⊢
  have hl : lv_has ls 3 [(0, .ref x), (1, .int (nI w))] := hl
  refine lv_iconst (v := 0) hx hb dX2_moveBy_0 (by decide +kernel) ?_
  refine lv_istore_n (lv' := [(2, .int 0), (0, .ref x), (1, .int (nI w))]) hx hb dX2_moveBy_1 rfl hl (by decide) rfl (fun ls hl => ?_)
  have loop : ∀ (n : Nat) (i bgv stv : Nat) (onv : Bool) (pgv : Nat → Option Nat) (plv : va_W) (H : Heap) (locs : List Loc) (ls : Array Slot), (i ≤ w) → (w - i < n) → ((bgv, stv, onv) = mvn L i (bg, st, on)) → (bg ≤ bgv) → (∀ q, q < bg → pgv q = pg q) → (∃ own' : Nat → Nat × Nat, PI cI cR plv own' L C bgv pgv (MB bg M)) → (CS onv bgv pgv) → va_P D vwCl (wX cI cP x aC aT aR aP (nI L) (nI C) (nI rl) (nI bgv) (zb onv) (nI stv) mk rp sp sc sk fa ch tr rc pgv plv) H → va_D A (wX cI cP x aC aT aR aP (nI L) (nI C) (nI rl) (nI bgv) (zb onv) (nI stv) mk rp sp sc sk fa ch tr rc pgv plv) → va_S A s.heap H locs → lv_has ls 3 [(0, .ref x), (1, .int (nI w)), (2, .int (nI i))] → W p l e (headSpec wsX2_moveBy ({ frames := 3, cells := 132, slots := 4488, locals := 57 })).room s m (([.ref x, .int (nI w)] : List Value).toArray) below meth c H locs (2 * i) (68 * i) (MQ below (qv D (fun (u : va_W × (Nat → Option Nat) × Nat × Nat × Bool) => (u.2.2.1, u.2.2.2.1, u.2.2.2.2) = mvn L w (bg, st, on) ∧ (∀ q, q < bg → u.2.1 q = pg q) ∧ (∃ own' : Nat → Nat × Nat, PI cI cR u.1 own' L C u.2.2.1 u.2.1 (MB bg M)) ∧ CS u.2.2.2.2 u.2.2.1 u.2.1) (fun u : va_W × (Nat → Option Nat) × Nat × Nat × Bool => wX cI cP x aC aT aR aP (nI L) (nI C) (nI rl) (nI u.2.2.1) (zb u.2.2.2.2) (nI u.2.2.2.1) mk rp sp sc sk fa ch tr rc u.2.1 u.1) (A)) (([.ref x, .int (nI w)] : List Value).toArray) s 132 4488 A) (F0 m 2 ls []) := by
    intro n
    induction n with
    | zero => intro i bgv stv onv pgv plv H locs ls hi hn hmv hbv hpg hPIv hCSv hP hD hS hl; exact absurd hn (Nat.not_lt_zero _)
    | succ n ih =>
      intro i bgv stv onv pgv plv H locs ls hi hn hmv hbv hpg hPIv hCSv hP hD hS hl
      refine lv_iload_n hx hb dX2_moveBy_2 rfl (lv_at hl 2 rfl) ?_
      refine lv_iload_n hx hb dX2_moveBy_3 rfl (lv_at hl 1 rfl) ?_
      refine lv_icmp_ge (tgt := 47) hx hb dX2_moveBy_4 (by decide) (fun c_4 => ?_) (fun c_4 => ?_)
      ·
        have hie : w = i := by have := (nI_leI (by omega) (by omega)).mp c_4; omega
        refine W.widen (k := 132) (n := 4488) (by omega) (by omega) ?_
        exact W.vret hx hb hr (fun t ht hW => ⟨⟨(plv, pgv, bgv, stv, onv), rfl, ⟨by rw [hie]; exact hmv, hpg, hPIv, hCSv⟩, by rw [ht]; exact hP, hD⟩, hS.F ht⟩) hS.2.2 dX2_moveBy_47
      ·
        have hlt : i < w := Nat.lt_of_not_le (fun h9 => c_4 (nI_le h9 (by omega)))
        have hsl : stv < L := by have h9 := mvn_st hL0 i (bg, st, on) hst; rw [← hmv] at h9; exact h9
        have hfi : (mvn L (i + 1) (bg, st, on)).1 ≤ 40 := Nat.le_trans (mvn_le (by omega) _) hfit
        refine lv_aload_n hx hb dX2_moveBy_7 rfl (lv_at hl 0 rfl) ?_
        refine va_get (D := D) (ci := 3) (v := .int (nI stv)) (C := RX2) (T := TX2) (N := 16) hx hb hts hinX2 hown hK.1 hP 0 rfl rfl 9 (by decide) (hts (.fieldLink RX2 129 "PrinterRows" "standLine" "I") (by decide +kernel)) (fun _ h9 => h9) rfl dX2_moveBy_8 ?_
        refine lv_iconst (v := 1) hx hb dX2_moveBy_11 (by decide +kernel) ?_
        refine lv_iadd hx hb dX2_moveBy_12 ?_
        refine lv_topi (fun x_12 ex_12 => ?_)
        obtain rfl : x_12 = nI (stv + 1) := ex_12.trans (nI_1 stv)
        refine lv_aload_n hx hb dX2_moveBy_13 rfl (lv_at hl 0 rfl) ?_
        refine va_get (D := D) (ci := 3) (v := .int (nI L)) (C := RX2) (T := TX2) (N := 16) hx hb hts hinX2 hown hK.1 hP 0 rfl rfl 0 (by decide) (hts (.fieldLink RX2 13 "PrinterRows" "lines" "I") (by decide +kernel)) (fun _ h9 => h9) rfl dX2_moveBy_14 ?_
        refine lv_icmp_ge (tgt := 33) hx hb dX2_moveBy_17 (by decide) (fun c_17 => ?_) (fun c_17 => ?_)
        ·
          have hs1 : ¬ stv + 1 < L := fun h9 => nI_ge h9 (by omega) c_17
          have hf2 : onv = false → bgv < 40 := fun h9 => by
            have h8 : mvn L (i + 1) (bg, st, on) = mv1 L (bgv, stv, onv) := by rw [hmv]; rfl
            rw [h8, mv1, if_neg hs1, h9] at hfi
            exact hfi
          obtain ⟨own9, hPI9⟩ := hPIv
          refine lv_aload_n hx hb dX2_moveBy_33 rfl (lv_at hl 0 rfl) ?_
          refine callQv (va_runV (As := []) (rest := []) ⟨hx, hb, hml, hown, hts⟩ (c_X2_beginPage l hf2 hL hPI9 hCSv) (cwV 0 hts gX2_moveBy_X2_beginPage rfl rfl rfl (by decide +kernel) ⟨(Nat.le_of_ble_eq_true rfl), (Nat.le_of_ble_eq_true rfl)⟩) (mu_pre hK hP hD rfl 0 rfl) rfl rfl hl.1 rfl (lv_room (Nat.le_of_ble_eq_true rfl)) dX2_moveBy_34 ⟨by show 2 * i + 2 ≤ 132; omega, by show 68 * i + 68 ≤ 4488; omega⟩) hD hS hA (fun u_34 H locs w_34 hP hD hS => ?_)
          obtain ⟨pl1, pg1, bg1⟩ := u_34
          obtain ⟨own1, hb1, hpg1, hPI1, hCS1⟩ := w_34
          dsimp only at hb1 hpg1 hPI1 hCS1
          have hP : va_P D vwCl (wX cI cP x aC aT aR aP (nI L) (nI C) (nI rl) (nI bg1) (zb true) (nI stv) mk rp sp sc sk fa ch tr rc pg1 pl1) H := hP
          have hD : va_D A (wX cI cP x aC aT aR aP (nI L) (nI C) (nI rl) (nI bg1) (zb true) (nI stv) mk rp sp sc sk fa ch tr rc pg1 pl1) := hD
          refine lv_aload_n hx hb dX2_moveBy_37 rfl (lv_at hl 0 rfl) ?_
          refine callQv (va_runV (As := []) (rest := []) ⟨hx, hb, hml, hown, hts⟩ (c_X2_standOnNewPage l) (cwV 0 hts gX2_moveBy_X2_standOnNewPage rfl rfl rfl (by decide +kernel) ⟨(Nat.le_of_ble_eq_true rfl), (Nat.le_of_ble_eq_true rfl)⟩) (mu_pre hK hP hD rfl 0 rfl) rfl rfl hl.1 rfl (lv_room (Nat.le_of_ble_eq_true rfl)) dX2_moveBy_38 ⟨by show 2 * i + 2 + 0 ≤ 132; omega, by show 68 * i + 68 + 0 ≤ 4488; omega⟩) hD hS hA (fun u_38 H locs w_38 hP hD hS => ?_)
          have hP : va_P D vwCl (wX cI cP x aC aT aR aP (nI L) (nI C) (nI rl) (nI bg1) (zb false) (nI 0) mk rp sp sc sk fa ch tr rc pg1 pl1) H := hP
          have hD : va_D A (wX cI cP x aC aT aR aP (nI L) (nI C) (nI rl) (nI bg1) (zb false) (nI 0) mk rp sp sc sk fa ch tr rc pg1 pl1) := hD
          refine lv_iinc (v := (nI (i + 1))) (lv' := [(2, .int (nI (i + 1))), (0, .ref x), (1, .int (nI w))]) hx hb dX2_moveBy_41 hl (k := 2) rfl (nI_1 i) (by decide) rfl (fun ls hl => ?_)
          refine W.widen (k := 2 * (i + 1)) (n := 68 * (i + 1)) (by omega) (by omega) ?_
          refine lv_goto (tgt := 2) hx hb dX2_moveBy_44 (by decide) ?_
          exact ih (i + 1) _ _ _ _ _ _ _ _ (by omega) (by omega) (by show _ = mv1 L (mvn L i (bg, st, on)); rw [← hmv, mv1, if_neg hs1, hb1]; rfl) (by rw [hb1]; unfold bgB; split <;> omega) (fun q hq => (hpg1 q (by omega)).trans (hpg q hq)) (⟨own1, by rw [MB_MB hbv] at hPI1; exact hPI1⟩) (fun h9 => by cases h9) hP hD hS (lv_sub hl [1, 2, 0] rfl)
        ·
          have hs1 : stv + 1 < L := Nat.lt_of_not_le (fun h9 => c_17 (nI_le h9 (by omega)))
          refine lv_aload_n hx hb dX2_moveBy_20 rfl (lv_at hl 0 rfl) ?_
          refine lv_dup hx hb dX2_moveBy_21 rfl ?_
          refine va_get (D := D) (ci := 3) (v := .int (nI stv)) (C := RX2) (T := TX2) (N := 16) hx hb hts hinX2 hown hK.1 hP 0 rfl rfl 9 (by decide) (hts (.fieldLink RX2 129 "PrinterRows" "standLine" "I") (by decide +kernel)) (fun _ h9 => h9) rfl dX2_moveBy_22 ?_
          refine lv_iconst (v := 1) hx hb dX2_moveBy_25 (by decide +kernel) ?_
          refine lv_iadd hx hb dX2_moveBy_26 ?_
          refine lv_topi (fun x_26 ex_26 => ?_)
          obtain rfl : x_26 = nI (stv + 1) := ex_26.trans (nI_1 stv)
          refine va_put (D := D) (ci := 3) (v := .int (nI (stv + 1))) (ty := .int) (C := RX2) (T := TX2) (N := 16) hx hb hts hinX2 tyX2 tyX2_ok nmX2 hown hK.1 hP hD hS 0 rfl rfl 9 (by decide) (hts (.fieldLink RX2 129 "PrinterRows" "standLine" "I") (by decide +kernel)) (fun _ h9 => h9) rfl (by decide +kernel) rfl rfl (Nat.le_of_ble_eq_true rfl) dX2_moveBy_27 (fun H locs hP hD hS => ?_)
          have hP : va_P D vwCl (wX cI cP x aC aT aR aP (nI L) (nI C) (nI rl) (nI bgv) (zb onv) (nI (stv + 1)) mk rp sp sc sk fa ch tr rc pgv plv) H := hP
          have hD : va_D A (wX cI cP x aC aT aR aP (nI L) (nI C) (nI rl) (nI bgv) (zb onv) (nI (stv + 1)) mk rp sp sc sk fa ch tr rc pgv plv) := hD
          refine lv_goto (tgt := 41) hx hb dX2_moveBy_30 (by decide) ?_
          refine lv_iinc (v := (nI (i + 1))) (lv' := [(2, .int (nI (i + 1))), (0, .ref x), (1, .int (nI w))]) hx hb dX2_moveBy_41 hl (k := 2) rfl (nI_1 i) (by decide) rfl (fun ls hl => ?_)
          refine W.widen (k := 2 * (i + 1)) (n := 68 * (i + 1)) (by omega) (by omega) ?_
          refine lv_goto (tgt := 2) hx hb dX2_moveBy_44 (by decide) ?_
          exact ih (i + 1) _ _ _ _ _ _ _ _ (by omega) (by omega) (by show _ = mv1 L (mvn L i (bg, st, on)); rw [← hmv, mv1, if_pos hs1]) (hbv) (hpg) (hPIv) (hCSv) hP hD hS (lv_sub hl [1, 2, 0] rfl)
  exact loop (w + 1) 0 bg st on pg pl _ _ _ (Nat.zero_le _) (by omega) (rfl) (Nat.le_refl _) (fun _ _ => rfl) (⟨own, PI.congr (Nat.le_refl _) (fun _ _ => rfl) (fun q i c hq _ _ => by unfold MB; rw [if_pos hq]) hPI⟩) (hCS) hP hD hS (lv_sub hl [1, 2, 0] rfl)
end
section
set_option maxHeartbeats 1000000 in
set_option maxRecDepth 100000 in
theorem c_X2_printSign (l : Launch) {D : va_G} {cI cP cR cJ : ClassId} {x aC aT aR aP L C rl bg st : Nat} {on : Bool} {mk rp sp sc sk fa : Int32} {ch tr rc : Nat → Int32} {pg : Nat → Option Nat} {pl : va_W} {own : Nat → Nat × Nat} {M : Nat → Nat → Nat → Int32} {sz : Nat} {a : Nat} (hL : L ≤ 66) (hC : C ≤ 132) (hst : st < L) (k : Nat) (hk : k < C) (s0 : Int32) (hs0 : isSg s0 = true) (hbg0 : 0 < bg) (hPI : PI cI cR pl own L C bg pg M) (hpa : pg (bg - 1) = some a) (hsep : ∀ q, q < bg → q ≠ bg - 1 → pg q ≠ some a) (z : Nat) (hz : z = 1 ∨ rowT cR pl L C a st ∨ tr s0.toNatClampNeg = 32) : Met l yX2_printSign wsX2_printSign ({ frames := 4, cells := (2 * z), slots := (133 * z), locals := 79 }) (mu [.ref x, .ref a, .int (nI k), .int s0] D cI cP cR cJ (wX cI cP x aC aT aR aP (nI L) (nI C) (nI rl) (nI bg) (zb on) (nI st) mk rp sp sc sk fa ch tr rc pg pl) sz) (qv D (fun (u : va_W × Int32) => ∃ own' : Nat → Nat × Nat, PI cI cR u.1 own' L C bg pg (MT M (bg - 1) st k (tr s0.toNatClampNeg)) ∧ u.2 = spN sp (tr s0.toNatClampNeg) ∧ (¬ (tr s0.toNatClampNeg) = 32 → rowT cR u.1 L C a st) ∧ (rowT cR pl L C a st → rowT cR u.1 L C a st)) (fun u : va_W × Int32 => wX cI cP x aC aT aR aP (nI L) (nI C) (nI rl) (nI bg) (zb on) (nI st) mk rp u.2 sc sk fa ch tr rc pg u.1) (va_A (wX cI cP x aC aT aR aP (nI L) (nI C) (nI rl) (nI bg) (zb on) (nI st) mk rp sp sc sk fa ch tr rc pg pl) sz)) (2 * z) (133 * z) (va_A (wX cI cP x aC aT aR aP (nI L) (nI C) (nI rl) (nI bg) (zb on) (nI st) mk rp sp sc sk fa ch tr rc pg pl) sz) := by
  refine Met.ofW (cc := cX2_printSign) (maxL := 5) (ret := none) (by decide) rfl ?_
  intro p e s m args below meth c s₁ B hml hv
  obtain ⟨rfl, hsz, hP, hK, hD0⟩ := hv
  have hx := B.exec
  have hb := B.bytes
  have hr := B.returns
  have hts := atoms_spec (ws := wsX2_printSign) B.pre
  have hown : s.vm.findClass RX2 = some m.cls := findClass_of_methodNamed B.named
  have hlocks := B.notSynchronized
  have hinX0 : ∀ w ∈ wsX00, w ∈ wsX2_printSign := by decide +kernel
  have hinX1 : ∀ w ∈ wsX10, w ∈ wsX2_printSign := by decide +kernel
  have hinX2 : ∀ w ∈ wsX20, w ∈ wsX2_printSign := by decide +kernel
  subst hsz
  have hD := hD0.self (sz := s.heap.size)
  generalize hAe : va_A (wX cI cP x aC aT aR aP (nI L) (nI C) (nI rl) (nI bg) (zb on) (nI st) mk rp sp sc sk fa ch tr rc pg pl) s.heap.size = A at hD ⊢
  have hA : ∀ q : Nat, s.heap.size ≤ q → A q := fun q h => by rw [← hAe]; exact Or.inr h
  have hS : va_S A s.heap s.heap [] := va_S.rf
  have hP : va_P D vwCl (wX cI cP x aC aT aR aP (nI L) (nI C) (nI rl) (nI bg) (zb on) (nI st) mk rp sp sc sk fa ch tr rc pg pl) s.heap := hP
  have hl := lv_entry ([.ref x, .ref a, .int (nI k), .int s0]) (n := 5) (Nat.le_of_ble_eq_true rfl)
  rw [lg_entry_eq]
  generalize (lg_sl ([.ref x, .ref a, .int (nI k), .int s0]) ++ List.replicate (5 - (lg_sl ([.ref x, .ref a, .int (nI k), .int s0])).length) Slot.unset).toArray = ls at hl ⊢
  have hl : lv_has ls 5 [(0, .ref x), (1, .ref a), (2, .int (nI k)), (3, .int s0)] := hl
  refine lv_iload_n hx hb dX2_printSign_0 rfl (lv_at hl 3 rfl) ?_
  refine vp_callSi (W.runS (As := [.int s0]) (rest := []) ⟨hx, hb, hml, hown, hts⟩ (c_X2_isSign l (s0)) (va_cwS 1 hts gX2_printSign_X2_isSign rfl rfl rfl (by decide +kernel) ⟨(Nat.le_of_ble_eq_true rfl), (Nat.le_of_ble_eq_true rfl)⟩) pu_pre rfl rfl hl.1 rfl (lv_room (Nat.le_of_ble_eq_true rfl)) dX2_printSign_1 ⟨(Nat.le_of_ble_eq_true rfl), (Nat.le_of_ble_eq_true rfl)⟩) (fun r_1 w_1 => ?_)
  subst w_1
  refine lv_if_eq (tgt := 16) hx hb dX2_printSign_4 (by decide) (fun c_4 => absurd c_4 (zb1.mpr hs0)) (fun c_4 => ?_)
  refine lv_aload_n hx hb dX2_printSign_7 rfl (lv_at hl 0 rfl) ?_
  refine va_get (D := D) (ci := 3) (v := .ref aT) (C := RX2) (T := TX2) (N := 16) hx hb hts hinX2 hown hK.1 hP 0 rfl rfl 3 (by decide) (hts (.fieldLink RX2 30 "PrinterRows" "printedAs" "[I") (by decide +kernel)) (fun _ h9 => h9) rfl dX2_printSign_8 ?_
  refine lv_iload_n hx hb dX2_printSign_11 rfl (lv_at hl 3 rfl) ?_
  refine va_iald hx hb hK.1 hP 2 0 rfl rfl (isSg_in (zb1.mpr hs0)) dX2_printSign_12 ?_
  refine lv_goto (tgt := 18) hx hb dX2_printSign_13 (by decide) ?_
  refine lv_istore (lv' := [(4, .int (tr (s0).toNatClampNeg)), (0, .ref x), (1, .ref a), (2, .int (nI k)), (3, .int s0)]) hx hb dX2_printSign_18 hl (by decide) rfl (fun ls hl => ?_)
  refine lv_iload hx hb dX2_printSign_20 (lv_at hl 0 rfl) ?_
  refine lv_bipush (v := 32) hx hb dX2_printSign_22 (by decide +kernel) ?_
  refine lv_icmp_eq (tgt := 48) hx hb dX2_printSign_24 (by decide) (fun c_24 => ?_) (fun c_24 => ?_)
  ·
    refine W.widen (k := (2 * z)) (n := (133 * z)) (by omega) (by omega) ?_
    exact W.vret hx hb hr (fun t ht hW => ⟨⟨(pl, sp), rfl, ⟨own, by rw [MT, if_pos c_24]; exact hPI, by rw [spN, if_pos c_24], fun h9 => absurd c_24 h9, fun h9 => h9⟩, by rw [ht]; exact hP, hD⟩, hS.F ht⟩) hS.2.2 dX2_printSign_48
  ·
    have hu := uqX hD
    obtain ⟨a9, hp9, ra, g, ka, kr, hka, hkr, hra, hln⟩ := hPI (bg - 1) (by omega)
    obtain rfl : a9 = a := Option.some.inj (hp9.symm.trans hpa)
    rcases hln st hst with ⟨hg, hbl⟩ | ⟨b, hg, hbo, sa, f, kb, ks, hkb, hks, hsa, hf⟩
    ·
      obtain rfl : z = 1 := by
        rcases hz with h9 | ⟨ra9, g9, ka9, kr9, b9, q1, q2, q3⟩ | h9
        · exact h9
        · have e1 := hu.same hka q1
          have e1 : ra = ra9 := by simpa [ePg] using e1
          subst e1
          have e2 := hu.same hkr q2
          have e2 : g = g9 := by simpa [eRs] using e2
          subst e2
          rw [hg] at q3; cases q3
        · exact absurd h9 c_24
      refine lv_aload_n hx hb dX2_printSign_27 rfl (lv_at hl 2 rfl) ?_
      refine lv_aload_n hx hb dX2_printSign_28 rfl (lv_at hl 1 rfl) ?_
      refine va_get (D := D) (ci := 3) (v := .int (nI st)) (C := RX2) (T := TX2) (N := 16) hx hb hts hinX2 hown hK.1 hP 0 rfl rfl 9 (by decide) (hts (.fieldLink RX2 129 "PrinterRows" "standLine" "I") (by decide +kernel)) (fun _ h9 => h9) rfl dX2_printSign_29 ?_
      refine lv_iload_n hx hb dX2_printSign_32 rfl (lv_at hl 3 rfl) ?_
      refine lv_iload hx hb dX2_printSign_33 (lv_at hl 0 rfl) ?_
      have hP : va_P D vwCl (wX cI cP x aC aT aR aP (nI L) (nI C) (nI rl) (nI bg) (zb on) (nI st) mk rp sp sc sk fa ch tr rc pg ([]) ++ pl) s.heap := hP
      have hD : va_D A (wX cI cP x aC aT aR aP (nI L) (nI C) (nI rl) (nI bg) (zb on) (nI st) mk rp sp sc sk fa ch tr rc pg ([]) ++ pl) := hD
      refine callSv (wr := wX cI cP x aC aT aR aP (nI L) (nI C) (nI rl) (nI bg) (zb on) (nI st) mk rp sp sc sk fa ch tr rc pg ([])) (wc := pl) (va_runV (As := [.int (nI st), .int (nI k), .int (tr (s0).toNatClampNeg)]) (rest := []) ⟨hx, hb, hml, hown, hts⟩ (c_X0_join_new l ka kr hka hkr hL hC st k hst hk (tr s0.toNatClampNeg) hg) (cwV 3 hts gX2_printSign_X0_join rfl rfl rfl (by decide +kernel) ⟨(Nat.le_of_ble_eq_true rfl), (Nat.le_of_ble_eq_true rfl)⟩) (mu_pre hK (sufP hP) (sufD hD) rfl ka hka) rfl rfl hl.1 rfl (lv_room (Nat.le_of_ble_eq_true rfl)) dX2_printSign_35 ⟨(Nat.le_of_ble_eq_true rfl), (Nat.le_of_ble_eq_true rfl)⟩) hP hD hS hA (fun u_35 H locs w_35 hP hD hS => ?_)
      obtain ⟨b, sa, f⟩ := u_35
      have w_35 : ∀ j, j < C → f j = if j = k then mx 32 (tr s0.toNatClampNeg) else 32 := w_35
      have hP : va_P D vwCl (wX cI cP x aC aT aR aP (nI L) (nI C) (nI rl) (nI bg) (zb on) (nI st) mk rp sp sc sk fa ch tr rc pg (pl.set kr (ra, eRs cR L (va_up g st (some b))) ++ [(b, eRow sa), (sa, eSg cI C f)])) H := hP
      have hD : va_D A (wX cI cP x aC aT aR aP (nI L) (nI C) (nI rl) (nI bg) (zb on) (nI st) mk rp sp sc sk fa ch tr rc pg (pl.set kr (ra, eRs cR L (va_up g st (some b))) ++ [(b, eRow sa), (sa, eSg cI C f)])) := hD
      have hPI2 := PI.joinNew (v := (tr s0.toNatClampNeg)) hu (uqX hD) hPI (by omega) hpa hsep hka hkr hg hra w_35 hst hk
      have hrt : rowT cR (pl.set kr (ra, eRs cR L (va_up g st (some b))) ++ [(b, eRow sa), (sa, eSg cI C f)]) L C a9 st := ⟨ra, va_up g st (some b), ka, kr, b, apL (setNe hka hkr (fun h9 => by cases h9)), apL (setSelf hkr), va_up_self _ _ _⟩
      refine lv_aload_n hx hb dX2_printSign_38 rfl (lv_at hl 1 rfl) ?_
      refine lv_dup hx hb dX2_printSign_39 rfl ?_
      refine va_get (D := D) (ci := 3) (v := .int sp) (C := RX2) (T := TX2) (N := 16) hx hb hts hinX2 hown hK.1 hP 0 rfl rfl 12 (by decide) (hts (.fieldLink RX2 135 "PrinterRows" "signsPrinted" "I") (by decide +kernel)) (fun _ h9 => h9) rfl dX2_printSign_40 ?_
      refine lv_iconst (v := 1) hx hb dX2_printSign_43 (by decide +kernel) ?_
      refine lv_iadd hx hb dX2_printSign_44 ?_
      refine va_put (D := D) (ci := 3) (v := .int (sp + 1)) (ty := .int) (C := RX2) (T := TX2) (N := 16) hx hb hts hinX2 tyX2 tyX2_ok nmX2 hown hK.1 hP hD hS 0 rfl rfl 12 (by decide) (hts (.fieldLink RX2 135 "PrinterRows" "signsPrinted" "I") (by decide +kernel)) (fun _ h9 => h9) rfl (by decide +kernel) rfl rfl (Nat.le_of_ble_eq_true rfl) dX2_printSign_45 (fun H locs hP hD hS => ?_)
      have hP : va_P D vwCl (wX cI cP x aC aT aR aP (nI L) (nI C) (nI rl) (nI bg) (zb on) (nI st) mk rp (sp + 1) sc sk fa ch tr rc pg (pl.set kr (ra, eRs cR L (va_up g st (some b))) ++ [(b, eRow sa), (sa, eSg cI C f)])) H := hP
      have hD : va_D A (wX cI cP x aC aT aR aP (nI L) (nI C) (nI rl) (nI bg) (zb on) (nI st) mk rp (sp + 1) sc sk fa ch tr rc pg (pl.set kr (ra, eRs cR L (va_up g st (some b))) ++ [(b, eRow sa), (sa, eSg cI C f)])) := hD
      refine W.widen (k := (2 * 1)) (n := (133 * 1)) (by omega) (by omega) ?_
      exact W.vret hx hb hr (fun t ht hW => ⟨⟨(_, sp + 1), rfl, ⟨_, by rw [MT, if_neg c_24]; exact hPI2, by rw [spN, if_neg c_24], fun _ => hrt, fun _ => hrt⟩, by rw [ht]; exact hP, hD⟩, hS.F ht⟩) hS.2.2 dX2_printSign_48
    ·
      refine lv_aload_n hx hb dX2_printSign_27 rfl (lv_at hl 2 rfl) ?_
      refine lv_aload_n hx hb dX2_printSign_28 rfl (lv_at hl 1 rfl) ?_
      refine va_get (D := D) (ci := 3) (v := .int (nI st)) (C := RX2) (T := TX2) (N := 16) hx hb hts hinX2 hown hK.1 hP 0 rfl rfl 9 (by decide) (hts (.fieldLink RX2 129 "PrinterRows" "standLine" "I") (by decide +kernel)) (fun _ h9 => h9) rfl dX2_printSign_29 ?_
      refine lv_iload_n hx hb dX2_printSign_32 rfl (lv_at hl 3 rfl) ?_
      refine lv_iload hx hb dX2_printSign_33 (lv_at hl 0 rfl) ?_
      have hP : va_P D vwCl (wX cI cP x aC aT aR aP (nI L) (nI C) (nI rl) (nI bg) (zb on) (nI st) mk rp sp sc sk fa ch tr rc pg ([]) ++ pl) s.heap := hP
      have hD : va_D A (wX cI cP x aC aT aR aP (nI L) (nI C) (nI rl) (nI bg) (zb on) (nI st) mk rp sp sc sk fa ch tr rc pg ([]) ++ pl) := hD
      refine callSv (wr := wX cI cP x aC aT aR aP (nI L) (nI C) (nI rl) (nI bg) (zb on) (nI st) mk rp sp sc sk fa ch tr rc pg ([])) (wc := pl) (va_runV (As := [.int (nI st), .int (nI k), .int (tr (s0).toNatClampNeg)]) (rest := []) ⟨hx, hb, hml, hown, hts⟩ (c_X0_join_old l ka kr hka hkr hL hC st k hst hk (tr s0.toNatClampNeg) hg kb ks hkb hks) (cwV 3 hts gX2_printSign_X0_join rfl rfl rfl (by decide +kernel) ⟨(Nat.le_of_ble_eq_true rfl), (Nat.le_of_ble_eq_true rfl)⟩) (mu_pre hK (sufP hP) (sufD hD) rfl ka hka) rfl rfl hl.1 rfl (lv_room (Nat.le_of_ble_eq_true rfl)) dX2_printSign_35 ⟨Nat.zero_le _, Nat.zero_le _⟩) hP hD hS hA (fun u_35 H locs _ hP hD hS => ?_)
      have hP : va_P D vwCl (wX cI cP x aC aT aR aP (nI L) (nI C) (nI rl) (nI bg) (zb on) (nI st) mk rp sp sc sk fa ch tr rc pg (pl.set ks (sa, eSg cI C (upd f k (mx (f k) (tr s0.toNatClampNeg)))))) H := hP
      have hD : va_D A (wX cI cP x aC aT aR aP (nI L) (nI C) (nI rl) (nI bg) (zb on) (nI st) mk rp sp sc sk fa ch tr rc pg (pl.set ks (sa, eSg cI C (upd f k (mx (f k) (tr s0.toNatClampNeg)))))) := hD
      have hPI2 := PI.joinOld (v := (tr s0.toNatClampNeg)) (k := k) hu hPI (by omega) hpa hsep hka hkr hg hkb hks hra hbo hsa hf hst hk
      have hrt : rowT cR (pl.set ks (sa, eSg cI C (upd f k (mx (f k) (tr s0.toNatClampNeg))))) L C a9 st := ⟨ra, g, ka, kr, b, setNe hka hks (fun h9 => by cases h9), setNe hkr hks (fun h9 => by cases h9), hg⟩
      refine lv_aload_n hx hb dX2_printSign_38 rfl (lv_at hl 1 rfl) ?_
      refine lv_dup hx hb dX2_printSign_39 rfl ?_
      refine va_get (D := D) (ci := 3) (v := .int sp) (C := RX2) (T := TX2) (N := 16) hx hb hts hinX2 hown hK.1 hP 0 rfl rfl 12 (by decide) (hts (.fieldLink RX2 135 "PrinterRows" "signsPrinted" "I") (by decide +kernel)) (fun _ h9 => h9) rfl dX2_printSign_40 ?_
      refine lv_iconst (v := 1) hx hb dX2_printSign_43 (by decide +kernel) ?_
      refine lv_iadd hx hb dX2_printSign_44 ?_
      refine va_put (D := D) (ci := 3) (v := .int (sp + 1)) (ty := .int) (C := RX2) (T := TX2) (N := 16) hx hb hts hinX2 tyX2 tyX2_ok nmX2 hown hK.1 hP hD hS 0 rfl rfl 12 (by decide) (hts (.fieldLink RX2 135 "PrinterRows" "signsPrinted" "I") (by decide +kernel)) (fun _ h9 => h9) rfl (by decide +kernel) rfl rfl (Nat.le_of_ble_eq_true rfl) dX2_printSign_45 (fun H locs hP hD hS => ?_)
      have hP : va_P D vwCl (wX cI cP x aC aT aR aP (nI L) (nI C) (nI rl) (nI bg) (zb on) (nI st) mk rp (sp + 1) sc sk fa ch tr rc pg (pl.set ks (sa, eSg cI C (upd f k (mx (f k) (tr s0.toNatClampNeg)))))) H := hP
      have hD : va_D A (wX cI cP x aC aT aR aP (nI L) (nI C) (nI rl) (nI bg) (zb on) (nI st) mk rp (sp + 1) sc sk fa ch tr rc pg (pl.set ks (sa, eSg cI C (upd f k (mx (f k) (tr s0.toNatClampNeg)))))) := hD
      refine W.widen (k := (2 * z)) (n := (133 * z)) (by omega) (by omega) ?_
      exact W.vret hx hb hr (fun t ht hW => ⟨⟨(_, sp + 1), rfl, ⟨_, by rw [MT, if_neg c_24]; exact hPI2, by rw [spN, if_neg c_24], fun _ => hrt, fun _ => hrt⟩, by rw [ht]; exact hP, hD⟩, hS.F ht⟩) hS.2.2 dX2_printSign_48

theorem sp_step {tr rc : Nat → Int32} {C i : Nat} {sp spv sp2 : Int32} (hiC : i < C) (h2 : sp2 = spN spv (tr (rc i).toNatClampNeg)) (h : spv = sp + cS tr rc C i) : sp2 = sp + cS tr rc C (i + 1) := by
  rw [h2, h]
  show spN _ _ = sp + (cS tr rc C i + _)
  rw [if_neg (Nat.not_le.mpr hiC)]
  unfold spN
  by_cases e : tr (rc i).toNatClampNeg = 32
  · rw [if_pos e, if_pos e, Int32.add_zero]
  · rw [if_neg e, if_neg e, Int32.add_assoc]
theorem bgB_le {bg : Nat} {on : Bool} (h1 : on = false → bg < 40) (h2 : bg ≤ 40) : bgB bg on ≤ 40 := by
  cases on
  · exact h1 rfl
  · exact h2

set_option maxHeartbeats 1000000 in
set_option maxRecDepth 100000 in
theorem c_X2_printRecord (l : Launch) {D : va_G} {cI cP cR cJ : ClassId} {x aC aT aR aP L C rl bg st : Nat} {on : Bool} {mk rp sp sc sk fa : Int32} {ch tr rc : Nat → Int32} {pg : Nat → Option Nat} {pl : va_W} {own : Nat → Nat × Nat} {M : Nat → Nat → Nat → Int32} {sz : Nat} (hL : L ≤ 66) (hC : C ≤ 132) (hst : st < L) (hbg : on = false → bg < 40) (hbg40 : bg ≤ 40) (hrl : rl ≤ 200) (hrc : ∀ j, j < rl → isSg (rc j) = true) (hPI : PI cI cR pl own L C bg pg M) (hCS : CS on bg pg) (hMG : MG L C bg M) : Met l yX2_printRecord wsX2_printRecord ({ frames := 5, cells := 4, slots := 201, locals := 103 }) (mu [.ref x] D cI cP cR cJ (wX cI cP x aC aT aR aP (nI L) (nI C) (nI rl) (nI bg) (zb on) (nI st) mk rp sp sc sk fa ch tr rc pg pl) sz) (qv D (fun (u : va_W × (Nat → Option Nat) × Nat × Int32 × Int32) => u.2.2.1 = bgB bg on ∧ (∀ q, q < bg → u.2.1 q = pg q) ∧ (∃ own' : Nat → Nat × Nat, PI cI cR u.1 own' L C u.2.2.1 u.2.1 (MP (MB bg M) (u.2.2.1 - 1) st tr rc rl)) ∧ CS true u.2.2.1 u.2.1 ∧ u.2.2.2.1 = sp + cS tr rc C rl ∧ u.2.2.2.2 = sc + cC C rl) (fun u : va_W × (Nat → Option Nat) × Nat × Int32 × Int32 => wX cI cP x aC aT aR aP (nI L) (nI C) (nI 0) (nI u.2.2.1) (zb true) (nI st) mk (rp + 1) u.2.2.2.1 u.2.2.2.2 sk fa ch tr rc u.2.1 u.1) (va_A (wX cI cP x aC aT aR aP (nI L) (nI C) (nI rl) (nI bg) (zb on) (nI st) mk rp sp sc sk fa ch tr rc pg pl) sz)) 4 201 (va_A (wX cI cP x aC aT aR aP (nI L) (nI C) (nI rl) (nI bg) (zb on) (nI st) mk rp sp sc sk fa ch tr rc pg pl) sz) := by
  refine Met.ofW (cc := cX2_printRecord) (maxL := 3) (ret := none) (by decide) rfl ?_
  intro p e s m args below meth c s₁ B hml hv
  obtain ⟨rfl, hsz, hP, hK, hD0⟩ := hv
  have hx := B.exec
  have hb := B.bytes
  have hr := B.returns
  have hts := atoms_spec (ws := wsX2_printRecord) B.pre
  have hown : s.vm.findClass RX2 = some m.cls := findClass_of_methodNamed B.named
  have hlocks := B.notSynchronized
  have hinX0 : ∀ w ∈ wsX00, w ∈ wsX2_printRecord := by decide +kernel
  have hinX1 : ∀ w ∈ wsX10, w ∈ wsX2_printRecord := by decide +kernel
  have hinX2 : ∀ w ∈ wsX20, w ∈ wsX2_printRecord := by decide +kernel
  subst hsz
  have hD := hD0.self (sz := s.heap.size)
  generalize hAe : va_A (wX cI cP x aC aT aR aP (nI L) (nI C) (nI rl) (nI bg) (zb on) (nI st) mk rp sp sc sk fa ch tr rc pg pl) s.heap.size = A at hD ⊢
  have hA : ∀ q : Nat, s.heap.size ≤ q → A q := fun q h => by rw [← hAe]; exact Or.inr h
  have hS : va_S A s.heap s.heap [] := va_S.rf
  have hP : va_P D vwCl (wX cI cP x aC aT aR aP (nI L) (nI C) (nI rl) (nI bg) (zb on) (nI st) mk rp sp sc sk fa ch tr rc pg pl) s.heap := hP
  have hl := lv_entry ([.ref x]) (n := 3) (Nat.le_of_ble_eq_true rfl)
  rw [lg_entry_eq]
  generalize (lg_sl ([.ref x]) ++ List.replicate (3 - (lg_sl ([.ref x])).length) Slot.unset).toArray = ls at hl ⊢
  have hl : lv_has ls 3 [(0, .ref x)] := hl
  refine lv_aload_n hx hb dX2_printRecord_0 rfl (lv_at hl 0 rfl) ?_
  refine callQv (va_runV (As := []) (rest := []) ⟨hx, hb, hml, hown, hts⟩ (c_X2_beginPage l hbg hL hPI hCS) (cwV 0 hts gX2_printRecord_X2_beginPage rfl rfl rfl (by decide +kernel) ⟨(Nat.le_of_ble_eq_true rfl), (Nat.le_of_ble_eq_true rfl)⟩) (mu_pre hK hP hD rfl 0 rfl) rfl rfl hl.1 rfl (lv_room (Nat.le_of_ble_eq_true rfl)) dX2_printRecord_1 ⟨(Nat.le_of_ble_eq_true rfl), (Nat.le_of_ble_eq_true rfl)⟩) hD hS hA (fun u_1 H locs w_1 hP hD hS => ?_)
  obtain ⟨pl1, pg1, bg1⟩ := u_1
  obtain ⟨own1, hb1, hpg1, hPI1, hCS1⟩ := w_1
  dsimp only at hb1 hpg1 hPI1 hCS1
  have hP : va_P D vwCl (wX cI cP x aC aT aR aP (nI L) (nI C) (nI rl) (nI bg1) (zb true) (nI st) mk rp sp sc sk fa ch tr rc pg1 pl1) H := hP
  have hD : va_D A (wX cI cP x aC aT aR aP (nI L) (nI C) (nI rl) (nI bg1) (zb true) (nI st) mk rp sp sc sk fa ch tr rc pg1 pl1) := hD
  obtain ⟨hb0, hsp0⟩ := hCS1 rfl
  have hb140 : bg1 ≤ 40 := by rw [hb1]; exact bgB_le hbg hbg40
  obtain ⟨a, hpa, -⟩ := hPI1 (bg1 - 1) (by omega)
  have hsep : ∀ q, q < bg1 → q ≠ bg1 - 1 → pg1 q ≠ some a := fun q h8 h9 => by rw [← hpa]; exact hsp0 q (by omega)
  have hMG1 : MG L C bg1 (MB bg M) := MG.blank hMG
  refine lv_aload_n hx hb dX2_printRecord_4 rfl (lv_at hl 0 rfl) ?_
  refine lv_aload_n hx hb dX2_printRecord_5 rfl (lv_at hl 0 rfl) ?_
  refine va_get (D := D) (ci := 3) (v := .int (nI bg1)) (C := RX2) (T := TX2) (N := 16) hx hb hts hinX2 hown hK.1 hP 0 rfl rfl 7 (by decide) (hts (.fieldLink RX2 90 "PrinterRows" "begun" "I") (by decide +kernel)) (fun _ h9 => h9) rfl dX2_printRecord_6 ?_
  refine lv_iconst (v := 1) hx hb dX2_printRecord_9 (by decide +kernel) ?_
  refine lv_isub hx hb dX2_printRecord_10 ?_
  refine lv_topi (fun x_10 ex_10 => ?_)
  obtain rfl : x_10 = nI (bg1 - 1) := ex_10.trans (sub1 hb0)
  refine va_csq (W.runV (As := [.int (nI (bg1 - 1))]) (rest := []) ⟨hx, hb, hml, hown, hts⟩ (c_X2_begunPage l hb140 (nI (bg1 - 1))) (cwV 1 hts gX2_printRecord_X2_begunPage rfl rfl rfl (by decide +kernel) ⟨(Nat.le_of_ble_eq_true rfl), (Nat.le_of_ble_eq_true rfl)⟩) (ro_pre hK hP rfl 0 rfl) rfl rfl hl.1 rfl (lv_room (Nat.le_of_ble_eq_true rfl)) dX2_printRecord_11 ⟨(Nat.le_of_ble_eq_true rfl), (Nat.le_of_ble_eq_true rfl)⟩) (fun r_11 w_11 => ?_)
  subst w_11
  refine W.eq (g2 := F0 m 14 ls [.ref a]) (by rw [bpR, if_pos ⟨nI_pos (by omega), nI_ge (by omega) (by omega)⟩, nI_clamp (by omega), hpa]; rfl) ?_
  refine lv_astore_n (lv' := [(1, .ref a), (0, .ref x)]) hx hb dX2_printRecord_14 rfl hl (by decide) rfl (fun ls hl => ?_)
  refine lv_iconst (v := 0) hx hb dX2_printRecord_15 (by decide +kernel) ?_
  refine lv_istore_n (lv' := [(2, .int 0), (1, .ref a), (0, .ref x)]) hx hb dX2_printRecord_16 rfl hl (by decide) rfl (fun ls hl => ?_)
  have loop : ∀ (n : Nat) (i : Nat) (plv : va_W) (spv scv : Int32) (y : Nat) (H : Heap) (locs : List Loc) (ls : Array Slot), (i ≤ rl) → (rl - i < n) → (∃ own' : Nat → Nat × Nat, PI cI cR plv own' L C bg1 pg1 (MP (MB bg M) (bg1 - 1) st tr rc i)) → (spv = sp + cS tr rc C i) → (scv = sc + cC C i) → (y ≤ 1) → (y = 0 ∨ rowT cR plv L C a st) → va_P D vwCl (wX cI cP x aC aT aR aP (nI L) (nI C) (nI rl) (nI bg1) (zb true) (nI st) mk rp spv scv sk fa ch tr rc pg1 plv) H → va_D A (wX cI cP x aC aT aR aP (nI L) (nI C) (nI rl) (nI bg1) (zb true) (nI st) mk rp spv scv sk fa ch tr rc pg1 plv) → va_S A s.heap H locs → lv_has ls 3 [(0, .ref x), (1, .ref a), (2, .int (nI i))] → W p l e (headSpec wsX2_printRecord ({ frames := 5, cells := 4, slots := 201, locals := 103 })).room s m (([.ref x] : List Value).toArray) below meth c H locs (2 + 2 * y) (68 + 133 * y) (MQ below (qv D (fun (u : va_W × (Nat → Option Nat) × Nat × Int32 × Int32) => u.2.2.1 = bgB bg on ∧ (∀ q, q < bg → u.2.1 q = pg q) ∧ (∃ own' : Nat → Nat × Nat, PI cI cR u.1 own' L C u.2.2.1 u.2.1 (MP (MB bg M) (u.2.2.1 - 1) st tr rc rl)) ∧ CS true u.2.2.1 u.2.1 ∧ u.2.2.2.1 = sp + cS tr rc C rl ∧ u.2.2.2.2 = sc + cC C rl) (fun u : va_W × (Nat → Option Nat) × Nat × Int32 × Int32 => wX cI cP x aC aT aR aP (nI L) (nI C) (nI 0) (nI u.2.2.1) (zb true) (nI st) mk (rp + 1) u.2.2.2.1 u.2.2.2.2 sk fa ch tr rc u.2.1 u.1) (A)) (([.ref x] : List Value).toArray) s 4 201 A) (F0 m 17 ls []) := by
    intro n
    induction n with
    | zero => intro i plv spv scv y H locs ls hi hn hPIv hsp hsc hy1 hy hP hD hS hl; exact absurd hn (Nat.not_lt_zero _)
    | succ n ih =>
      intro i plv spv scv y H locs ls hi hn hPIv hsp hsc hy1 hy hP hD hS hl
      refine lv_iload_n hx hb dX2_printRecord_17 rfl (lv_at hl 2 rfl) ?_
      refine lv_aload_n hx hb dX2_printRecord_18 rfl (lv_at hl 0 rfl) ?_
      refine va_get (D := D) (ci := 3) (v := .int (nI rl)) (C := RX2) (T := TX2) (N := 16) hx hb hts hinX2 hown hK.1 hP 0 rfl rfl 5 (by decide) (hts (.fieldLink RX2 46 "PrinterRows" "recordLength" "I") (by decide +kernel)) (fun _ h9 => h9) rfl dX2_printRecord_19 ?_
      refine lv_icmp_ge (tgt := 77) hx hb dX2_printRecord_22 (by decide) (fun c_22 => ?_) (fun c_22 => ?_)
      ·
        have hie : rl = i := by have := (nI_leI (by omega) (by omega)).mp c_22; omega
        refine lv_aload_n hx hb dX2_printRecord_77 rfl (lv_at hl 0 rfl) ?_
        refine lv_iconst (v := 0) hx hb dX2_printRecord_78 (by decide +kernel) ?_
        refine va_put (D := D) (ci := 3) (v := .int 0) (ty := .int) (C := RX2) (T := TX2) (N := 16) hx hb hts hinX2 tyX2 tyX2_ok nmX2 hown hK.1 hP hD hS 0 rfl rfl 5 (by decide) (hts (.fieldLink RX2 46 "PrinterRows" "recordLength" "I") (by decide +kernel)) (fun _ h9 => h9) rfl (by decide +kernel) rfl rfl (Nat.le_of_ble_eq_true rfl) dX2_printRecord_79 (fun H locs hP hD hS => ?_)
        have hP : va_P D vwCl (wX cI cP x aC aT aR aP (nI L) (nI C) 0 (nI bg1) (zb true) (nI st) mk rp spv scv sk fa ch tr rc pg1 plv) H := hP
        have hD : va_D A (wX cI cP x aC aT aR aP (nI L) (nI C) 0 (nI bg1) (zb true) (nI st) mk rp spv scv sk fa ch tr rc pg1 plv) := hD
        refine lv_aload_n hx hb dX2_printRecord_82 rfl (lv_at hl 0 rfl) ?_
        refine lv_dup hx hb dX2_printRecord_83 rfl ?_
        refine va_get (D := D) (ci := 3) (v := .int rp) (C := RX2) (T := TX2) (N := 16) hx hb hts hinX2 hown hK.1 hP 0 rfl rfl 11 (by decide) (hts (.fieldLink RX2 132 "PrinterRows" "recordsPrinted" "I") (by decide +kernel)) (fun _ h9 => h9) rfl dX2_printRecord_84 ?_
        refine lv_iconst (v := 1) hx hb dX2_printRecord_87 (by decide +kernel) ?_
        refine lv_iadd hx hb dX2_printRecord_88 ?_
        refine va_put (D := D) (ci := 3) (v := .int (rp + 1)) (ty := .int) (C := RX2) (T := TX2) (N := 16) hx hb hts hinX2 tyX2 tyX2_ok nmX2 hown hK.1 hP hD hS 0 rfl rfl 11 (by decide) (hts (.fieldLink RX2 132 "PrinterRows" "recordsPrinted" "I") (by decide +kernel)) (fun _ h9 => h9) rfl (by decide +kernel) rfl rfl (Nat.le_of_ble_eq_true rfl) dX2_printRecord_89 (fun H locs hP hD hS => ?_)
        have hP : va_P D vwCl (wX cI cP x aC aT aR aP (nI L) (nI C) 0 (nI bg1) (zb true) (nI st) mk (rp + 1) spv scv sk fa ch tr rc pg1 plv) H := hP
        have hD : va_D A (wX cI cP x aC aT aR aP (nI L) (nI C) 0 (nI bg1) (zb true) (nI st) mk (rp + 1) spv scv sk fa ch tr rc pg1 plv) := hD
        refine W.widen (k := 4) (n := 201) (by omega) (by omega) ?_
        exact W.vret hx hb hr (fun t ht hW => ⟨⟨(plv, pg1, bg1, spv, scv), rfl, ⟨hb1, hpg1, by rw [hie]; exact hPIv, hCS1, by rw [hie]; exact hsp, by rw [hie]; exact hsc⟩, by rw [ht]; exact hP, hD⟩, hS.F ht⟩) hS.2.2 dX2_printRecord_92
      ·
        have hlt : i < rl := Nat.lt_of_not_le (fun h9 => c_22 (nI_le h9 (by omega)))
        obtain ⟨own9, hPI9⟩ := hPIv
        refine lv_iload_n hx hb dX2_printRecord_25 rfl (lv_at hl 2 rfl) ?_
        refine lv_aload_n hx hb dX2_printRecord_26 rfl (lv_at hl 0 rfl) ?_
        refine va_get (D := D) (ci := 3) (v := .ref aR) (C := RX2) (T := TX2) (N := 16) hx hb hts hinX2 hown hK.1 hP 0 rfl rfl 4 (by decide) (hts (.fieldLink RX2 33 "PrinterRows" "record" "[I") (by decide +kernel)) (fun _ h9 => h9) rfl dX2_printRecord_27 ?_
        refine va_alen (v := 200) hx hb hK.1 hP 3 0 rfl rfl rfl dX2_printRecord_30 ?_
        refine lv_icmp_ge (tgt := 77) hx hb dX2_printRecord_31 (by decide) (fun c_31 => absurd c_31 (nI_ge (b := 200) (by omega) (by decide))) (fun c_31 => ?_)
        refine lv_iload_n hx hb dX2_printRecord_34 rfl (lv_at hl 2 rfl) ?_
        refine lv_aload_n hx hb dX2_printRecord_35 rfl (lv_at hl 0 rfl) ?_
        refine va_get (D := D) (ci := 3) (v := .int (nI C)) (C := RX2) (T := TX2) (N := 16) hx hb hts hinX2 hown hK.1 hP 0 rfl rfl 1 (by decide) (hts (.fieldLink RX2 17 "PrinterRows" "columns" "I") (by decide +kernel)) (fun _ h9 => h9) rfl dX2_printRecord_36 ?_
        refine lv_icmp_lt (tgt := 55) hx hb dX2_printRecord_39 (by decide) (fun c_39 => ?_) (fun c_39 => ?_)
        ·
          have hiC : i < C := (nI_ltI (by omega) (by omega)).mp c_39
          refine lv_aload_n hx hb dX2_printRecord_55 rfl (lv_at hl 1 rfl) ?_
          refine lv_ifnull hx hb dX2_printRecord_56 ?_
          refine lv_aload_n hx hb dX2_printRecord_59 rfl (lv_at hl 0 rfl) ?_
          refine lv_aload_n hx hb dX2_printRecord_60 rfl (lv_at hl 1 rfl) ?_
          refine lv_iload_n hx hb dX2_printRecord_61 rfl (lv_at hl 2 rfl) ?_
          refine lv_aload_n hx hb dX2_printRecord_62 rfl (lv_at hl 0 rfl) ?_
          refine va_get (D := D) (ci := 3) (v := .ref aR) (C := RX2) (T := TX2) (N := 16) hx hb hts hinX2 hown hK.1 hP 0 rfl rfl 4 (by decide) (hts (.fieldLink RX2 33 "PrinterRows" "record" "[I") (by decide +kernel)) (fun _ h9 => h9) rfl dX2_printRecord_63 ?_
          refine lv_iload_n hx hb dX2_printRecord_66 rfl (lv_at hl 2 rfl) ?_
          refine va_iald hx hb hK.1 hP 3 0 rfl rfl (vp_in_nI (by omega) (by decide)) dX2_printRecord_67 ?_
          refine lv_topi (fun x_67 ex_67 => ?_)
          obtain rfl : x_67 = rc i := ex_67.trans (by rw [nI_clamp (by omega)])
          obtain ⟨z, hz, hzy, hzv⟩ : ∃ z : Nat, (z = 1 ∨ rowT cR plv L C a st ∨ tr (rc i).toNatClampNeg = 32) ∧ y + z ≤ 1 ∧ (z = 1 → ¬ tr (rc i).toNatClampNeg = 32) := by
            by_cases h1 : tr (rc i).toNatClampNeg = 32
            · exact ⟨0, Or.inr (Or.inr h1), hy1, fun h => absurd h (by decide)⟩
            · by_cases h2 : rowT cR plv L C a st
              · exact ⟨0, Or.inr (Or.inl h2), hy1, fun h => absurd h (by decide)⟩
              · exact ⟨1, Or.inl rfl, by rcases hy with h3 | h3; (omega); (exact absurd h3 h2), fun _ => h1⟩
          refine callQv (va_runV (As := [.ref a, .int (nI i), .int (rc i)]) (rest := []) ⟨hx, hb, hml, hown, hts⟩ (c_X2_printSign l hL hC hst i hiC (rc i) (hrc i hlt) hb0 hPI9 hpa hsep z hz) (cwV 3 hts gX2_printRecord_X2_printSign rfl rfl rfl (by decide +kernel) ⟨(Nat.le_of_ble_eq_true rfl), (Nat.le_of_ble_eq_true rfl)⟩) (mu_pre hK hP hD rfl 0 rfl) rfl rfl hl.1 rfl (lv_room (Nat.le_of_ble_eq_true rfl)) dX2_printRecord_68 ⟨by show 2 + 2 * y + 2 * z ≤ 4; omega, by show 68 + 133 * y + 133 * z ≤ 201; omega⟩) hD hS hA (fun u_68 H locs w_68 hP hD hS => ?_)
          obtain ⟨pl2, sp2⟩ := u_68
          obtain ⟨own2, hPI2, hsp2, hrn, hrk⟩ := w_68
          dsimp only at hPI2 hsp2 hrn hrk
          have hP : va_P D vwCl (wX cI cP x aC aT aR aP (nI L) (nI C) (nI rl) (nI bg1) (zb true) (nI st) mk rp sp2 scv sk fa ch tr rc pg1 pl2) H := hP
          have hD : va_D A (wX cI cP x aC aT aR aP (nI L) (nI C) (nI rl) (nI bg1) (zb true) (nI st) mk rp sp2 scv sk fa ch tr rc pg1 pl2) := hD
          refine W.widen (k := 2 + 2 * (y + z)) (n := 68 + 133 * (y + z)) (by omega) (by omega) ?_
          refine lv_iinc (v := (nI (i + 1))) (lv' := [(2, .int (nI (i + 1))), (0, .ref x), (1, .ref a)]) hx hb dX2_printRecord_71 hl (k := 2) rfl (nI_1 i) (by decide) rfl (fun ls hl => ?_)
          refine lv_goto (tgt := 17) hx hb dX2_printRecord_74 (by decide) ?_
          exact ih (i + 1) pl2 sp2 scv (y + z) _ _ _ (by omega) (by omega) (⟨own2, PI.congr (Nat.le_refl _) (fun _ _ => rfl) (fun q l c h7 h8 h9 => MP_step hMG1 q l c h7 h8 h9) hPI2⟩) (sp_step hiC hsp2 hsp) (by rw [hsc]; show _ = sc + (cC C i + _); rw [if_neg (Nat.not_le.mpr hiC), Int32.add_zero]) (by omega) (by rcases Nat.eq_zero_or_pos z with h9 | h9; (rcases hy with h8 | h8; (left; omega); (right; exact hrk h8)); (right; exact hrn (hzv (by omega)))) hP hD hS (lv_sub hl [1, 2, 0] rfl)
        ·
          have hCi : C ≤ i := Nat.le_of_not_lt (fun h9 => c_39 (nI_lt h9 (by omega)))
          refine lv_aload_n hx hb dX2_printRecord_42 rfl (lv_at hl 0 rfl) ?_
          refine lv_dup hx hb dX2_printRecord_43 rfl ?_
          refine va_get (D := D) (ci := 3) (v := .int scv) (C := RX2) (T := TX2) (N := 16) hx hb hts hinX2 hown hK.1 hP 0 rfl rfl 13 (by decide) (hts (.fieldLink RX2 138 "PrinterRows" "signsCut" "I") (by decide +kernel)) (fun _ h9 => h9) rfl dX2_printRecord_44 ?_
          refine lv_iconst (v := 1) hx hb dX2_printRecord_47 (by decide +kernel) ?_
          refine lv_iadd hx hb dX2_printRecord_48 ?_
          refine va_put (D := D) (ci := 3) (v := .int (scv + 1)) (ty := .int) (C := RX2) (T := TX2) (N := 16) hx hb hts hinX2 tyX2 tyX2_ok nmX2 hown hK.1 hP hD hS 0 rfl rfl 13 (by decide) (hts (.fieldLink RX2 138 "PrinterRows" "signsCut" "I") (by decide +kernel)) (fun _ h9 => h9) rfl (by decide +kernel) rfl rfl (Nat.le_of_ble_eq_true rfl) dX2_printRecord_49 (fun H locs hP hD hS => ?_)
          have hP : va_P D vwCl (wX cI cP x aC aT aR aP (nI L) (nI C) (nI rl) (nI bg1) (zb true) (nI st) mk rp spv (scv + 1) sk fa ch tr rc pg1 plv) H := hP
          have hD : va_D A (wX cI cP x aC aT aR aP (nI L) (nI C) (nI rl) (nI bg1) (zb true) (nI st) mk rp spv (scv + 1) sk fa ch tr rc pg1 plv) := hD
          refine lv_goto (tgt := 71) hx hb dX2_printRecord_52 (by decide) ?_
          refine lv_iinc (v := (nI (i + 1))) (lv' := [(2, .int (nI (i + 1))), (0, .ref x), (1, .ref a)]) hx hb dX2_printRecord_71 hl (k := 2) rfl (nI_1 i) (by decide) rfl (fun ls hl => ?_)
          refine lv_goto (tgt := 17) hx hb dX2_printRecord_74 (by decide) ?_
          exact ih (i + 1) plv spv (scv + 1) y _ _ _ (by omega) (by omega) (⟨own9, PI.congr (Nat.le_refl _) (fun _ _ => rfl) (fun q l c _ _ h9 => MP_cut hCi q l c h9) hPI9⟩) (by rw [hsp]; show _ = sp + (cS tr rc C i + _); rw [if_pos hCi, Int32.add_zero]) (by rw [hsc, Int32.add_assoc]; show _ = sc + (cC C i + _); rw [if_pos hCi]) (hy1) (hy) hP hD hS (lv_sub hl [1, 2, 0] rfl)
  exact loop (rl + 1) 0 pl1 sp sc 0 _ _ _ (Nat.zero_le _) (by omega) (⟨own1, by rw [MP_0]; exact hPI1⟩) ((Int32.add_zero _).symm) ((Int32.add_zero _).symm) (Nat.zero_le _) (Or.inl rfl) hP hD hS (lv_sub hl [2, 1, 0] rfl)
end
section
/-! skip and line -/
theorem div_step {a L : Nat} (hL : 0 < L) (h : a % L + 1 < L) : (a + 1) / L = a / L ∧ (a + 1) % L = a % L + 1 := by
  have e : a + 1 = (a % L + 1) + L * (a / L) := by have := Nat.div_add_mod a L; omega
  constructor
  · rw [e, Nat.add_mul_div_left _ _ hL, Nat.div_eq_of_lt h, Nat.zero_add]
  · conv => lhs; rw [e]
    rw [Nat.add_mul_mod_self_left, Nat.mod_eq_of_lt h]
theorem div_turn {a L : Nat} (hL : 0 < L) (h : ¬ a % L + 1 < L) : (a + 1) / L = a / L + 1 ∧ (a + 1) % L = 0 := by
  have hm := Nat.mod_lt a hL
  have e : a + 1 = 0 + L * (a / L + 1) := by have := Nat.div_add_mod a L; rw [Nat.mul_add]; omega
  constructor
  · rw [e, Nat.add_mul_div_left _ _ hL, Nat.zero_div, Nat.zero_add]
  · rw [e, Nat.add_mul_mod_self_left, Nat.zero_mod]
/-- where n lines lead -/
theorem mvn_eq {L : Nat} (hL : 0 < L) (bg st : Nat) (on : Bool) (hst : st < L) (n : Nat) : mvn L n (bg, st, on) = if (st + n) / L = 0 then (bg, st + n, on) else ((if on then bg + ((st + n) / L - 1) else bg + (st + n) / L), (st + n) % L, false) := by
  induction n with
  | zero =>
    rw [Nat.add_zero, if_pos (Nat.div_eq_of_lt hst)]
    rfl
  | succ n ih =>
    show mv1 L (mvn L n (bg, st, on)) = _
    rw [ih]
    by_cases h0 : (st + n) / L = 0
    · have hlt : st + n < L := by have h8 := Nat.div_add_mod (st + n) L; have h9 := Nat.mod_lt (st + n) hL; rw [h0] at h8; omega
      have hmod : (st + n) % L = st + n := Nat.mod_eq_of_lt hlt
      rw [if_pos h0]
      unfold mv1
      dsimp only
      by_cases h1 : st + n + 1 < L
      · obtain ⟨q1, q2⟩ := div_step hL (a := st + n) (by omega)
        rw [if_pos h1, ← Nat.add_assoc, q1, if_pos h0]
      · obtain ⟨q1, q2⟩ := div_turn hL (a := st + n) (by omega)
        rw [if_neg h1, ← Nat.add_assoc, q1, q2, h0, if_neg (Nat.succ_ne_zero 0)]
        cases on <;> rfl
    · rw [if_neg h0]
      unfold mv1
      dsimp only
      by_cases h1 : (st + n) % L + 1 < L
      · obtain ⟨q1, q2⟩ := div_step hL (a := st + n) h1
        rw [if_pos h1, ← Nat.add_assoc, q1, q2, if_neg h0]
      · obtain ⟨q1, q2⟩ := div_turn hL (a := st + n) h1
        rw [if_neg h1, ← Nat.add_assoc, q1, q2, if_neg (Nat.succ_ne_zero _)]
        cases on
        · simp only [Bool.false_eq_true, if_false]; rw [Nat.add_assoc]
        · have h9 : bg + ((st + n) / L - 1) + 1 = bg + ((st + n) / L + 1 - 1) := by generalize (st + n) / L = d at h0 ⊢; omega
          simp only [if_true, Bool.false_eq_true, if_false, h9]
theorem fit_move {L bg st w : Nat} {on : Bool} (hL : 0 < L) (hst : st < L) (hbg : bg ≤ 40) (hon : on = true → 0 < bg) : sP bg on + (st + w) / L ≤ 40 ↔ (mvn L w (bg, st, on)).1 ≤ 40 := by
  rw [mvn_eq hL bg st on hst w]
  unfold sP
  generalize (st + w) / L = d
  by_cases h : d = 0
  · rw [if_pos h]; subst h; cases on <;> simp <;> omega
  · rw [if_neg h]; cases on
    · simp
    · have := hon rfl; simp; omega
theorem fit_after {L bg st w : Nat} {on : Bool} (hL : 0 < L) (hst : st < L) (hbg : bg ≤ 40) (hon : on = true → 0 < bg) : sP bg on + (st + w) / L < 40 ↔ bgB (mvn L w (bg, st, on)).1 (mvn L w (bg, st, on)).2.2 ≤ 40 := by
  rw [mvn_eq hL bg st on hst w]
  unfold sP bgB
  generalize (st + w) / L = d
  by_cases h : d = 0
  · rw [if_pos h]; subst h; cases on <;> simp <;> omega
  · rw [if_neg h]; cases on
    · simp; omega
    · have := hon rfl; simp; omega
theorem fit_second {L bg st w : Nat} {on : Bool} (hL : 0 < L) (hst : st < L) (hbg : bg ≤ 40) (hon : on = true → 0 < bg) : (sP bg on < 40 ∧ sP bg on + (st + w) / L ≤ 40) ↔ (mvn L w (bgB bg on, st, true)).1 ≤ 40 := by
  rw [mvn_eq hL _ st true hst w]
  unfold sP bgB
  generalize (st + w) / L = d
  by_cases h : d = 0
  · rw [if_pos h]; subst h; cases on <;> simp <;> omega
  · rw [if_neg h]; cases on
    · simp; omega
    · have := hon rfl; simp; omega
theorem wyN_le {L st : Nat} {v : Int32} (hst : st < L) (hL : L ≤ 66) (h : chOK L v) : wyN L st v ≤ L := by
  unfold wyN
  rcases h with h | ⟨j, hj, h⟩
  · rw [if_pos h]; exact Nat.le_refl _
  · by_cases e : v = -1
    · rw [if_pos e]; exact Nat.le_refl _
    · rw [if_neg e, h, nI_clamp (by omega)]
      by_cases q : st < j
      · rw [if_pos q]; omega
      · rw [if_neg q]; omega
theorem isCh_nI {c : Int32} (h : isCh c = true) : ∃ k : Nat, 1 ≤ k ∧ k ≤ 12 ∧ c = nI k := by
  have h1 := isCh_iff.mp h
  refine ⟨c.toInt.toNat, by omega, by omega, i32_ext ?_⟩
  rw [nI_toInt (by omega)]; omega
theorem c_X2_wayToI (l : Launch) {D : va_G} {cI cP cR cJ : ClassId} {x aC aT aR aP L C rl bg st : Nat} {on : Bool} {mk rp sp sc sk fa : Int32} {ch tr rc : Nat → Int32} {pg : Nat → Option Nat} {pl : va_W} (hL0 : 0 < L) (hL : L ≤ 66) (hst : st < L) (hch : ∀ k, 1 ≤ k → k ≤ 12 → chOK L (ch k)) (c0 : Int32) (hc : isCh c0 = true) : Met l yX2_wayTo wsX2_wayTo ({ frames := 1, cells := 0, slots := 0, locals := 20 }) (ro [.ref x, .int c0] D cI cP cR cJ (wX cI cP x aC aT aR aP (nI L) (nI C) (nI rl) (nI bg) (zb on) (nI st) mk rp sp sc sk fa ch tr rc pg pl)) (vp_Si (fun r => r = nI (wyN L st (ch c0.toNatClampNeg)))) 0 0 (fun _ => False) := by
  obtain ⟨k, h1, h2, rfl⟩ := isCh_nI hc
  rw [nI_clamp (by omega)]
  exact c_X2_wayTo l hL0 hL hst k h1 h2 (hch k h1 h2)
theorem lnOf_nI (c : Int32) : ∃ k : Nat, k ≤ 3 ∧ lnOf c = nI k := by
  unfold lnOf
  by_cases h : zb (isPl c) = 0
  · rw [if_pos h]
    by_cases h1 : c = 43
    · rw [if_pos h1]; exact ⟨0, by decide, rfl⟩
    · rw [if_neg h1]
      by_cases h2 : c = 45
      · rw [if_pos h2]; exact ⟨3, by decide, rfl⟩
      · rw [if_neg h2]
        by_cases h3 : c = 48
        · rw [if_pos h3]; exact ⟨2, by decide, rfl⟩
        · rw [if_neg h3]; exact ⟨1, by decide, rfl⟩
  · rw [if_neg h]
    have h1 := zb1.mp h
    unfold isPl at h1
    by_cases q1 : c < 256
    · rw [if_pos q1] at h1; cases h1
    · rw [if_neg q1] at h1
      by_cases q2 : 259 < c
      · rw [if_pos q2] at h1; cases h1
      · rw [i32_lt] at q1 q2
        have e1 : (256 : Int32).toInt = 256 := rfl
        have e2 : (259 : Int32).toInt = 259 := rfl
        refine ⟨(c.toInt - 256).toNat, by omega, i32_ext ?_⟩
        rw [nI_toInt (by omega)]
        have h4 := i32 c
        have h5 := i32 (c - 256)
        rcases i32_sub c 256 with e | e | e <;> rw [e1] at e <;> omega
/-- how many lines a code moves by -/
def lwy (L st : Nat) (ch : Nat → Int32) (c : Int32) : Nat := if zb (isCh (chOf c)) = 0 then (lnOf c).toNatClampNeg else wyN L st (ch (chOf c).toNatClampNeg)
theorem lwy_le {L st : Nat} {ch : Nat → Int32} (hst : st < L) (hL : L ≤ 66) (hch : ∀ k, 1 ≤ k → k ≤ 12 → chOK L (ch k)) (c : Int32) : lwy L st ch c ≤ 66 := by
  unfold lwy
  by_cases h : zb (isCh (chOf c)) = 0
  · rw [if_pos h]
    obtain ⟨k, h1, h2⟩ := lnOf_nI c
    rw [h2, nI_clamp (by omega)]; omega
  · rw [if_neg h]
    obtain ⟨k, h1, h2, h3⟩ := isCh_nI (zb1.mp h)
    rw [h3, nI_clamp (by omega)]
    have := wyN_le hst hL (hch k h1 h2)
    omega
/-- where a record by a code leaves the printer, and where it is printed -/
def lnT (L bg st : Nat) (on : Bool) (sec : Bool) (w : Nat) : Nat × Nat × Bool := if sec then mvn L w (bgB bg on, st, true) else (bgB (mvn L w (bg, st, on)).1 (mvn L w (bg, st, on)).2.2, (mvn L w (bg, st, on)).2.1, true)
def lnQ (L bg st : Nat) (on : Bool) (sec : Bool) (w : Nat) : Nat := if sec then bgB bg on - 1 else bgB (mvn L w (bg, st, on)).1 (mvn L w (bg, st, on)).2.2 - 1
def lnI (L bg st : Nat) (on : Bool) (sec : Bool) (w : Nat) : Nat := if sec then st else (mvn L w (bg, st, on)).2.1
def skT (L st : Nat) (ch : Nat → Int32) (bg : Nat) (on : Bool) (c : Int32) : Nat × Nat × Bool := mvn L (wyN L st (ch c.toNatClampNeg)) (bg, st, on)
def skO (L st : Nat) (ch : Nat → Int32) (bg : Nat) (on : Bool) (c : Int32) : Bool := if zb (isCh c) = 0 then false else decide ((skT L st ch bg on c).1 ≤ 40)
def skR (L st : Nat) (ch : Nat → Int32) (bg : Nat) (on : Bool) (c : Int32) : Int32 := if zb (isCh c) = 0 then 0 else if (skT L st ch bg on c).1 ≤ 40 then (if ¬ ch c.toNatClampNeg = -1 then nI (wyN L st (ch c.toNatClampNeg)) else -1) else -6
theorem MP_MB {M : Nat → Nat → Nat → Int32} {bg b1 i0 n : Nat} {tr rc : Nat → Int32} (hb : bg ≤ b1) (h0 : 0 < b1) : MB b1 (MP (MB bg M) (b1 - 1) i0 tr rc n) = MP (MB bg M) (b1 - 1) i0 tr rc n := by
  funext q i c
  by_cases h : q < b1
  · exact if_pos h
  · have e1 : MB b1 (MP (MB bg M) (b1 - 1) i0 tr rc n) q i c = 32 := if_neg h
    rw [e1]
    unfold MP
    rw [if_neg (fun z => by omega)]
    unfold MB
    rw [if_neg (by omega)]

set_option maxHeartbeats 1000000 in
set_option maxRecDepth 100000 in
theorem c_X2_skip (l : Launch) {D : va_G} {cI cP cR cJ : ClassId} {x aC aT aR aP L C rl bg st : Nat} {on : Bool} {mk rp sp sc sk fa : Int32} {ch tr rc : Nat → Int32} {pg : Nat → Option Nat} {pl : va_W} {own : Nat → Nat × Nat} {M : Nat → Nat → Nat → Int32} {sz : Nat} (hL0 : 0 < L) (hL : L ≤ 66) (hC : C ≤ 132) (hst : st < L) (hbg : bg ≤ 40) (hch : ∀ k, 1 ≤ k → k ≤ 12 → chOK L (ch k)) (hPI : PI cI cR pl own L C bg pg M) (hCS : CS on bg pg) (c0 : Int32) : Met l yX2_skip wsX2_skip ({ frames := 4, cells := 132, slots := 4488, locals := 79 }) (mu [.ref x, .int c0] D cI cP cR cJ (wX cI cP x aC aT aR aP (nI L) (nI C) (nI rl) (nI bg) (zb on) (nI st) mk rp sp sc sk fa ch tr rc pg pl) sz) (qi D (fun (r : Int32) (u : va_W × (Nat → Option Nat) × Nat × Nat × Bool × Int32) => r = skR L st ch bg on c0 ∧ (u.2.2.1, u.2.2.2.1, u.2.2.2.2.1) = (if skO L st ch bg on c0 then skT L st ch bg on c0 else (bg, st, on)) ∧ u.2.2.2.2.2 = (if skO L st ch bg on c0 then skN ch sk c0 else sk) ∧ (∃ own' : Nat → Nat × Nat, PI cI cR u.1 own' L C u.2.2.1 u.2.1 (MB bg M)) ∧ CS u.2.2.2.2.1 u.2.2.1 u.2.1) (fun u : va_W × (Nat → Option Nat) × Nat × Nat × Bool × Int32 => wX cI cP x aC aT aR aP (nI L) (nI C) (nI rl) (nI u.2.2.1) (zb u.2.2.2.2.1) (nI u.2.2.2.1) mk rp sp sc u.2.2.2.2.2 fa ch tr rc u.2.1 u.1) (va_A (wX cI cP x aC aT aR aP (nI L) (nI C) (nI rl) (nI bg) (zb on) (nI st) mk rp sp sc sk fa ch tr rc pg pl) sz)) 132 4488 (va_A (wX cI cP x aC aT aR aP (nI L) (nI C) (nI rl) (nI bg) (zb on) (nI st) mk rp sp sc sk fa ch tr rc pg pl) sz) := by
  refine Met.ofW (cc := cX2_skip) (maxL := 3) (ret := (some .int)) (by decide) rfl ?_
  intro p e s m args below meth c s₁ B hml hv
  obtain ⟨rfl, hsz, hP, hK, hD0⟩ := hv
  have hx := B.exec
  have hb := B.bytes
  have hr := B.returns
  have hts := atoms_spec (ws := wsX2_skip) B.pre
  have hown : s.vm.findClass RX2 = some m.cls := findClass_of_methodNamed B.named
  have hlocks := B.notSynchronized
  have hinX0 : ∀ w ∈ wsX00, w ∈ wsX2_skip := by decide +kernel
  have hinX2 : ∀ w ∈ wsX20, w ∈ wsX2_skip := by decide +kernel
  subst hsz
  have hD := hD0.self (sz := s.heap.size)
  generalize hAe : va_A (wX cI cP x aC aT aR aP (nI L) (nI C) (nI rl) (nI bg) (zb on) (nI st) mk rp sp sc sk fa ch tr rc pg pl) s.heap.size = A at hD ⊢
  have hA : ∀ q : Nat, s.heap.size ≤ q → A q := fun q h => by rw [← hAe]; exact Or.inr h
  have hS : va_S A s.heap s.heap [] := va_S.rf
  have hP : va_P D vwCl (wX cI cP x aC aT aR aP (nI L) (nI C) (nI rl) (nI bg) (zb on) (nI st) mk rp sp sc sk fa ch tr rc pg pl) s.heap := hP
  have hl := lv_entry ([.ref x, .int c0]) (n := 3) (Nat.le_of_ble_eq_true rfl)
  rw [lg_entry_eq]
  generalize (lg_sl ([.ref x, .int c0]) ++ List.replicate (3 - (lg_sl ([.ref x, .int c0])).length) Slot.unset).toArray = ls at hl ⊢
  have hl : lv_has ls 3 [(0, .ref x), (1, .int c0)] := hl
  have hon : on = true → 0 < bg := fun h9 => (hCS h9).1
  refine lv_iload_n hx hb dX2_skip_0 rfl (lv_at hl 1 rfl) ?_
  refine vp_callSi (W.runS (As := [.int c0]) (rest := []) ⟨hx, hb, hml, hown, hts⟩ (c_X2_isChannel l (c0)) (va_cwS 1 hts gX2_skip_X2_isChannel rfl rfl rfl (by decide +kernel) ⟨(Nat.le_of_ble_eq_true rfl), (Nat.le_of_ble_eq_true rfl)⟩) pu_pre rfl rfl hl.1 rfl (lv_room (Nat.le_of_ble_eq_true rfl)) dX2_skip_1 ⟨(Nat.le_of_ble_eq_true rfl), (Nat.le_of_ble_eq_true rfl)⟩) (fun r_1 w_1 => ?_)
  subst w_1
  refine lv_if_ne (tgt := 9) hx hb dX2_skip_4 (by decide) (fun c_4 => ?_) (fun c_4 => ?_)
  ·
    have hwl : (wyN L st (ch c0.toNatClampNeg)) ≤ 66 := by
      obtain ⟨k9, h7, h8, h9⟩ := isCh_nI (zb1.mp c_4)
      rw [h9, nI_clamp (by omega)]
      exact Nat.le_trans (wyN_le hst hL (hch k9 h7 h8)) hL
    refine lv_aload_n hx hb dX2_skip_9 rfl (lv_at hl 0 rfl) ?_
    refine lv_iload_n hx hb dX2_skip_10 rfl (lv_at hl 1 rfl) ?_
    refine vp_callSi (W.runV (As := [.int c0]) (rest := []) ⟨hx, hb, hml, hown, hts⟩ (c_X2_wayToI l hL0 hL hst hch c0 (zb1.mp c_4)) (cwV 1 hts gX2_skip_X2_wayTo rfl rfl rfl (by decide +kernel) ⟨(Nat.le_of_ble_eq_true rfl), (Nat.le_of_ble_eq_true rfl)⟩) (ro_pre hK hP rfl 0 rfl) rfl rfl hl.1 rfl (lv_room (Nat.le_of_ble_eq_true rfl)) dX2_skip_11 ⟨(Nat.le_of_ble_eq_true rfl), (Nat.le_of_ble_eq_true rfl)⟩) (fun r_11 w_11 => ?_)
    subst w_11
    refine lv_istore_n (lv' := [(2, .int (nI (wyN L st (ch c0.toNatClampNeg)))), (0, .ref x), (1, .int c0)]) hx hb dX2_skip_14 rfl hl (by decide) rfl (fun ls hl => ?_)
    refine lv_aload_n hx hb dX2_skip_15 rfl (lv_at hl 1 rfl) ?_
    refine lv_iload_n hx hb dX2_skip_16 rfl (lv_at hl 0 rfl) ?_
    refine vp_callSi (W.runV (As := [.int (nI (wyN L st (ch c0.toNatClampNeg)))]) (rest := []) ⟨hx, hb, hml, hown, hts⟩ (c_X2_canMove l hon hbg hL0 hL hst (wyN L st (ch c0.toNatClampNeg)) (by omega)) (cwV 1 hts gX2_skip_X2_canMove rfl rfl rfl (by decide +kernel) ⟨(Nat.le_of_ble_eq_true rfl), (Nat.le_of_ble_eq_true rfl)⟩) (ro_pre hK hP rfl 0 rfl) rfl rfl hl.1 rfl (lv_room (Nat.le_of_ble_eq_true rfl)) dX2_skip_17 ⟨(Nat.le_of_ble_eq_true rfl), (Nat.le_of_ble_eq_true rfl)⟩) (fun r_17 w_17 => ?_)
    subst w_17
    refine lv_if_ne (tgt := 26) hx hb dX2_skip_20 (by decide) (fun c_20 => ?_) (fun c_20 => ?_)
    ·
      have hfit : (skT L st ch bg on c0).1 ≤ 40 := (fit_move hL0 hst hbg hon).mp (of_decide_eq_true (zb1.mp c_20))
      have hok : skO L st ch bg on c0 = true := by rw [skO, if_neg c_4, decide_eq_true hfit]
      refine lv_aload_n hx hb dX2_skip_26 rfl (lv_at hl 1 rfl) ?_
      refine lv_iload_n hx hb dX2_skip_27 rfl (lv_at hl 0 rfl) ?_
      refine callQv (va_runV (As := [.int (nI (wyN L st (ch c0.toNatClampNeg)))]) (rest := []) ⟨hx, hb, hml, hown, hts⟩ (c_X2_moveBy l hL0 hL hst hbg hPI hCS (wyN L st (ch c0.toNatClampNeg)) hwl hfit) (cwV 1 hts gX2_skip_X2_moveBy rfl rfl rfl (by decide +kernel) ⟨(Nat.le_of_ble_eq_true rfl), (Nat.le_of_ble_eq_true rfl)⟩) (mu_pre hK hP hD rfl 0 rfl) rfl rfl hl.1 rfl (lv_room (Nat.le_of_ble_eq_true rfl)) dX2_skip_28 ⟨(Nat.le_of_ble_eq_true rfl), (Nat.le_of_ble_eq_true rfl)⟩) hD hS hA (fun u_28 H locs w_28 hP hD hS => ?_)
      obtain ⟨pl1, pg1, bg1, st1, on1⟩ := u_28
      obtain ⟨hmv, hpg1, hPI1, hCS1⟩ := w_28
      dsimp only at hmv hpg1 hPI1 hCS1
      have hP : va_P D vwCl (wX cI cP x aC aT aR aP (nI L) (nI C) (nI rl) (nI bg1) (zb on1) (nI st1) mk rp sp sc sk fa ch tr rc pg1 pl1) H := hP
      have hD : va_D A (wX cI cP x aC aT aR aP (nI L) (nI C) (nI rl) (nI bg1) (zb on1) (nI st1) mk rp sp sc sk fa ch tr rc pg1 pl1) := hD
      refine lv_aload_n hx hb dX2_skip_31 rfl (lv_at hl 1 rfl) ?_
      refine lv_iload_n hx hb dX2_skip_32 rfl (lv_at hl 2 rfl) ?_
      refine callQv (va_runV (As := [.int c0]) (rest := []) ⟨hx, hb, hml, hown, hts⟩ (c_X2_countSkip l c0) (cwV 1 hts gX2_skip_X2_countSkip rfl rfl rfl (by decide +kernel) ⟨(Nat.le_of_ble_eq_true rfl), (Nat.le_of_ble_eq_true rfl)⟩) (mu_pre hK hP hD rfl 0 rfl) rfl rfl hl.1 rfl (lv_room (Nat.le_of_ble_eq_true rfl)) dX2_skip_33 ⟨(Nat.le_of_ble_eq_true rfl), (Nat.le_of_ble_eq_true rfl)⟩) hD hS hA (fun u_33 H locs w_33 hP hD hS => ?_)
      subst w_33
      have hP : va_P D vwCl (wX cI cP x aC aT aR aP (nI L) (nI C) (nI rl) (nI bg1) (zb on1) (nI st1) mk rp sp sc (skN ch sk c0) fa ch tr rc pg1 pl1) H := hP
      have hD : va_D A (wX cI cP x aC aT aR aP (nI L) (nI C) (nI rl) (nI bg1) (zb on1) (nI st1) mk rp sp sc (skN ch sk c0) fa ch tr rc pg1 pl1) := hD
      refine lv_aload_n hx hb dX2_skip_36 rfl (lv_at hl 1 rfl) ?_
      refine va_get (D := D) (ci := 3) (v := .ref aC) (C := RX2) (T := TX2) (N := 16) hx hb hts hinX2 hown hK.1 hP 0 rfl rfl 2 (by decide) (hts (.fieldLink RX2 20 "PrinterRows" "channelLines" "[I") (by decide +kernel)) (fun _ h9 => h9) rfl dX2_skip_37 ?_
      refine lv_iload_n hx hb dX2_skip_40 rfl (lv_at hl 2 rfl) ?_
      refine va_iald hx hb hK.1 hP 1 0 rfl rfl (isCh_in c_4) dX2_skip_41 ?_
      refine lv_iconst (v := (-1)) hx hb dX2_skip_42 (by decide +kernel) ?_
      refine lv_icmp_ne (tgt := 50) hx hb dX2_skip_43 (by decide) (fun c_43 => ?_) (fun c_43 => ?_)
      ·
        refine lv_iload_n hx hb dX2_skip_50 rfl (lv_at hl 0 rfl) ?_
        refine W.widen (k := 132) (n := 4488) (by omega) (by omega) ?_
        exact W.iret (v := (nI (wyN L st (ch c0.toNatClampNeg)))) hx hb hr (fun t ht hW => ⟨⟨_, (pl1, pg1, bg1, st1, on1, skN ch sk c0), rfl, ⟨by rw [skR, if_neg c_4, if_pos hfit, if_pos c_43], by rw [hok]; exact hmv, by rw [hok]; rfl, hPI1, hCS1⟩, by rw [ht]; exact hP, hD⟩, hS.F ht⟩) hS.2.2 dX2_skip_51
      ·
        refine lv_iconst (v := (-1)) hx hb dX2_skip_46 (by decide +kernel) ?_
        refine lv_goto (tgt := 51) hx hb dX2_skip_47 (by decide) ?_
        refine W.widen (k := 132) (n := 4488) (by omega) (by omega) ?_
        exact W.iret (v := (-1)) hx hb hr (fun t ht hW => ⟨⟨_, (pl1, pg1, bg1, st1, on1, skN ch sk c0), rfl, ⟨by rw [skR, if_neg c_4, if_pos hfit, if_neg (fun h9 => h9 c_43)], by rw [hok]; exact hmv, by rw [hok]; rfl, hPI1, hCS1⟩, by rw [ht]; exact hP, hD⟩, hS.F ht⟩) hS.2.2 dX2_skip_51
    ·
      have hfit : ¬ (skT L st ch bg on c0).1 ≤ 40 := fun h9 => absurd ((fit_move hL0 hst hbg hon).mpr h9) (of_decide_eq_false (zb0.mp c_20))
      have hok : skO L st ch bg on c0 = false := by rw [skO, if_neg c_4, decide_eq_false hfit]
      refine lv_bipush (v := (-6)) hx hb dX2_skip_23 (by decide +kernel) ?_
      refine W.widen (k := 132) (n := 4488) (by omega) (by omega) ?_
      exact W.iret (v := (-6)) hx hb hr (fun t ht hW => ⟨⟨_, (pl, pg, bg, st, on, sk), rfl, ⟨by rw [skR, if_neg c_4, if_neg hfit], by rw [hok]; rfl, by rw [hok]; rfl, ⟨own, PI.congr (Nat.le_refl _) (fun _ _ => rfl) (fun q i c hq _ _ => by unfold MB; rw [if_pos hq]) hPI⟩, hCS⟩, by rw [ht]; exact hP, hD⟩, hS.F ht⟩) hS.2.2 dX2_skip_25
  ·
    refine lv_iconst (v := 0) hx hb dX2_skip_7 (by decide +kernel) ?_
    refine W.widen (k := 132) (n := 4488) (by omega) (by omega) ?_
    exact W.iret (v := 0) hx hb hr (fun t ht hW => ⟨⟨_, (pl, pg, bg, st, on, sk), rfl, ⟨by rw [skR, if_pos c_4], by rw [skO, if_pos c_4]; rfl, by rw [skO, if_pos c_4]; rfl, ⟨own, PI.congr (Nat.le_refl _) (fun _ _ => rfl) (fun q i c hq _ _ => by unfold MB; rw [if_pos hq]) hPI⟩, hCS⟩, by rw [ht]; exact hP, hD⟩, hS.F ht⟩) hS.2.2 dX2_skip_8

set_option maxHeartbeats 1000000 in
set_option maxRecDepth 100000 in
theorem c_X2_line (l : Launch) {D : va_G} {cI cP cR cJ : ClassId} {x aC aT aR aP L C rl bg st : Nat} {on : Bool} {mk rp sp sc sk fa : Int32} {ch tr rc : Nat → Int32} {pg : Nat → Option Nat} {pl : va_W} {own : Nat → Nat × Nat} {M : Nat → Nat → Nat → Int32} {sz : Nat} (hL0 : 0 < L) (hL : L ≤ 66) (hC : C ≤ 132) (hst : st < L) (hbg : bg ≤ 40) (hch : ∀ k, 1 ≤ k → k ≤ 12 → chOK L (ch k)) (hPI : PI cI cR pl own L C bg pg M) (hCS : CS on bg pg) (hrl : rl ≤ 200) (hrc : ∀ j, j < rl → isSg (rc j) = true) (hMG : MG L C bg M) (c0 : Int32) (w : Nat) (hw : w = lwy L st ch c0) : Met l yX2_line wsX2_line ({ frames := 6, cells := 136, slots := 4689, locals := 125 }) (mu [.ref x, .int c0] D cI cP cR cJ (wX cI cP x aC aT aR aP (nI L) (nI C) (nI rl) (nI bg) (zb on) (nI st) mk rp sp sc sk fa ch tr rc pg pl) sz) (qi D (fun (r : Int32) (u : va_W × (Nat → Option Nat) × Nat × Nat × Bool × Nat × Int32 × Int32 × Int32 × Int32) => ((lnT L bg st on (isSk c0) w).1 ≤ 40 ∧ r = nI (lnT L bg st on (isSk c0) w).1 ∧ (u.2.2.1, u.2.2.2.1, u.2.2.2.2.1) = (lnT L bg st on (isSk c0) w) ∧ u.2.2.2.2.2.1 = 0 ∧ u.2.2.2.2.2.2.1 = rp + 1 ∧ u.2.2.2.2.2.2.2.1 = sp + cS tr rc C rl ∧ u.2.2.2.2.2.2.2.2.1 = sc + cC C rl ∧ u.2.2.2.2.2.2.2.2.2 = skN ch sk (chOf c0) ∧ (∃ own' : Nat → Nat × Nat, PI cI cR u.1 own' L C u.2.2.1 u.2.1 (MP (MB bg M) (lnQ L bg st on (isSk c0) w) (lnI L bg st on (isSk c0) w) tr rc rl)) ∧ CS u.2.2.2.2.1 u.2.2.1 u.2.1) ∨ (¬ (lnT L bg st on (isSk c0) w).1 ≤ 40 ∧ r = -6 ∧ u.2.2 = (bg, st, on, rl, rp, sp, sc, sk) ∧ PI cI cR u.1 own L C bg u.2.1 M ∧ CS on bg u.2.1)) (fun u : va_W × (Nat → Option Nat) × Nat × Nat × Bool × Nat × Int32 × Int32 × Int32 × Int32 => wX cI cP x aC aT aR aP (nI L) (nI C) (nI u.2.2.2.2.2.1) (nI u.2.2.1) (zb u.2.2.2.2.1) (nI u.2.2.2.1) mk u.2.2.2.2.2.2.1 u.2.2.2.2.2.2.2.1 u.2.2.2.2.2.2.2.2.1 u.2.2.2.2.2.2.2.2.2 fa ch tr rc u.2.1 u.1) (va_A (wX cI cP x aC aT aR aP (nI L) (nI C) (nI rl) (nI bg) (zb on) (nI st) mk rp sp sc sk fa ch tr rc pg pl) sz)) 136 4689 (va_A (wX cI cP x aC aT aR aP (nI L) (nI C) (nI rl) (nI bg) (zb on) (nI st) mk rp sp sc sk fa ch tr rc pg pl) sz) := by
  refine Met.ofW (cc := cX2_line) (maxL := 4) (ret := (some .int)) (by decide) rfl ?_
  intro p e s m args below meth c s₁ B hml hv
  obtain ⟨rfl, hsz, hP, hK, hD0⟩ := hv
  have hx := B.exec
  have hb := B.bytes
  have hr := B.returns
  have hts := atoms_spec (ws := wsX2_line) B.pre
  have hown : s.vm.findClass RX2 = some m.cls := findClass_of_methodNamed B.named
  have hlocks := B.notSynchronized
  have hinX0 : ∀ w ∈ wsX00, w ∈ wsX2_line := by decide +kernel
  have hinX1 : ∀ w ∈ wsX10, w ∈ wsX2_line := by decide +kernel
  have hinX2 : ∀ w ∈ wsX20, w ∈ wsX2_line := by decide +kernel
  subst hsz
  have hD := hD0.self (sz := s.heap.size)
  generalize hAe : va_A (wX cI cP x aC aT aR aP (nI L) (nI C) (nI rl) (nI bg) (zb on) (nI st) mk rp sp sc sk fa ch tr rc pg pl) s.heap.size = A at hD ⊢
  have hA : ∀ q : Nat, s.heap.size ≤ q → A q := fun q h => by rw [← hAe]; exact Or.inr h
  have hS : va_S A s.heap s.heap [] := va_S.rf
  have hP : va_P D vwCl (wX cI cP x aC aT aR aP (nI L) (nI C) (nI rl) (nI bg) (zb on) (nI st) mk rp sp sc sk fa ch tr rc pg pl) s.heap := hP
  have hl := lv_entry ([.ref x, .int c0]) (n := 4) (Nat.le_of_ble_eq_true rfl)
  rw [lg_entry_eq]
  generalize (lg_sl ([.ref x, .int c0]) ++ List.replicate (4 - (lg_sl ([.ref x, .int c0])).length) Slot.unset).toArray = ls at hl ⊢
  have hl : lv_has ls 4 [(0, .ref x), (1, .int c0)] := hl
  have hon : on = true → 0 < bg := fun h9 => (hCS h9).1
  have hwl : w ≤ 66 := by rw [hw]; exact lwy_le hst hL hch c0
  refine lv_iload_n hx hb dX2_line_0 rfl (lv_at hl 1 rfl) ?_
  refine vp_callSi (W.runS (As := [.int c0]) (rest := []) ⟨hx, hb, hml, hown, hts⟩ (c_X2_channelOfCode l (c0)) (va_cwS 1 hts gX2_line_X2_channelOfCode rfl rfl rfl (by decide +kernel) ⟨(Nat.le_of_ble_eq_true rfl), (Nat.le_of_ble_eq_true rfl)⟩) pu_pre rfl rfl hl.1 rfl (lv_room (Nat.le_of_ble_eq_true rfl)) dX2_line_1 ⟨(Nat.le_of_ble_eq_true rfl), (Nat.le_of_ble_eq_true rfl)⟩) (fun r_1 w_1 => ?_)
  subst w_1
  refine lv_istore_n (lv' := [(2, .int (chOf c0)), (0, .ref x), (1, .int c0)]) hx hb dX2_line_4 rfl hl (by decide) rfl (fun ls hl => ?_)
  refine lv_iload_n hx hb dX2_line_5 rfl (lv_at hl 0 rfl) ?_
  refine vp_callSi (W.runS (As := [.int (chOf c0)]) (rest := []) ⟨hx, hb, hml, hown, hts⟩ (c_X2_isChannel l ((chOf c0))) (va_cwS 1 hts gX2_line_X2_isChannel rfl rfl rfl (by decide +kernel) ⟨(Nat.le_of_ble_eq_true rfl), (Nat.le_of_ble_eq_true rfl)⟩) pu_pre rfl rfl hl.1 rfl (lv_room (Nat.le_of_ble_eq_true rfl)) dX2_line_6 ⟨(Nat.le_of_ble_eq_true rfl), (Nat.le_of_ble_eq_true rfl)⟩) (fun r_6 w_6 => ?_)
  subst w_6
  refine lv_if_eq (tgt := 20) hx hb dX2_line_9 (by decide) (fun c_9 => ?_) (fun c_9 => ?_)
  ·
    refine lv_iload_n hx hb dX2_line_20 rfl (lv_at hl 2 rfl) ?_
    refine vp_callSi (W.runS (As := [.int c0]) (rest := []) ⟨hx, hb, hml, hown, hts⟩ (c_X2_linesOfCode l (c0)) (va_cwS 1 hts gX2_line_X2_linesOfCode rfl rfl rfl (by decide +kernel) ⟨(Nat.le_of_ble_eq_true rfl), (Nat.le_of_ble_eq_true rfl)⟩) pu_pre rfl rfl hl.1 rfl (lv_room (Nat.le_of_ble_eq_true rfl)) dX2_line_21 ⟨(Nat.le_of_ble_eq_true rfl), (Nat.le_of_ble_eq_true rfl)⟩) (fun r_21 w_21 => ?_)
    subst w_21
    refine lv_topi (fun x_21 ex_21 => ?_)
    obtain rfl : x_21 = nI w := ex_21.trans (by rw [hw, lwy, if_pos c_9]; obtain ⟨k9, h8, h9⟩ := lnOf_nI c0; rw [h9, nI_clamp (by omega)])
    refine lv_istore_n (lv' := [(3, .int (nI w)), (2, .int (chOf c0)), (0, .ref x), (1, .int c0)]) hx hb dX2_line_24 rfl hl (by decide) rfl (fun ls hl => ?_)
    refine lv_iload_n hx hb dX2_line_25 rfl (lv_at hl 3 rfl) ?_
    refine vp_callSi (W.runS (As := [.int c0]) (rest := []) ⟨hx, hb, hml, hown, hts⟩ (c_X2_isSecondKind l (c0)) (va_cwS 1 hts gX2_line_X2_isSecondKind rfl rfl rfl (by decide +kernel) ⟨(Nat.le_of_ble_eq_true rfl), (Nat.le_of_ble_eq_true rfl)⟩) pu_pre rfl rfl hl.1 rfl (lv_room (Nat.le_of_ble_eq_true rfl)) dX2_line_26 ⟨(Nat.le_of_ble_eq_true rfl), (Nat.le_of_ble_eq_true rfl)⟩) (fun r_26 w_26 => ?_)
    subst w_26
    refine lv_if_eq (tgt := 62) hx hb dX2_line_29 (by decide) (fun c_29 => ?_) (fun c_29 => ?_)
    ·
      have hsk : isSk c0 = false := zb0.mp c_29
      refine lv_aload_n hx hb dX2_line_62 rfl (lv_at hl 2 rfl) ?_
      refine lv_iload_n hx hb dX2_line_63 rfl (lv_at hl 0 rfl) ?_
      refine vp_callSi (W.runV (As := [.int (nI w)]) (rest := []) ⟨hx, hb, hml, hown, hts⟩ (c_X2_canPrintAfter l hon hbg hL0 hL hst w (by omega)) (cwV 1 hts gX2_line_X2_canPrintAfter rfl rfl rfl (by decide +kernel) ⟨(Nat.le_of_ble_eq_true rfl), (Nat.le_of_ble_eq_true rfl)⟩) (ro_pre hK hP rfl 0 rfl) rfl rfl hl.1 rfl (lv_room (Nat.le_of_ble_eq_true rfl)) dX2_line_64 ⟨(Nat.le_of_ble_eq_true rfl), (Nat.le_of_ble_eq_true rfl)⟩) (fun r_64 w_64 => ?_)
      subst w_64
      refine lv_if_ne (tgt := 73) hx hb dX2_line_67 (by decide) (fun c_67 => ?_) (fun c_67 => ?_)
      ·
        have hfit : bgB (mvn L w (bg, st, on)).1 (mvn L w (bg, st, on)).2.2 ≤ 40 := (fit_after hL0 hst hbg hon).mp (of_decide_eq_true (zb1.mp c_67))
        have hfm : (mvn L w (bg, st, on)).1 ≤ 40 := by revert hfit; unfold bgB; split <;> omega
        refine lv_aload_n hx hb dX2_line_73 rfl (lv_at hl 2 rfl) ?_
        refine lv_iload_n hx hb dX2_line_74 rfl (lv_at hl 0 rfl) ?_
        refine callQv (va_runV (As := [.int (nI w)]) (rest := []) ⟨hx, hb, hml, hown, hts⟩ (c_X2_moveBy l hL0 hL hst hbg hPI hCS w hwl hfm) (cwV 1 hts gX2_line_X2_moveBy rfl rfl rfl (by decide +kernel) ⟨(Nat.le_of_ble_eq_true rfl), (Nat.le_of_ble_eq_true rfl)⟩) (mu_pre hK hP hD rfl 0 rfl) rfl rfl hl.1 rfl (lv_room (Nat.le_of_ble_eq_true rfl)) dX2_line_75 ⟨(Nat.le_of_ble_eq_true rfl), (Nat.le_of_ble_eq_true rfl)⟩) hD hS hA (fun u_75 H locs w_75 hP hD hS => ?_)
        obtain ⟨pl1, pg1, bg1, st1, on1⟩ := u_75
        obtain ⟨hmv, hpg1, ⟨own1, hPI1⟩, hCS1⟩ := w_75
        dsimp only at hmv hpg1 hPI1 hCS1
        have hP : va_P D vwCl (wX cI cP x aC aT aR aP (nI L) (nI C) (nI rl) (nI bg1) (zb on1) (nI st1) mk rp sp sc sk fa ch tr rc pg1 pl1) H := hP
        have hD : va_D A (wX cI cP x aC aT aR aP (nI L) (nI C) (nI rl) (nI bg1) (zb on1) (nI st1) mk rp sp sc sk fa ch tr rc pg1 pl1) := hD
        have hbb : bg ≤ bg1 := by have h9 := mvn_le (L := L) (Nat.zero_le w) (bg, st, on); rw [← hmv] at h9; exact h9
        have hf1 : bgB bg1 on1 ≤ 40 := by rw [← hmv] at hfit; exact hfit
        have hs1 : st1 < L := by have h9 := mvn_st hL0 w (bg, st, on) hst; rw [← hmv] at h9; exact h9
        have hb140 : bg1 ≤ 40 := by revert hf1; unfold bgB; split <;> omega
        have h401 : on1 = false → bg1 < 40 := fun h9 => by rw [h9] at hf1; exact hf1
        refine lv_aload_n hx hb dX2_line_78 rfl (lv_at hl 2 rfl) ?_
        refine callQv (va_runV (As := []) (rest := []) ⟨hx, hb, hml, hown, hts⟩ (c_X2_printRecord l hL hC hs1 h401 hb140 hrl hrc hPI1 hCS1 hMG.blank) (cwV 0 hts gX2_line_X2_printRecord rfl rfl rfl (by decide +kernel) ⟨(Nat.le_of_ble_eq_true rfl), (Nat.le_of_ble_eq_true rfl)⟩) (mu_pre hK hP hD rfl 0 rfl) rfl rfl hl.1 rfl (lv_room (Nat.le_of_ble_eq_true rfl)) dX2_line_79 ⟨(Nat.le_of_ble_eq_true rfl), (Nat.le_of_ble_eq_true rfl)⟩) hD hS hA (fun u_79 H locs w_79 hP hD hS => ?_)
        obtain ⟨pl2, pg2, bg2, sp1, sc1⟩ := u_79
        obtain ⟨hb2, hpg2, hPI2, hCS2, hsp1, hsc1⟩ := w_79
        dsimp only at hb2 hpg2 hPI2 hCS2 hsp1 hsc1
        have hP : va_P D vwCl (wX cI cP x aC aT aR aP (nI L) (nI C) (nI 0) (nI bg2) (zb true) (nI st1) mk (rp + 1) sp1 sc1 sk fa ch tr rc pg2 pl2) H := hP
        have hD : va_D A (wX cI cP x aC aT aR aP (nI L) (nI C) (nI 0) (nI bg2) (zb true) (nI st1) mk (rp + 1) sp1 sc1 sk fa ch tr rc pg2 pl2) := hD
        have hT : (bg2, st1, true) = (lnT L bg st on (isSk c0) w) := by rw [lnT, hsk, if_neg (by decide), ← hmv, hb2]
        have hPIf : ∃ own' : Nat → Nat × Nat, PI cI cR pl2 own' L C bg2 pg2 (MP (MB bg M) (lnQ L bg st on (isSk c0) w) (lnI L bg st on (isSk c0) w) tr rc rl) := by
          rw [MB_MB hbb] at hPI2
          rw [lnQ, lnI, hsk, if_neg (by decide), if_neg (by decide), ← hmv, ← hb2]
          exact hPI2
        have hb240 : bg2 ≤ 40 := by rw [hb2]; exact hf1
        refine lv_iload_n hx hb dX2_line_82 rfl (lv_at hl 1 rfl) ?_
        refine vp_callSi (W.runS (As := [.int (chOf c0)]) (rest := []) ⟨hx, hb, hml, hown, hts⟩ (c_X2_isChannel l ((chOf c0))) (va_cwS 1 hts gX2_line_X2_isChannel rfl rfl rfl (by decide +kernel) ⟨(Nat.le_of_ble_eq_true rfl), (Nat.le_of_ble_eq_true rfl)⟩) pu_pre rfl rfl hl.1 rfl (lv_room (Nat.le_of_ble_eq_true rfl)) dX2_line_83 ⟨(Nat.le_of_ble_eq_true rfl), (Nat.le_of_ble_eq_true rfl)⟩) (fun r_83 w_83 => ?_)
        subst w_83
        refine lv_if_eq (tgt := 94) hx hb dX2_line_86 (by decide) (fun c_86 => ?_) (fun c_86 => ?_)
        ·
          refine lv_aload_n hx hb dX2_line_94 rfl (lv_at hl 2 rfl) ?_
          refine va_get (D := D) (ci := 3) (v := .int (nI bg2)) (C := RX2) (T := TX2) (N := 16) hx hb hts hinX2 hown hK.1 hP 0 rfl rfl 7 (by decide) (hts (.fieldLink RX2 90 "PrinterRows" "begun" "I") (by decide +kernel)) (fun _ h9 => h9) rfl dX2_line_95 ?_
          refine W.widen (k := 136) (n := 4689) (by omega) (by omega) ?_
          exact W.iret (v := (nI bg2)) hx hb hr (fun t ht hW => ⟨⟨_, (pl2, pg2, bg2, st1, true, 0, rp + 1, sp1, sc1, sk), rfl, Or.inl ⟨by rw [← hT]; exact hb240, by rw [← hT], hT, rfl, rfl, hsp1, hsc1, by rw [skN, if_pos c_86], hPIf, hCS2⟩, by rw [ht]; exact hP, hD⟩, hS.F ht⟩) hS.2.2 dX2_line_98
        ·
          refine lv_aload_n hx hb dX2_line_89 rfl (lv_at hl 2 rfl) ?_
          refine lv_iload_n hx hb dX2_line_90 rfl (lv_at hl 1 rfl) ?_
          refine callQv (va_runV (As := [.int (chOf c0)]) (rest := []) ⟨hx, hb, hml, hown, hts⟩ (c_X2_countSkip l (chOf c0)) (cwV 1 hts gX2_line_X2_countSkip rfl rfl rfl (by decide +kernel) ⟨(Nat.le_of_ble_eq_true rfl), (Nat.le_of_ble_eq_true rfl)⟩) (mu_pre hK hP hD rfl 0 rfl) rfl rfl hl.1 rfl (lv_room (Nat.le_of_ble_eq_true rfl)) dX2_line_91 ⟨(Nat.le_of_ble_eq_true rfl), (Nat.le_of_ble_eq_true rfl)⟩) hD hS hA (fun u_91 H locs w_91 hP hD hS => ?_)
          subst w_91
          have hP : va_P D vwCl (wX cI cP x aC aT aR aP (nI L) (nI C) (nI 0) (nI bg2) (zb true) (nI st1) mk (rp + 1) sp1 sc1 (skN ch sk (chOf c0)) fa ch tr rc pg2 pl2) H := hP
          have hD : va_D A (wX cI cP x aC aT aR aP (nI L) (nI C) (nI 0) (nI bg2) (zb true) (nI st1) mk (rp + 1) sp1 sc1 (skN ch sk (chOf c0)) fa ch tr rc pg2 pl2) := hD
          refine lv_aload_n hx hb dX2_line_94 rfl (lv_at hl 2 rfl) ?_
          refine va_get (D := D) (ci := 3) (v := .int (nI bg2)) (C := RX2) (T := TX2) (N := 16) hx hb hts hinX2 hown hK.1 hP 0 rfl rfl 7 (by decide) (hts (.fieldLink RX2 90 "PrinterRows" "begun" "I") (by decide +kernel)) (fun _ h9 => h9) rfl dX2_line_95 ?_
          refine W.widen (k := 136) (n := 4689) (by omega) (by omega) ?_
          exact W.iret (v := (nI bg2)) hx hb hr (fun t ht hW => ⟨⟨_, (pl2, pg2, bg2, st1, true, 0, rp + 1, sp1, sc1, skN ch sk (chOf c0)), rfl, Or.inl ⟨by rw [← hT]; exact hb240, by rw [← hT], hT, rfl, rfl, hsp1, hsc1, rfl, hPIf, hCS2⟩, by rw [ht]; exact hP, hD⟩, hS.F ht⟩) hS.2.2 dX2_line_98
      ·
        have hfit : ¬ (lnT L bg st on (isSk c0) w).1 ≤ 40 := fun h9 => by rw [lnT, hsk, if_neg (by decide)] at h9; exact absurd ((fit_after hL0 hst hbg hon).mpr h9) (of_decide_eq_false (zb0.mp c_67))
        refine lv_bipush (v := (-6)) hx hb dX2_line_70 (by decide +kernel) ?_
        refine W.widen (k := 136) (n := 4689) (by omega) (by omega) ?_
        exact W.iret (v := (-6)) hx hb hr (fun t ht hW => ⟨⟨_, (pl, pg, bg, st, on, rl, rp, sp, sc, sk), rfl, Or.inr ⟨hfit, rfl, rfl, hPI, hCS⟩, by rw [ht]; exact hP, hD⟩, hS.F ht⟩) hS.2.2 dX2_line_72
    ·
      have hsk : isSk c0 = true := zb1.mp c_29
      refine lv_aload_n hx hb dX2_line_32 rfl (lv_at hl 2 rfl) ?_
      refine vp_callSi (W.runV (As := []) (rest := []) ⟨hx, hb, hml, hown, hts⟩ (c_X2_canPrintHere l hon hbg) (cwV 0 hts gX2_line_X2_canPrintHere rfl rfl rfl (by decide +kernel) ⟨(Nat.le_of_ble_eq_true rfl), (Nat.le_of_ble_eq_true rfl)⟩) (ro_pre hK hP rfl 0 rfl) rfl rfl hl.1 rfl (lv_room (Nat.le_of_ble_eq_true rfl)) dX2_line_33 ⟨(Nat.le_of_ble_eq_true rfl), (Nat.le_of_ble_eq_true rfl)⟩) (fun r_33 w_33 => ?_)
      subst w_33
      refine lv_if_eq (tgt := 47) hx hb dX2_line_36 (by decide) (fun c_36 => ?_) (fun c_36 => ?_)
      ·
        have hfit : ¬ (lnT L bg st on (isSk c0) w).1 ≤ 40 := fun h9 => by rw [lnT, hsk, if_pos rfl] at h9; exact absurd ((fit_second hL0 hst hbg hon).mpr h9).1 (of_decide_eq_false (zb0.mp c_36))
        refine lv_bipush (v := (-6)) hx hb dX2_line_47 (by decide +kernel) ?_
        refine W.widen (k := 136) (n := 4689) (by omega) (by omega) ?_
        exact W.iret (v := (-6)) hx hb hr (fun t ht hW => ⟨⟨_, (pl, pg, bg, st, on, rl, rp, sp, sc, sk), rfl, Or.inr ⟨hfit, rfl, rfl, hPI, hCS⟩, by rw [ht]; exact hP, hD⟩, hS.F ht⟩) hS.2.2 dX2_line_49
      ·
        refine lv_aload_n hx hb dX2_line_39 rfl (lv_at hl 2 rfl) ?_
        refine lv_iload_n hx hb dX2_line_40 rfl (lv_at hl 0 rfl) ?_
        refine vp_callSi (W.runV (As := [.int (nI w)]) (rest := []) ⟨hx, hb, hml, hown, hts⟩ (c_X2_canMove l hon hbg hL0 hL hst w (by omega)) (cwV 1 hts gX2_line_X2_canMove rfl rfl rfl (by decide +kernel) ⟨(Nat.le_of_ble_eq_true rfl), (Nat.le_of_ble_eq_true rfl)⟩) (ro_pre hK hP rfl 0 rfl) rfl rfl hl.1 rfl (lv_room (Nat.le_of_ble_eq_true rfl)) dX2_line_41 ⟨(Nat.le_of_ble_eq_true rfl), (Nat.le_of_ble_eq_true rfl)⟩) (fun r_41 w_41 => ?_)
        subst w_41
        refine lv_if_ne (tgt := 50) hx hb dX2_line_44 (by decide) (fun c_44 => ?_) (fun c_44 => ?_)
        ·
          have hpp := of_decide_eq_true (zb1.mp c_36)
          have hfit : (mvn L w (bgB bg on, st, true)).1 ≤ 40 := (fit_second hL0 hst hbg hon).mp ⟨hpp, of_decide_eq_true (zb1.mp c_44)⟩
          have h40 : on = false → bg < 40 := fun h9 => by rw [h9] at hpp; exact hpp
          refine lv_aload_n hx hb dX2_line_50 rfl (lv_at hl 2 rfl) ?_
          refine callQv (va_runV (As := []) (rest := []) ⟨hx, hb, hml, hown, hts⟩ (c_X2_printRecord l hL hC hst h40 hbg hrl hrc hPI hCS hMG) (cwV 0 hts gX2_line_X2_printRecord rfl rfl rfl (by decide +kernel) ⟨(Nat.le_of_ble_eq_true rfl), (Nat.le_of_ble_eq_true rfl)⟩) (mu_pre hK hP hD rfl 0 rfl) rfl rfl hl.1 rfl (lv_room (Nat.le_of_ble_eq_true rfl)) dX2_line_51 ⟨(Nat.le_of_ble_eq_true rfl), (Nat.le_of_ble_eq_true rfl)⟩) hD hS hA (fun u_51 H locs w_51 hP hD hS => ?_)
          obtain ⟨pl1, pg1, bg1, sp1, sc1⟩ := u_51
          obtain ⟨hb1, hpg1, ⟨own1, hPI1⟩, hCS1, hsp1, hsc1⟩ := w_51
          dsimp only at hb1 hpg1 hPI1 hCS1 hsp1 hsc1
          have hP : va_P D vwCl (wX cI cP x aC aT aR aP (nI L) (nI C) (nI 0) (nI bg1) (zb true) (nI st) mk (rp + 1) sp1 sc1 sk fa ch tr rc pg1 pl1) H := hP
          have hD : va_D A (wX cI cP x aC aT aR aP (nI L) (nI C) (nI 0) (nI bg1) (zb true) (nI st) mk (rp + 1) sp1 sc1 sk fa ch tr rc pg1 pl1) := hD
          have hb140 : bg1 ≤ 40 := by rw [hb1]; exact bgB_le h40 hbg
          have hb10 : 0 < bg1 := (hCS1 rfl).1
          have hfit2 : (mvn L w (bg1, st, true)).1 ≤ 40 := by rw [hb1]; exact hfit
          refine lv_aload_n hx hb dX2_line_54 rfl (lv_at hl 2 rfl) ?_
          refine lv_iload_n hx hb dX2_line_55 rfl (lv_at hl 0 rfl) ?_
          refine callQv (va_runV (As := [.int (nI w)]) (rest := []) ⟨hx, hb, hml, hown, hts⟩ (c_X2_moveBy l hL0 hL hst hb140 hPI1 hCS1 w hwl hfit2) (cwV 1 hts gX2_line_X2_moveBy rfl rfl rfl (by decide +kernel) ⟨(Nat.le_of_ble_eq_true rfl), (Nat.le_of_ble_eq_true rfl)⟩) (mu_pre hK hP hD rfl 0 rfl) rfl rfl hl.1 rfl (lv_room (Nat.le_of_ble_eq_true rfl)) dX2_line_56 ⟨(Nat.le_of_ble_eq_true rfl), (Nat.le_of_ble_eq_true rfl)⟩) hD hS hA (fun u_56 H locs w_56 hP hD hS => ?_)
          obtain ⟨pl2, pg2, bg2, st2, on2⟩ := u_56
          obtain ⟨hmv2, hpg2, hPI2, hCS2⟩ := w_56
          dsimp only at hmv2 hpg2 hPI2 hCS2
          have hP : va_P D vwCl (wX cI cP x aC aT aR aP (nI L) (nI C) (nI 0) (nI bg2) (zb on2) (nI st2) mk (rp + 1) sp1 sc1 sk fa ch tr rc pg2 pl2) H := hP
          have hD : va_D A (wX cI cP x aC aT aR aP (nI L) (nI C) (nI 0) (nI bg2) (zb on2) (nI st2) mk (rp + 1) sp1 sc1 sk fa ch tr rc pg2 pl2) := hD
          have hT : (bg2, st2, on2) = (lnT L bg st on (isSk c0) w) := by rw [lnT, hsk, if_pos rfl, hmv2, hb1]
          have hPIf : ∃ own' : Nat → Nat × Nat, PI cI cR pl2 own' L C bg2 pg2 (MP (MB bg M) (lnQ L bg st on (isSk c0) w) (lnI L bg st on (isSk c0) w) tr rc rl) := by
            rw [MP_MB (by rw [hb1]; unfold bgB; split <;> omega) hb10] at hPI2
            rw [lnQ, lnI, hsk, if_pos rfl, if_pos rfl, ← hb1]
            exact hPI2
          have hb240 : bg2 ≤ 40 := by rw [← hmv2] at hfit2; exact hfit2
          refine lv_goto (tgt := 82) hx hb dX2_line_59 (by decide) ?_
          refine lv_iload_n hx hb dX2_line_82 rfl (lv_at hl 1 rfl) ?_
          refine vp_callSi (W.runS (As := [.int (chOf c0)]) (rest := []) ⟨hx, hb, hml, hown, hts⟩ (c_X2_isChannel l ((chOf c0))) (va_cwS 1 hts gX2_line_X2_isChannel rfl rfl rfl (by decide +kernel) ⟨(Nat.le_of_ble_eq_true rfl), (Nat.le_of_ble_eq_true rfl)⟩) pu_pre rfl rfl hl.1 rfl (lv_room (Nat.le_of_ble_eq_true rfl)) dX2_line_83 ⟨(Nat.le_of_ble_eq_true rfl), (Nat.le_of_ble_eq_true rfl)⟩) (fun r_83 w_83 => ?_)
          subst w_83
          refine lv_if_eq (tgt := 94) hx hb dX2_line_86 (by decide) (fun c_86 => ?_) (fun c_86 => ?_)
          ·
            refine lv_aload_n hx hb dX2_line_94 rfl (lv_at hl 2 rfl) ?_
            refine va_get (D := D) (ci := 3) (v := .int (nI bg2)) (C := RX2) (T := TX2) (N := 16) hx hb hts hinX2 hown hK.1 hP 0 rfl rfl 7 (by decide) (hts (.fieldLink RX2 90 "PrinterRows" "begun" "I") (by decide +kernel)) (fun _ h9 => h9) rfl dX2_line_95 ?_
            refine W.widen (k := 136) (n := 4689) (by omega) (by omega) ?_
            exact W.iret (v := (nI bg2)) hx hb hr (fun t ht hW => ⟨⟨_, (pl2, pg2, bg2, st2, on2, 0, rp + 1, sp1, sc1, sk), rfl, Or.inl ⟨by rw [← hT]; exact hb240, by rw [← hT], hT, rfl, rfl, hsp1, hsc1, by rw [skN, if_pos c_86], hPIf, hCS2⟩, by rw [ht]; exact hP, hD⟩, hS.F ht⟩) hS.2.2 dX2_line_98
          ·
            refine lv_aload_n hx hb dX2_line_89 rfl (lv_at hl 2 rfl) ?_
            refine lv_iload_n hx hb dX2_line_90 rfl (lv_at hl 1 rfl) ?_
            refine callQv (va_runV (As := [.int (chOf c0)]) (rest := []) ⟨hx, hb, hml, hown, hts⟩ (c_X2_countSkip l (chOf c0)) (cwV 1 hts gX2_line_X2_countSkip rfl rfl rfl (by decide +kernel) ⟨(Nat.le_of_ble_eq_true rfl), (Nat.le_of_ble_eq_true rfl)⟩) (mu_pre hK hP hD rfl 0 rfl) rfl rfl hl.1 rfl (lv_room (Nat.le_of_ble_eq_true rfl)) dX2_line_91 ⟨(Nat.le_of_ble_eq_true rfl), (Nat.le_of_ble_eq_true rfl)⟩) hD hS hA (fun u_91 H locs w_91 hP hD hS => ?_)
            subst w_91
            have hP : va_P D vwCl (wX cI cP x aC aT aR aP (nI L) (nI C) (nI 0) (nI bg2) (zb on2) (nI st2) mk (rp + 1) sp1 sc1 (skN ch sk (chOf c0)) fa ch tr rc pg2 pl2) H := hP
            have hD : va_D A (wX cI cP x aC aT aR aP (nI L) (nI C) (nI 0) (nI bg2) (zb on2) (nI st2) mk (rp + 1) sp1 sc1 (skN ch sk (chOf c0)) fa ch tr rc pg2 pl2) := hD
            refine lv_aload_n hx hb dX2_line_94 rfl (lv_at hl 2 rfl) ?_
            refine va_get (D := D) (ci := 3) (v := .int (nI bg2)) (C := RX2) (T := TX2) (N := 16) hx hb hts hinX2 hown hK.1 hP 0 rfl rfl 7 (by decide) (hts (.fieldLink RX2 90 "PrinterRows" "begun" "I") (by decide +kernel)) (fun _ h9 => h9) rfl dX2_line_95 ?_
            refine W.widen (k := 136) (n := 4689) (by omega) (by omega) ?_
            exact W.iret (v := (nI bg2)) hx hb hr (fun t ht hW => ⟨⟨_, (pl2, pg2, bg2, st2, on2, 0, rp + 1, sp1, sc1, skN ch sk (chOf c0)), rfl, Or.inl ⟨by rw [← hT]; exact hb240, by rw [← hT], hT, rfl, rfl, hsp1, hsc1, rfl, hPIf, hCS2⟩, by rw [ht]; exact hP, hD⟩, hS.F ht⟩) hS.2.2 dX2_line_98
        ·
          have hfit : ¬ (lnT L bg st on (isSk c0) w).1 ≤ 40 := fun h9 => by rw [lnT, hsk, if_pos rfl] at h9; exact absurd ((fit_second hL0 hst hbg hon).mpr h9).2 (of_decide_eq_false (zb0.mp c_44))
          refine lv_bipush (v := (-6)) hx hb dX2_line_47 (by decide +kernel) ?_
          refine W.widen (k := 136) (n := 4689) (by omega) (by omega) ?_
          exact W.iret (v := (-6)) hx hb hr (fun t ht hW => ⟨⟨_, (pl, pg, bg, st, on, rl, rp, sp, sc, sk), rfl, Or.inr ⟨hfit, rfl, rfl, hPI, hCS⟩, by rw [ht]; exact hP, hD⟩, hS.F ht⟩) hS.2.2 dX2_line_49
  ·
    refine lv_aload_n hx hb dX2_line_12 rfl (lv_at hl 1 rfl) ?_
    refine lv_iload_n hx hb dX2_line_13 rfl (lv_at hl 0 rfl) ?_
    refine vp_callSi (W.runV (As := [.int (chOf c0)]) (rest := []) ⟨hx, hb, hml, hown, hts⟩ (c_X2_wayToI l hL0 hL hst hch (chOf c0) (zb1.mp c_9)) (cwV 1 hts gX2_line_X2_wayTo rfl rfl rfl (by decide +kernel) ⟨(Nat.le_of_ble_eq_true rfl), (Nat.le_of_ble_eq_true rfl)⟩) (ro_pre hK hP rfl 0 rfl) rfl rfl hl.1 rfl (lv_room (Nat.le_of_ble_eq_true rfl)) dX2_line_14 ⟨(Nat.le_of_ble_eq_true rfl), (Nat.le_of_ble_eq_true rfl)⟩) (fun r_14 w_14 => ?_)
    subst w_14
    refine lv_topi (fun x_14 ex_14 => ?_)
    obtain rfl : x_14 = nI w := ex_14.trans (by rw [hw, lwy, if_neg c_9])
    refine lv_goto (tgt := 24) hx hb dX2_line_17 (by decide) ?_
    refine lv_istore_n (lv' := [(3, .int (nI w)), (2, .int (chOf c0)), (0, .ref x), (1, .int c0)]) hx hb dX2_line_24 rfl hl (by decide) rfl (fun ls hl => ?_)
    refine lv_iload_n hx hb dX2_line_25 rfl (lv_at hl 3 rfl) ?_
    refine vp_callSi (W.runS (As := [.int c0]) (rest := []) ⟨hx, hb, hml, hown, hts⟩ (c_X2_isSecondKind l (c0)) (va_cwS 1 hts gX2_line_X2_isSecondKind rfl rfl rfl (by decide +kernel) ⟨(Nat.le_of_ble_eq_true rfl), (Nat.le_of_ble_eq_true rfl)⟩) pu_pre rfl rfl hl.1 rfl (lv_room (Nat.le_of_ble_eq_true rfl)) dX2_line_26 ⟨(Nat.le_of_ble_eq_true rfl), (Nat.le_of_ble_eq_true rfl)⟩) (fun r_26 w_26 => ?_)
    subst w_26
    refine lv_if_eq (tgt := 62) hx hb dX2_line_29 (by decide) (fun c_29 => ?_) (fun c_29 => ?_)
    ·
      have hsk : isSk c0 = false := zb0.mp c_29
      refine lv_aload_n hx hb dX2_line_62 rfl (lv_at hl 2 rfl) ?_
      refine lv_iload_n hx hb dX2_line_63 rfl (lv_at hl 0 rfl) ?_
      refine vp_callSi (W.runV (As := [.int (nI w)]) (rest := []) ⟨hx, hb, hml, hown, hts⟩ (c_X2_canPrintAfter l hon hbg hL0 hL hst w (by omega)) (cwV 1 hts gX2_line_X2_canPrintAfter rfl rfl rfl (by decide +kernel) ⟨(Nat.le_of_ble_eq_true rfl), (Nat.le_of_ble_eq_true rfl)⟩) (ro_pre hK hP rfl 0 rfl) rfl rfl hl.1 rfl (lv_room (Nat.le_of_ble_eq_true rfl)) dX2_line_64 ⟨(Nat.le_of_ble_eq_true rfl), (Nat.le_of_ble_eq_true rfl)⟩) (fun r_64 w_64 => ?_)
      subst w_64
      refine lv_if_ne (tgt := 73) hx hb dX2_line_67 (by decide) (fun c_67 => ?_) (fun c_67 => ?_)
      ·
        have hfit : bgB (mvn L w (bg, st, on)).1 (mvn L w (bg, st, on)).2.2 ≤ 40 := (fit_after hL0 hst hbg hon).mp (of_decide_eq_true (zb1.mp c_67))
        have hfm : (mvn L w (bg, st, on)).1 ≤ 40 := by revert hfit; unfold bgB; split <;> omega
        refine lv_aload_n hx hb dX2_line_73 rfl (lv_at hl 2 rfl) ?_
        refine lv_iload_n hx hb dX2_line_74 rfl (lv_at hl 0 rfl) ?_
        refine callQv (va_runV (As := [.int (nI w)]) (rest := []) ⟨hx, hb, hml, hown, hts⟩ (c_X2_moveBy l hL0 hL hst hbg hPI hCS w hwl hfm) (cwV 1 hts gX2_line_X2_moveBy rfl rfl rfl (by decide +kernel) ⟨(Nat.le_of_ble_eq_true rfl), (Nat.le_of_ble_eq_true rfl)⟩) (mu_pre hK hP hD rfl 0 rfl) rfl rfl hl.1 rfl (lv_room (Nat.le_of_ble_eq_true rfl)) dX2_line_75 ⟨(Nat.le_of_ble_eq_true rfl), (Nat.le_of_ble_eq_true rfl)⟩) hD hS hA (fun u_75 H locs w_75 hP hD hS => ?_)
        obtain ⟨pl1, pg1, bg1, st1, on1⟩ := u_75
        obtain ⟨hmv, hpg1, ⟨own1, hPI1⟩, hCS1⟩ := w_75
        dsimp only at hmv hpg1 hPI1 hCS1
        have hP : va_P D vwCl (wX cI cP x aC aT aR aP (nI L) (nI C) (nI rl) (nI bg1) (zb on1) (nI st1) mk rp sp sc sk fa ch tr rc pg1 pl1) H := hP
        have hD : va_D A (wX cI cP x aC aT aR aP (nI L) (nI C) (nI rl) (nI bg1) (zb on1) (nI st1) mk rp sp sc sk fa ch tr rc pg1 pl1) := hD
        have hbb : bg ≤ bg1 := by have h9 := mvn_le (L := L) (Nat.zero_le w) (bg, st, on); rw [← hmv] at h9; exact h9
        have hf1 : bgB bg1 on1 ≤ 40 := by rw [← hmv] at hfit; exact hfit
        have hs1 : st1 < L := by have h9 := mvn_st hL0 w (bg, st, on) hst; rw [← hmv] at h9; exact h9
        have hb140 : bg1 ≤ 40 := by revert hf1; unfold bgB; split <;> omega
        have h401 : on1 = false → bg1 < 40 := fun h9 => by rw [h9] at hf1; exact hf1
        refine lv_aload_n hx hb dX2_line_78 rfl (lv_at hl 2 rfl) ?_
        refine callQv (va_runV (As := []) (rest := []) ⟨hx, hb, hml, hown, hts⟩ (c_X2_printRecord l hL hC hs1 h401 hb140 hrl hrc hPI1 hCS1 hMG.blank) (cwV 0 hts gX2_line_X2_printRecord rfl rfl rfl (by decide +kernel) ⟨(Nat.le_of_ble_eq_true rfl), (Nat.le_of_ble_eq_true rfl)⟩) (mu_pre hK hP hD rfl 0 rfl) rfl rfl hl.1 rfl (lv_room (Nat.le_of_ble_eq_true rfl)) dX2_line_79 ⟨(Nat.le_of_ble_eq_true rfl), (Nat.le_of_ble_eq_true rfl)⟩) hD hS hA (fun u_79 H locs w_79 hP hD hS => ?_)
        obtain ⟨pl2, pg2, bg2, sp1, sc1⟩ := u_79
        obtain ⟨hb2, hpg2, hPI2, hCS2, hsp1, hsc1⟩ := w_79
        dsimp only at hb2 hpg2 hPI2 hCS2 hsp1 hsc1
        have hP : va_P D vwCl (wX cI cP x aC aT aR aP (nI L) (nI C) (nI 0) (nI bg2) (zb true) (nI st1) mk (rp + 1) sp1 sc1 sk fa ch tr rc pg2 pl2) H := hP
        have hD : va_D A (wX cI cP x aC aT aR aP (nI L) (nI C) (nI 0) (nI bg2) (zb true) (nI st1) mk (rp + 1) sp1 sc1 sk fa ch tr rc pg2 pl2) := hD
        have hT : (bg2, st1, true) = (lnT L bg st on (isSk c0) w) := by rw [lnT, hsk, if_neg (by decide), ← hmv, hb2]
        have hPIf : ∃ own' : Nat → Nat × Nat, PI cI cR pl2 own' L C bg2 pg2 (MP (MB bg M) (lnQ L bg st on (isSk c0) w) (lnI L bg st on (isSk c0) w) tr rc rl) := by
          rw [MB_MB hbb] at hPI2
          rw [lnQ, lnI, hsk, if_neg (by decide), if_neg (by decide), ← hmv, ← hb2]
          exact hPI2
        have hb240 : bg2 ≤ 40 := by rw [hb2]; exact hf1
        refine lv_iload_n hx hb dX2_line_82 rfl (lv_at hl 1 rfl) ?_
        refine vp_callSi (W.runS (As := [.int (chOf c0)]) (rest := []) ⟨hx, hb, hml, hown, hts⟩ (c_X2_isChannel l ((chOf c0))) (va_cwS 1 hts gX2_line_X2_isChannel rfl rfl rfl (by decide +kernel) ⟨(Nat.le_of_ble_eq_true rfl), (Nat.le_of_ble_eq_true rfl)⟩) pu_pre rfl rfl hl.1 rfl (lv_room (Nat.le_of_ble_eq_true rfl)) dX2_line_83 ⟨(Nat.le_of_ble_eq_true rfl), (Nat.le_of_ble_eq_true rfl)⟩) (fun r_83 w_83 => ?_)
        subst w_83
        refine lv_if_eq (tgt := 94) hx hb dX2_line_86 (by decide) (fun c_86 => ?_) (fun c_86 => ?_)
        ·
          refine lv_aload_n hx hb dX2_line_94 rfl (lv_at hl 2 rfl) ?_
          refine va_get (D := D) (ci := 3) (v := .int (nI bg2)) (C := RX2) (T := TX2) (N := 16) hx hb hts hinX2 hown hK.1 hP 0 rfl rfl 7 (by decide) (hts (.fieldLink RX2 90 "PrinterRows" "begun" "I") (by decide +kernel)) (fun _ h9 => h9) rfl dX2_line_95 ?_
          refine W.widen (k := 136) (n := 4689) (by omega) (by omega) ?_
          exact W.iret (v := (nI bg2)) hx hb hr (fun t ht hW => ⟨⟨_, (pl2, pg2, bg2, st1, true, 0, rp + 1, sp1, sc1, sk), rfl, Or.inl ⟨by rw [← hT]; exact hb240, by rw [← hT], hT, rfl, rfl, hsp1, hsc1, by rw [skN, if_pos c_86], hPIf, hCS2⟩, by rw [ht]; exact hP, hD⟩, hS.F ht⟩) hS.2.2 dX2_line_98
        ·
          refine lv_aload_n hx hb dX2_line_89 rfl (lv_at hl 2 rfl) ?_
          refine lv_iload_n hx hb dX2_line_90 rfl (lv_at hl 1 rfl) ?_
          refine callQv (va_runV (As := [.int (chOf c0)]) (rest := []) ⟨hx, hb, hml, hown, hts⟩ (c_X2_countSkip l (chOf c0)) (cwV 1 hts gX2_line_X2_countSkip rfl rfl rfl (by decide +kernel) ⟨(Nat.le_of_ble_eq_true rfl), (Nat.le_of_ble_eq_true rfl)⟩) (mu_pre hK hP hD rfl 0 rfl) rfl rfl hl.1 rfl (lv_room (Nat.le_of_ble_eq_true rfl)) dX2_line_91 ⟨(Nat.le_of_ble_eq_true rfl), (Nat.le_of_ble_eq_true rfl)⟩) hD hS hA (fun u_91 H locs w_91 hP hD hS => ?_)
          subst w_91
          have hP : va_P D vwCl (wX cI cP x aC aT aR aP (nI L) (nI C) (nI 0) (nI bg2) (zb true) (nI st1) mk (rp + 1) sp1 sc1 (skN ch sk (chOf c0)) fa ch tr rc pg2 pl2) H := hP
          have hD : va_D A (wX cI cP x aC aT aR aP (nI L) (nI C) (nI 0) (nI bg2) (zb true) (nI st1) mk (rp + 1) sp1 sc1 (skN ch sk (chOf c0)) fa ch tr rc pg2 pl2) := hD
          refine lv_aload_n hx hb dX2_line_94 rfl (lv_at hl 2 rfl) ?_
          refine va_get (D := D) (ci := 3) (v := .int (nI bg2)) (C := RX2) (T := TX2) (N := 16) hx hb hts hinX2 hown hK.1 hP 0 rfl rfl 7 (by decide) (hts (.fieldLink RX2 90 "PrinterRows" "begun" "I") (by decide +kernel)) (fun _ h9 => h9) rfl dX2_line_95 ?_
          refine W.widen (k := 136) (n := 4689) (by omega) (by omega) ?_
          exact W.iret (v := (nI bg2)) hx hb hr (fun t ht hW => ⟨⟨_, (pl2, pg2, bg2, st1, true, 0, rp + 1, sp1, sc1, skN ch sk (chOf c0)), rfl, Or.inl ⟨by rw [← hT]; exact hb240, by rw [← hT], hT, rfl, rfl, hsp1, hsc1, rfl, hPIf, hCS2⟩, by rw [ht]; exact hP, hD⟩, hS.F ht⟩) hS.2.2 dX2_line_98
      ·
        have hfit : ¬ (lnT L bg st on (isSk c0) w).1 ≤ 40 := fun h9 => by rw [lnT, hsk, if_neg (by decide)] at h9; exact absurd ((fit_after hL0 hst hbg hon).mpr h9) (of_decide_eq_false (zb0.mp c_67))
        refine lv_bipush (v := (-6)) hx hb dX2_line_70 (by decide +kernel) ?_
        refine W.widen (k := 136) (n := 4689) (by omega) (by omega) ?_
        exact W.iret (v := (-6)) hx hb hr (fun t ht hW => ⟨⟨_, (pl, pg, bg, st, on, rl, rp, sp, sc, sk), rfl, Or.inr ⟨hfit, rfl, rfl, hPI, hCS⟩, by rw [ht]; exact hP, hD⟩, hS.F ht⟩) hS.2.2 dX2_line_72
    ·
      have hsk : isSk c0 = true := zb1.mp c_29
      refine lv_aload_n hx hb dX2_line_32 rfl (lv_at hl 2 rfl) ?_
      refine vp_callSi (W.runV (As := []) (rest := []) ⟨hx, hb, hml, hown, hts⟩ (c_X2_canPrintHere l hon hbg) (cwV 0 hts gX2_line_X2_canPrintHere rfl rfl rfl (by decide +kernel) ⟨(Nat.le_of_ble_eq_true rfl), (Nat.le_of_ble_eq_true rfl)⟩) (ro_pre hK hP rfl 0 rfl) rfl rfl hl.1 rfl (lv_room (Nat.le_of_ble_eq_true rfl)) dX2_line_33 ⟨(Nat.le_of_ble_eq_true rfl), (Nat.le_of_ble_eq_true rfl)⟩) (fun r_33 w_33 => ?_)
      subst w_33
      refine lv_if_eq (tgt := 47) hx hb dX2_line_36 (by decide) (fun c_36 => ?_) (fun c_36 => ?_)
      ·
        have hfit : ¬ (lnT L bg st on (isSk c0) w).1 ≤ 40 := fun h9 => by rw [lnT, hsk, if_pos rfl] at h9; exact absurd ((fit_second hL0 hst hbg hon).mpr h9).1 (of_decide_eq_false (zb0.mp c_36))
        refine lv_bipush (v := (-6)) hx hb dX2_line_47 (by decide +kernel) ?_
        refine W.widen (k := 136) (n := 4689) (by omega) (by omega) ?_
        exact W.iret (v := (-6)) hx hb hr (fun t ht hW => ⟨⟨_, (pl, pg, bg, st, on, rl, rp, sp, sc, sk), rfl, Or.inr ⟨hfit, rfl, rfl, hPI, hCS⟩, by rw [ht]; exact hP, hD⟩, hS.F ht⟩) hS.2.2 dX2_line_49
      ·
        refine lv_aload_n hx hb dX2_line_39 rfl (lv_at hl 2 rfl) ?_
        refine lv_iload_n hx hb dX2_line_40 rfl (lv_at hl 0 rfl) ?_
        refine vp_callSi (W.runV (As := [.int (nI w)]) (rest := []) ⟨hx, hb, hml, hown, hts⟩ (c_X2_canMove l hon hbg hL0 hL hst w (by omega)) (cwV 1 hts gX2_line_X2_canMove rfl rfl rfl (by decide +kernel) ⟨(Nat.le_of_ble_eq_true rfl), (Nat.le_of_ble_eq_true rfl)⟩) (ro_pre hK hP rfl 0 rfl) rfl rfl hl.1 rfl (lv_room (Nat.le_of_ble_eq_true rfl)) dX2_line_41 ⟨(Nat.le_of_ble_eq_true rfl), (Nat.le_of_ble_eq_true rfl)⟩) (fun r_41 w_41 => ?_)
        subst w_41
        refine lv_if_ne (tgt := 50) hx hb dX2_line_44 (by decide) (fun c_44 => ?_) (fun c_44 => ?_)
        ·
          have hpp := of_decide_eq_true (zb1.mp c_36)
          have hfit : (mvn L w (bgB bg on, st, true)).1 ≤ 40 := (fit_second hL0 hst hbg hon).mp ⟨hpp, of_decide_eq_true (zb1.mp c_44)⟩
          have h40 : on = false → bg < 40 := fun h9 => by rw [h9] at hpp; exact hpp
          refine lv_aload_n hx hb dX2_line_50 rfl (lv_at hl 2 rfl) ?_
          refine callQv (va_runV (As := []) (rest := []) ⟨hx, hb, hml, hown, hts⟩ (c_X2_printRecord l hL hC hst h40 hbg hrl hrc hPI hCS hMG) (cwV 0 hts gX2_line_X2_printRecord rfl rfl rfl (by decide +kernel) ⟨(Nat.le_of_ble_eq_true rfl), (Nat.le_of_ble_eq_true rfl)⟩) (mu_pre hK hP hD rfl 0 rfl) rfl rfl hl.1 rfl (lv_room (Nat.le_of_ble_eq_true rfl)) dX2_line_51 ⟨(Nat.le_of_ble_eq_true rfl), (Nat.le_of_ble_eq_true rfl)⟩) hD hS hA (fun u_51 H locs w_51 hP hD hS => ?_)
          obtain ⟨pl1, pg1, bg1, sp1, sc1⟩ := u_51
          obtain ⟨hb1, hpg1, ⟨own1, hPI1⟩, hCS1, hsp1, hsc1⟩ := w_51
          dsimp only at hb1 hpg1 hPI1 hCS1 hsp1 hsc1
          have hP : va_P D vwCl (wX cI cP x aC aT aR aP (nI L) (nI C) (nI 0) (nI bg1) (zb true) (nI st) mk (rp + 1) sp1 sc1 sk fa ch tr rc pg1 pl1) H := hP
          have hD : va_D A (wX cI cP x aC aT aR aP (nI L) (nI C) (nI 0) (nI bg1) (zb true) (nI st) mk (rp + 1) sp1 sc1 sk fa ch tr rc pg1 pl1) := hD
          have hb140 : bg1 ≤ 40 := by rw [hb1]; exact bgB_le h40 hbg
          have hb10 : 0 < bg1 := (hCS1 rfl).1
          have hfit2 : (mvn L w (bg1, st, true)).1 ≤ 40 := by rw [hb1]; exact hfit
          refine lv_aload_n hx hb dX2_line_54 rfl (lv_at hl 2 rfl) ?_
          refine lv_iload_n hx hb dX2_line_55 rfl (lv_at hl 0 rfl) ?_
          refine callQv (va_runV (As := [.int (nI w)]) (rest := []) ⟨hx, hb, hml, hown, hts⟩ (c_X2_moveBy l hL0 hL hst hb140 hPI1 hCS1 w hwl hfit2) (cwV 1 hts gX2_line_X2_moveBy rfl rfl rfl (by decide +kernel) ⟨(Nat.le_of_ble_eq_true rfl), (Nat.le_of_ble_eq_true rfl)⟩) (mu_pre hK hP hD rfl 0 rfl) rfl rfl hl.1 rfl (lv_room (Nat.le_of_ble_eq_true rfl)) dX2_line_56 ⟨(Nat.le_of_ble_eq_true rfl), (Nat.le_of_ble_eq_true rfl)⟩) hD hS hA (fun u_56 H locs w_56 hP hD hS => ?_)
          obtain ⟨pl2, pg2, bg2, st2, on2⟩ := u_56
          obtain ⟨hmv2, hpg2, hPI2, hCS2⟩ := w_56
          dsimp only at hmv2 hpg2 hPI2 hCS2
          have hP : va_P D vwCl (wX cI cP x aC aT aR aP (nI L) (nI C) (nI 0) (nI bg2) (zb on2) (nI st2) mk (rp + 1) sp1 sc1 sk fa ch tr rc pg2 pl2) H := hP
          have hD : va_D A (wX cI cP x aC aT aR aP (nI L) (nI C) (nI 0) (nI bg2) (zb on2) (nI st2) mk (rp + 1) sp1 sc1 sk fa ch tr rc pg2 pl2) := hD
          have hT : (bg2, st2, on2) = (lnT L bg st on (isSk c0) w) := by rw [lnT, hsk, if_pos rfl, hmv2, hb1]
          have hPIf : ∃ own' : Nat → Nat × Nat, PI cI cR pl2 own' L C bg2 pg2 (MP (MB bg M) (lnQ L bg st on (isSk c0) w) (lnI L bg st on (isSk c0) w) tr rc rl) := by
            rw [MP_MB (by rw [hb1]; unfold bgB; split <;> omega) hb10] at hPI2
            rw [lnQ, lnI, hsk, if_pos rfl, if_pos rfl, ← hb1]
            exact hPI2
          have hb240 : bg2 ≤ 40 := by rw [← hmv2] at hfit2; exact hfit2
          refine lv_goto (tgt := 82) hx hb dX2_line_59 (by decide) ?_
          refine lv_iload_n hx hb dX2_line_82 rfl (lv_at hl 1 rfl) ?_
          refine vp_callSi (W.runS (As := [.int (chOf c0)]) (rest := []) ⟨hx, hb, hml, hown, hts⟩ (c_X2_isChannel l ((chOf c0))) (va_cwS 1 hts gX2_line_X2_isChannel rfl rfl rfl (by decide +kernel) ⟨(Nat.le_of_ble_eq_true rfl), (Nat.le_of_ble_eq_true rfl)⟩) pu_pre rfl rfl hl.1 rfl (lv_room (Nat.le_of_ble_eq_true rfl)) dX2_line_83 ⟨(Nat.le_of_ble_eq_true rfl), (Nat.le_of_ble_eq_true rfl)⟩) (fun r_83 w_83 => ?_)
          subst w_83
          refine lv_if_eq (tgt := 94) hx hb dX2_line_86 (by decide) (fun c_86 => ?_) (fun c_86 => ?_)
          ·
            refine lv_aload_n hx hb dX2_line_94 rfl (lv_at hl 2 rfl) ?_
            refine va_get (D := D) (ci := 3) (v := .int (nI bg2)) (C := RX2) (T := TX2) (N := 16) hx hb hts hinX2 hown hK.1 hP 0 rfl rfl 7 (by decide) (hts (.fieldLink RX2 90 "PrinterRows" "begun" "I") (by decide +kernel)) (fun _ h9 => h9) rfl dX2_line_95 ?_
            refine W.widen (k := 136) (n := 4689) (by omega) (by omega) ?_
            exact W.iret (v := (nI bg2)) hx hb hr (fun t ht hW => ⟨⟨_, (pl2, pg2, bg2, st2, on2, 0, rp + 1, sp1, sc1, sk), rfl, Or.inl ⟨by rw [← hT]; exact hb240, by rw [← hT], hT, rfl, rfl, hsp1, hsc1, by rw [skN, if_pos c_86], hPIf, hCS2⟩, by rw [ht]; exact hP, hD⟩, hS.F ht⟩) hS.2.2 dX2_line_98
          ·
            refine lv_aload_n hx hb dX2_line_89 rfl (lv_at hl 2 rfl) ?_
            refine lv_iload_n hx hb dX2_line_90 rfl (lv_at hl 1 rfl) ?_
            refine callQv (va_runV (As := [.int (chOf c0)]) (rest := []) ⟨hx, hb, hml, hown, hts⟩ (c_X2_countSkip l (chOf c0)) (cwV 1 hts gX2_line_X2_countSkip rfl rfl rfl (by decide +kernel) ⟨(Nat.le_of_ble_eq_true rfl), (Nat.le_of_ble_eq_true rfl)⟩) (mu_pre hK hP hD rfl 0 rfl) rfl rfl hl.1 rfl (lv_room (Nat.le_of_ble_eq_true rfl)) dX2_line_91 ⟨(Nat.le_of_ble_eq_true rfl), (Nat.le_of_ble_eq_true rfl)⟩) hD hS hA (fun u_91 H locs w_91 hP hD hS => ?_)
            subst w_91
            have hP : va_P D vwCl (wX cI cP x aC aT aR aP (nI L) (nI C) (nI 0) (nI bg2) (zb on2) (nI st2) mk (rp + 1) sp1 sc1 (skN ch sk (chOf c0)) fa ch tr rc pg2 pl2) H := hP
            have hD : va_D A (wX cI cP x aC aT aR aP (nI L) (nI C) (nI 0) (nI bg2) (zb on2) (nI st2) mk (rp + 1) sp1 sc1 (skN ch sk (chOf c0)) fa ch tr rc pg2 pl2) := hD
            refine lv_aload_n hx hb dX2_line_94 rfl (lv_at hl 2 rfl) ?_
            refine va_get (D := D) (ci := 3) (v := .int (nI bg2)) (C := RX2) (T := TX2) (N := 16) hx hb hts hinX2 hown hK.1 hP 0 rfl rfl 7 (by decide) (hts (.fieldLink RX2 90 "PrinterRows" "begun" "I") (by decide +kernel)) (fun _ h9 => h9) rfl dX2_line_95 ?_
            refine W.widen (k := 136) (n := 4689) (by omega) (by omega) ?_
            exact W.iret (v := (nI bg2)) hx hb hr (fun t ht hW => ⟨⟨_, (pl2, pg2, bg2, st2, on2, 0, rp + 1, sp1, sc1, skN ch sk (chOf c0)), rfl, Or.inl ⟨by rw [← hT]; exact hb240, by rw [← hT], hT, rfl, rfl, hsp1, hsc1, rfl, hPIf, hCS2⟩, by rw [ht]; exact hP, hD⟩, hS.F ht⟩) hS.2.2 dX2_line_98
        ·
          have hfit : ¬ (lnT L bg st on (isSk c0) w).1 ≤ 40 := fun h9 => by rw [lnT, hsk, if_pos rfl] at h9; exact absurd ((fit_second hL0 hst hbg hon).mpr h9).2 (of_decide_eq_false (zb0.mp c_44))
          refine lv_bipush (v := (-6)) hx hb dX2_line_47 (by decide +kernel) ?_
          refine W.widen (k := 136) (n := 4689) (by omega) (by omega) ?_
          exact W.iret (v := (-6)) hx hb hr (fun t ht hW => ⟨⟨_, (pl, pg, bg, st, on, rl, rp, sp, sc, sk), rfl, Or.inr ⟨hfit, rfl, rfl, hPI, hCS⟩, by rw [ht]; exact hP, hD⟩, hS.F ht⟩) hS.2.2 dX2_line_49
end
section
/-! copies -/
def cpV (bg : Nat) (n f t : Int32) : Bool := if n < 1 then false else if 9 < n then false else if f < 0 then false else if t < f then false else if t < nI bg then true else false
def cpS (n f t : Int32) : Nat := n.toNatClampNeg * (t.toNatClampNeg - f.toNatClampNeg + 1)
def cpO (bg : Nat) (n f t : Int32) : Bool := if cpV bg n f t then decide (bg + cpS n f t ≤ 40) else false
def cpR (bg : Nat) (n f t : Int32) : Int32 := if cpV bg n f t then (if bg + cpS n f t ≤ 40 then nI (bg + cpS n f t) else -6) else -2
def CPM (bg f many : Nat) (M : Nat → Nat → Nat → Int32) : Nat → Nat → Nat → Int32 := fun q i c => if q < bg then M q i c else M (f + (q - bg) % many) i c
theorem CPM_step {cI cR : ClassId} {pl : va_W} {own : Nat → Nat × Nat} {L C bg f many i j a : Nat} {pg : Nat → Option Nat} {M : Nat → Nat → Nat → Int32} (h : PI cI cR pl own L C (bg + i * many + j) pg (CPM bg f many M)) (hj : j < many) (hf : f + j < bg) (hpa : pg (f + j) = some a) : PI cI cR pl own L C (bg + i * many + j + 1) (va_up pg (bg + i * many + j) (some a)) (CPM bg f many M) := by
  have h1 := PI.copy h (q0 := f + j) (by omega)
  rw [hpa] at h1
  refine PI.congr (Nat.le_refl _) (fun _ _ => rfl) (fun q l c hq _ _ => ?_) h1
  by_cases e : q = bg + i * many + j
  · subst e
    rw [va_up_self]
    unfold CPM
    have e2 : (bg + i * many + j - bg) % many = j := by
      rw [show bg + i * many + j - bg = j + many * i by rw [Nat.mul_comm i many]; omega, Nat.add_mul_mod_self_left, Nat.mod_eq_of_lt hj]
    rw [if_neg (by omega), if_pos hf, e2]
  · rw [va_up_ne _ _ e]
theorem cp_prod {nn many : Nat} (h : nn ≤ 9) (hm : many ≤ 40) : nn * many ≤ 360 := Nat.le_trans (Nat.mul_le_mul h hm) (by decide)

set_option maxHeartbeats 1000000 in
set_option maxRecDepth 100000 in
theorem c_X2_copies (l : Launch) {D : va_G} {cI cP cR cJ : ClassId} {x aC aT aR aP L C rl bg st : Nat} {on : Bool} {mk rp sp sc sk fa : Int32} {ch tr rc : Nat → Int32} {pg : Nat → Option Nat} {pl : va_W} {own : Nat → Nat × Nat} {M : Nat → Nat → Nat → Int32} {sz : Nat} (hbg : bg ≤ 40) (hPI : PI cI cR pl own L C bg pg M) (hCS : CS on bg pg) (n0 f0 t0 : Int32) : Met l yX2_copies wsX2_copies ({ frames := 1, cells := 0, slots := 0, locals := 21 }) (mu [.ref x, .int n0, .int f0, .int t0] D cI cP cR cJ (wX cI cP x aC aT aR aP (nI L) (nI C) (nI rl) (nI bg) (zb on) (nI st) mk rp sp sc sk fa ch tr rc pg pl) sz) (qi D (fun (r : Int32) (u : (Nat → Option Nat) × Nat × Nat × Bool) => r = cpR bg n0 f0 t0 ∧ u.2 = (if cpO bg n0 f0 t0 then (bg + cpS n0 f0 t0, 0, false) else (bg, st, on)) ∧ PI cI cR pl own L C u.2.1 u.1 (CPM bg f0.toNatClampNeg (t0.toNatClampNeg - f0.toNatClampNeg + 1) M) ∧ CS u.2.2.2 u.2.1 u.1) (fun u : (Nat → Option Nat) × Nat × Nat × Bool => wX cI cP x aC aT aR aP (nI L) (nI C) (nI rl) (nI u.2.1) (zb u.2.2.2) (nI u.2.2.1) mk rp sp sc sk fa ch tr rc u.1 pl) (va_A (wX cI cP x aC aT aR aP (nI L) (nI C) (nI rl) (nI bg) (zb on) (nI st) mk rp sp sc sk fa ch tr rc pg pl) sz)) 0 0 (va_A (wX cI cP x aC aT aR aP (nI L) (nI C) (nI rl) (nI bg) (zb on) (nI st) mk rp sp sc sk fa ch tr rc pg pl) sz) := by
  refine Met.ofW (cc := cX2_copies) (maxL := 6) (ret := (some .int)) (by decide) rfl ?_
  intro p e s m args below meth c s₁ B hml hv
  obtain ⟨rfl, hsz, hP, hK, hD0⟩ := hv
  have hx := B.exec
  have hb := B.bytes
  have hr := B.returns
  have hts := atoms_spec (ws := wsX2_copies) B.pre
  have hown : s.vm.findClass RX2 = some m.cls := findClass_of_methodNamed B.named
  have hlocks := B.notSynchronized
  have hinX2 : ∀ w ∈ wsX20, w ∈ wsX2_copies := by decide +kernel
  subst hsz
  have hD := hD0.self (sz := s.heap.size)
  generalize hAe : va_A (wX cI cP x aC aT aR aP (nI L) (nI C) (nI rl) (nI bg) (zb on) (nI st) mk rp sp sc sk fa ch tr rc pg pl) s.heap.size = A at hD ⊢
  have hA : ∀ q : Nat, s.heap.size ≤ q → A q := fun q h => by rw [← hAe]; exact Or.inr h
  have hS : va_S A s.heap s.heap [] := va_S.rf
  have hP : va_P D vwCl (wX cI cP x aC aT aR aP (nI L) (nI C) (nI rl) (nI bg) (zb on) (nI st) mk rp sp sc sk fa ch tr rc pg pl) s.heap := hP
  have hl := lv_entry ([.ref x, .int n0, .int f0, .int t0]) (n := 6) (Nat.le_of_ble_eq_true rfl)
  rw [lg_entry_eq]
  generalize (lg_sl ([.ref x, .int n0, .int f0, .int t0]) ++ List.replicate (6 - (lg_sl ([.ref x, .int n0, .int f0, .int t0])).length) Slot.unset).toArray = ls at hl ⊢
  have hl : lv_has ls 6 [(0, .ref x), (1, .int n0), (2, .int f0), (3, .int t0)] := hl
  refine lv_iload_n hx hb dX2_copies_0 rfl (lv_at hl 1 rfl) ?_
  refine lv_iconst (v := 1) hx hb dX2_copies_1 (by decide +kernel) ?_
  refine lv_icmp_lt (tgt := 28) hx hb dX2_copies_2 (by decide) (fun c_2 => ?_) (fun c_2 => ?_)
  ·
    refine lv_bipush (v := (-2)) hx hb dX2_copies_28 (by decide +kernel) ?_
    exact W.iret (v := (-2)) hx hb hr (fun t ht hW => ⟨⟨_, (pg, bg, st, on), rfl, ⟨by rw [cpR, cpV, if_pos c_2]; rfl, by rw [cpO, cpV, if_pos c_2]; rfl, PI.congr (Nat.le_refl _) (fun _ _ => rfl) (fun q i c hq _ _ => by unfold CPM; rw [if_pos hq]) hPI, hCS⟩, by rw [ht]; exact hP, hD⟩, hS.F ht⟩) hS.2.2 dX2_copies_30
  ·
    refine lv_iload_n hx hb dX2_copies_5 rfl (lv_at hl 1 rfl) ?_
    refine lv_bipush (v := 9) hx hb dX2_copies_6 (by decide +kernel) ?_
    refine lv_icmp_gt (tgt := 28) hx hb dX2_copies_8 (by decide) (fun c_8 => ?_) (fun c_8 => ?_)
    ·
      refine lv_bipush (v := (-2)) hx hb dX2_copies_28 (by decide +kernel) ?_
      exact W.iret (v := (-2)) hx hb hr (fun t ht hW => ⟨⟨_, (pg, bg, st, on), rfl, ⟨by rw [cpR, cpV, if_neg c_2, if_pos c_8]; rfl, by rw [cpO, cpV, if_neg c_2, if_pos c_8]; rfl, PI.congr (Nat.le_refl _) (fun _ _ => rfl) (fun q i c hq _ _ => by unfold CPM; rw [if_pos hq]) hPI, hCS⟩, by rw [ht]; exact hP, hD⟩, hS.F ht⟩) hS.2.2 dX2_copies_30
    ·
      refine lv_iload_n hx hb dX2_copies_11 rfl (lv_at hl 2 rfl) ?_
      refine lv_if_lt (tgt := 28) hx hb dX2_copies_12 (by decide) (fun c_12 => ?_) (fun c_12 => ?_)
      ·
        refine lv_bipush (v := (-2)) hx hb dX2_copies_28 (by decide +kernel) ?_
        exact W.iret (v := (-2)) hx hb hr (fun t ht hW => ⟨⟨_, (pg, bg, st, on), rfl, ⟨by rw [cpR, cpV, if_neg c_2, if_neg c_8, if_pos c_12]; rfl, by rw [cpO, cpV, if_neg c_2, if_neg c_8, if_pos c_12]; rfl, PI.congr (Nat.le_refl _) (fun _ _ => rfl) (fun q i c hq _ _ => by unfold CPM; rw [if_pos hq]) hPI, hCS⟩, by rw [ht]; exact hP, hD⟩, hS.F ht⟩) hS.2.2 dX2_copies_30
      ·
        refine lv_iload_n hx hb dX2_copies_15 rfl (lv_at hl 2 rfl) ?_
        refine lv_iload_n hx hb dX2_copies_16 rfl (lv_at hl 3 rfl) ?_
        refine lv_icmp_gt (tgt := 28) hx hb dX2_copies_17 (by decide) (fun c_17 => ?_) (fun c_17 => ?_)
        ·
          refine lv_bipush (v := (-2)) hx hb dX2_copies_28 (by decide +kernel) ?_
          exact W.iret (v := (-2)) hx hb hr (fun t ht hW => ⟨⟨_, (pg, bg, st, on), rfl, ⟨by rw [cpR, cpV, if_neg c_2, if_neg c_8, if_neg c_12, if_pos c_17]; rfl, by rw [cpO, cpV, if_neg c_2, if_neg c_8, if_neg c_12, if_pos c_17]; rfl, PI.congr (Nat.le_refl _) (fun _ _ => rfl) (fun q i c hq _ _ => by unfold CPM; rw [if_pos hq]) hPI, hCS⟩, by rw [ht]; exact hP, hD⟩, hS.F ht⟩) hS.2.2 dX2_copies_30
        ·
          refine lv_iload_n hx hb dX2_copies_20 rfl (lv_at hl 3 rfl) ?_
          refine lv_aload_n hx hb dX2_copies_21 rfl (lv_at hl 0 rfl) ?_
          refine va_get (D := D) (ci := 3) (v := .int (nI bg)) (C := RX2) (T := TX2) (N := 16) hx hb hts hinX2 hown hK.1 hP 0 rfl rfl 7 (by decide) (hts (.fieldLink RX2 90 "PrinterRows" "begun" "I") (by decide +kernel)) (fun _ h9 => h9) rfl dX2_copies_22 ?_
          refine lv_icmp_lt (tgt := 31) hx hb dX2_copies_25 (by decide) (fun c_25 => ?_) (fun c_25 => ?_)
          ·
            have hnr : 1 ≤ n0.toInt ∧ n0.toInt ≤ 9 := by rw [i32_lt] at c_2 c_8; have : (1 : Int32).toInt = 1 := rfl; have : (9 : Int32).toInt = 9 := rfl; omega
            obtain ⟨nn, hn1, hn9, rfl⟩ : ∃ nn : Nat, 1 ≤ nn ∧ nn ≤ 9 ∧ n0 = nI nn := ⟨n0.toInt.toNat, by omega, by omega, i32_ext (by rw [nI_toInt (by omega)]; omega)⟩
            obtain ⟨ff, hff0, rfl⟩ := nI_of (x := f0) c_12
            obtain ⟨tt, htt0, rfl⟩ := nI_of (x := t0) (fun h9 => c_17 (by rw [i32_lt] at h9 ⊢; rw [nI_toInt hff0]; have : (0 : Int32).toInt = 0 := rfl; omega))
            have hft : ff ≤ tt := Nat.le_of_not_lt (fun h9 => c_17 (nI_lt h9 hff0))
            have htb : tt < bg := (nI_ltI htt0 (by omega)).mp c_25
            have hcn : (nI nn).toNatClampNeg = nn := nI_clamp (by omega)
            have hcf : (nI ff).toNatClampNeg = ff := nI_clamp hff0
            have hct : (nI tt).toNatClampNeg = tt := nI_clamp htt0
            have hV : cpV bg (nI nn) (nI ff) (nI tt) = true := by rw [cpV, if_neg c_2, if_neg c_8, if_neg c_12, if_neg c_17, if_pos c_25]
            obtain ⟨many, hmy⟩ : ∃ many, many = tt - ff + 1 := ⟨_, rfl⟩
            have hm40 : many ≤ 40 := by omega
            have hpr := cp_prod hn9 hm40
            have hSz : cpS (nI nn) (nI ff) (nI tt) = nn * many := by rw [cpS, hcn, hcf, hct, hmy]
            refine lv_aload_n hx hb dX2_copies_31 rfl (lv_at hl 0 rfl) ?_
            refine va_get (D := D) (ci := 3) (v := .int (nI bg)) (C := RX2) (T := TX2) (N := 16) hx hb hts hinX2 hown hK.1 hP 0 rfl rfl 7 (by decide) (hts (.fieldLink RX2 90 "PrinterRows" "begun" "I") (by decide +kernel)) (fun _ h9 => h9) rfl dX2_copies_32 ?_
            refine lv_iload_n hx hb dX2_copies_35 rfl (lv_at hl 1 rfl) ?_
            refine lv_iload_n hx hb dX2_copies_36 rfl (lv_at hl 3 rfl) ?_
            refine lv_iload_n hx hb dX2_copies_37 rfl (lv_at hl 2 rfl) ?_
            refine lv_isub hx hb dX2_copies_38 ?_
            refine lv_iconst (v := 1) hx hb dX2_copies_39 (by decide +kernel) ?_
            refine lv_iadd hx hb dX2_copies_40 ?_
            refine lv_imul hx hb dX2_copies_41 ?_
            refine lv_iadd hx hb dX2_copies_42 ?_
            refine lv_topi (fun x_42 ex_42 => ?_)
            obtain rfl : x_42 = nI (bg + nn * many) := ex_42.trans (by rw [pk_sub hft, nI_1, pk_mul, nI_add, hmy])
            refine lv_bipush (v := 40) hx hb dX2_copies_43 (by decide +kernel) ?_
            refine lv_icmp_le (tgt := 51) hx hb dX2_copies_45 (by decide) (fun c_45 => ?_) (fun c_45 => ?_)
            ·
              have hfit : bg + nn * many ≤ 40 := (nI_leI (b := 40) (by omega) (by decide)).mp c_45
              have hO : cpO bg (nI nn) (nI ff) (nI tt) = true := by rw [cpO, hV, hSz]; exact decide_eq_true hfit
              refine lv_iconst (v := 0) hx hb dX2_copies_51 (by decide +kernel) ?_
              refine lv_istore (lv' := [(4, .int 0), (0, .ref x), (1, .int (nI nn)), (2, .int (nI ff)), (3, .int (nI tt))]) hx hb dX2_copies_52 hl (by decide) rfl (fun ls hl => ?_)
              have loop : ∀ (n : Nat) (i : Nat) (pgv : Nat → Option Nat) (H : Heap) (locs : List Loc) (ls : Array Slot), (i ≤ nn) → (nn - i < n) → (PI cI cR pl own L C (bg + i * many) pgv (CPM bg ff many M)) → va_P D vwCl (wX cI cP x aC aT aR aP (nI L) (nI C) (nI rl) (nI (bg + i * many)) (zb on) (nI st) mk rp sp sc sk fa ch tr rc pgv pl) H → va_D A (wX cI cP x aC aT aR aP (nI L) (nI C) (nI rl) (nI (bg + i * many)) (zb on) (nI st) mk rp sp sc sk fa ch tr rc pgv pl) → va_S A s.heap H locs → lv_has ls 6 [(0, .ref x), (1, .int (nI nn)), (2, .int (nI ff)), (3, .int (nI tt)), (4, .int (nI i))] → W p l e (headSpec wsX2_copies ({ frames := 1, cells := 0, slots := 0, locals := 21 })).room s m (([.ref x, .int (nI nn), .int (nI ff), .int (nI tt)] : List Value).toArray) below meth c H locs 0 0 (MQ below (qi D (fun (r : Int32) (u : (Nat → Option Nat) × Nat × Nat × Bool) => r = cpR bg (nI nn) (nI ff) (nI tt) ∧ u.2 = (if cpO bg (nI nn) (nI ff) (nI tt) then (bg + cpS (nI nn) (nI ff) (nI tt), 0, false) else (bg, st, on)) ∧ PI cI cR pl own L C u.2.1 u.1 (CPM bg (nI ff).toNatClampNeg ((nI tt).toNatClampNeg - (nI ff).toNatClampNeg + 1) M) ∧ CS u.2.2.2 u.2.1 u.1) (fun u : (Nat → Option Nat) × Nat × Nat × Bool => wX cI cP x aC aT aR aP (nI L) (nI C) (nI rl) (nI u.2.1) (zb u.2.2.2) (nI u.2.2.1) mk rp sp sc sk fa ch tr rc u.1 pl) (A)) (([.ref x, .int (nI nn), .int (nI ff), .int (nI tt)] : List Value).toArray) s 0 0 A) (F0 m 54 ls []) := by
                intro n
                induction n with
                | zero => intro i pgv H locs ls hi hn hPIv hP hD hS hl; exact absurd hn (Nat.not_lt_zero _)
                | succ n ih =>
                  intro i pgv H locs ls hi hn hPIv hP hD hS hl
                  refine lv_iload hx hb dX2_copies_54 (lv_at hl 4 rfl) ?_
                  refine lv_iload_n hx hb dX2_copies_56 rfl (lv_at hl 1 rfl) ?_
                  refine lv_icmp_ge (tgt := 91) hx hb dX2_copies_57 (by decide) (fun c_57 => ?_) (fun c_57 => ?_)
                  ·
                    have hie : nn = i := by have := (nI_leI (by omega) (by omega)).mp c_57; omega
                    refine lv_aload_n hx hb dX2_copies_91 rfl (lv_at hl 0 rfl) ?_
                    refine callQv (va_runV (As := []) (rest := []) ⟨hx, hb, hml, hown, hts⟩ (c_X2_standOnNewPage l) (cwV 0 hts gX2_copies_X2_standOnNewPage rfl rfl rfl (by decide +kernel) ⟨(Nat.le_of_ble_eq_true rfl), (Nat.le_of_ble_eq_true rfl)⟩) (mu_pre hK hP hD rfl 0 rfl) rfl rfl hl.1 rfl (lv_room (Nat.le_of_ble_eq_true rfl)) dX2_copies_92 ⟨(Nat.le_of_ble_eq_true rfl), (Nat.le_of_ble_eq_true rfl)⟩) hD hS hA (fun u_92 H locs w_92 hP hD hS => ?_)
                    have hP : va_P D vwCl (wX cI cP x aC aT aR aP (nI L) (nI C) (nI rl) (nI (bg + i * many)) (zb false) (nI 0) mk rp sp sc sk fa ch tr rc pgv pl) H := hP
                    have hD : va_D A (wX cI cP x aC aT aR aP (nI L) (nI C) (nI rl) (nI (bg + i * many)) (zb false) (nI 0) mk rp sp sc sk fa ch tr rc pgv pl) := hD
                    refine lv_aload_n hx hb dX2_copies_95 rfl (lv_at hl 0 rfl) ?_
                    refine va_get (D := D) (ci := 3) (v := .int (nI (bg + i * many))) (C := RX2) (T := TX2) (N := 16) hx hb hts hinX2 hown hK.1 hP 0 rfl rfl 7 (by decide) (hts (.fieldLink RX2 90 "PrinterRows" "begun" "I") (by decide +kernel)) (fun _ h9 => h9) rfl dX2_copies_96 ?_
                    exact W.iret (v := (nI (bg + i * many))) hx hb hr (fun t ht hW => ⟨⟨_, (pgv, bg + i * many, 0, false), rfl, ⟨by rw [cpR, hV, hSz, hie, if_pos rfl, if_pos (by rw [← hie]; exact hfit)], by rw [hO, hSz, hie]; rfl, by rw [hcf, hct, ← hmy]; exact hPIv, fun h9 => by cases h9⟩, by rw [ht]; exact hP, hD⟩, hS.F ht⟩) hS.2.2 dX2_copies_99
                  ·
                    have hlt : i < nn := Nat.lt_of_not_le (fun h9 => c_57 (nI_le h9 (by omega)))
                    have hmm : i * many + many ≤ nn * many := by rw [← Nat.succ_mul]; exact Nat.mul_le_mul_right _ hlt
                    refine lv_iload_n hx hb dX2_copies_60 rfl (lv_at hl 2 rfl) ?_
                    refine lv_istore (lv' := [(5, .int (nI ff)), (0, .ref x), (1, .int (nI nn)), (2, .int (nI ff)), (3, .int (nI tt)), (4, .int (nI i))]) hx hb dX2_copies_61 hl (by decide) rfl (fun ls hl => ?_)
                    have loop2 : ∀ (n2 : Nat) (j : Nat) (pgw : Nat → Option Nat) (H : Heap) (locs : List Loc) (ls : Array Slot), (j ≤ many) → (many - j < n2) → (PI cI cR pl own L C (bg + i * many + j) pgw (CPM bg ff many M)) → va_P D vwCl (wX cI cP x aC aT aR aP (nI L) (nI C) (nI rl) (nI (bg + i * many + j)) (zb on) (nI st) mk rp sp sc sk fa ch tr rc pgw pl) H → va_D A (wX cI cP x aC aT aR aP (nI L) (nI C) (nI rl) (nI (bg + i * many + j)) (zb on) (nI st) mk rp sp sc sk fa ch tr rc pgw pl) → va_S A s.heap H locs → lv_has ls 6 [(0, .ref x), (1, .int (nI nn)), (2, .int (nI ff)), (3, .int (nI tt)), (4, .int (nI i)), (5, .int (nI (ff + j)))] → W p l e (headSpec wsX2_copies ({ frames := 1, cells := 0, slots := 0, locals := 21 })).room s m (([.ref x, .int (nI nn), .int (nI ff), .int (nI tt)] : List Value).toArray) below meth c H locs 0 0 (MQ below (qi D (fun (r : Int32) (u : (Nat → Option Nat) × Nat × Nat × Bool) => r = cpR bg (nI nn) (nI ff) (nI tt) ∧ u.2 = (if cpO bg (nI nn) (nI ff) (nI tt) then (bg + cpS (nI nn) (nI ff) (nI tt), 0, false) else (bg, st, on)) ∧ PI cI cR pl own L C u.2.1 u.1 (CPM bg (nI ff).toNatClampNeg ((nI tt).toNatClampNeg - (nI ff).toNatClampNeg + 1) M) ∧ CS u.2.2.2 u.2.1 u.1) (fun u : (Nat → Option Nat) × Nat × Nat × Bool => wX cI cP x aC aT aR aP (nI L) (nI C) (nI rl) (nI u.2.1) (zb u.2.2.2) (nI u.2.2.1) mk rp sp sc sk fa ch tr rc u.1 pl) (A)) (([.ref x, .int (nI nn), .int (nI ff), .int (nI tt)] : List Value).toArray) s 0 0 A) (F0 m 63 ls []) := by
                      intro n2
                      induction n2 with
                      | zero => intro j pgw H locs ls hj hn2 hPIw hP hD hS hl; exact absurd hn2 (Nat.not_lt_zero _)
                      | succ n2 ih2 =>
                        intro j pgw H locs ls hj hn2 hPIw hP hD hS hl
                        refine lv_iload hx hb dX2_copies_63 (lv_at hl 5 rfl) ?_
                        refine lv_iload_n hx hb dX2_copies_65 rfl (lv_at hl 3 rfl) ?_
                        refine lv_icmp_gt (tgt := 85) hx hb dX2_copies_66 (by decide) (fun c_66 => ?_) (fun c_66 => ?_)
                        ·
                          have hje : j = many := by have := (nI_ltI htt0 (by omega)).mp c_66; omega
                          refine lv_iinc (v := (nI (i + 1))) (lv' := [(4, .int (nI (i + 1))), (0, .ref x), (1, .int (nI nn)), (2, .int (nI ff)), (3, .int (nI tt)), (5, .int (nI (ff + j)))]) hx hb dX2_copies_85 hl (k := 4) rfl (nI_1 i) (by decide) rfl (fun ls hl => ?_)
                          refine lv_goto (tgt := 54) hx hb dX2_copies_88 (by decide) ?_
                          rw [hje, Nat.add_assoc, ← Nat.succ_mul] at hP hD hPIw
                          exact ih (i + 1) pgw _ _ _ (by omega) (by omega) (hPIw) hP hD hS (lv_sub hl [1, 2, 3, 4, 0] rfl)
                        ·
                          have hjl : j < many := by have := Nat.le_of_not_lt (fun h9 => c_66 (nI_lt (a := tt) (b := ff + j) h9 (by omega))); omega
                          refine lv_aload_n hx hb dX2_copies_69 rfl (lv_at hl 0 rfl) ?_
                          refine lv_aload_n hx hb dX2_copies_70 rfl (lv_at hl 0 rfl) ?_
                          refine lv_iload hx hb dX2_copies_71 (lv_at hl 5 rfl) ?_
                          obtain ⟨a, hpa, ra, g, ka, kr, hka, -⟩ := hPIw (ff + j) (by omega)
                          refine va_csq (W.runV (As := [.int (nI (ff + j))]) (rest := [.ref x]) ⟨hx, hb, hml, hown, hts⟩ (c_X2_begunPage l (by omega) (nI (ff + j))) (cwV 1 hts gX2_copies_X2_begunPage rfl rfl rfl (by decide +kernel) ⟨(Nat.le_of_ble_eq_true rfl), (Nat.le_of_ble_eq_true rfl)⟩) (ro_pre hK hP rfl 0 rfl) rfl rfl hl.1 rfl (lv_room (Nat.le_of_ble_eq_true rfl)) dX2_copies_73 ⟨(Nat.le_of_ble_eq_true rfl), (Nat.le_of_ble_eq_true rfl)⟩) (fun r_73 w_73 => ?_)
                          subst w_73
                          refine W.eq (g2 := F0 m 76 ls [.ref a, .ref x]) (by rw [bpR, if_pos ⟨nI_pos (by omega), nI_ge (by omega) (by omega)⟩, nI_clamp (by omega), hpa]; rfl) ?_
                          refine callQv (va_runV (As := [.ref a]) (rest := []) ⟨hx, hb, hml, hown, hts⟩ (c_X2_addPage l (by omega) a ka _ hka) (cwV 1 hts gX2_copies_X2_addPage rfl rfl rfl (by decide +kernel) ⟨(Nat.le_of_ble_eq_true rfl), (Nat.le_of_ble_eq_true rfl)⟩) (mu_pre hK hP hD rfl 0 rfl) rfl rfl hl.1 rfl (lv_room (Nat.le_of_ble_eq_true rfl)) dX2_copies_76 ⟨(Nat.le_of_ble_eq_true rfl), (Nat.le_of_ble_eq_true rfl)⟩) hD hS hA (fun u_76 H locs w_76 hP hD hS => ?_)
                          have hP : va_P D vwCl (wX cI cP x aC aT aR aP (nI L) (nI C) (nI rl) (nI (bg + i * many + j + 1)) (zb on) (nI st) mk rp sp sc sk fa ch tr rc (va_up pgw (bg + i * many + j) (some a)) pl) H := hP
                          have hD : va_D A (wX cI cP x aC aT aR aP (nI L) (nI C) (nI rl) (nI (bg + i * many + j + 1)) (zb on) (nI st) mk rp sp sc sk fa ch tr rc (va_up pgw (bg + i * many + j) (some a)) pl) := hD
                          refine lv_iinc (v := (nI (ff + (j + 1)))) (lv' := [(5, .int (nI (ff + (j + 1)))), (0, .ref x), (1, .int (nI nn)), (2, .int (nI ff)), (3, .int (nI tt)), (4, .int (nI i))]) hx hb dX2_copies_79 hl (k := 5) rfl (nI_1 (ff + j)) (by decide) rfl (fun ls hl => ?_)
                          refine lv_goto (tgt := 63) hx hb dX2_copies_82 (by decide) ?_
                          exact ih2 (j + 1) _ _ _ _ (by omega) (by omega) (CPM_step hPIw hjl (by omega) hpa) hP hD hS (lv_sub hl [1, 2, 3, 4, 5, 0] rfl)
                    exact loop2 (many + 1) 0 pgv _ _ _ (Nat.zero_le _) (by omega) (hPIv) hP hD hS (lv_sub hl [1, 2, 3, 4, 5, 0] rfl)
              rw [show bg = bg + 0 * many by omega] at hP hD
              exact loop (nn + 1) 0 pg _ _ _ (Nat.zero_le _) (by omega) (PI.congr (by omega) (fun _ _ => rfl) (fun q i c hq _ _ => by unfold CPM; rw [if_pos (by omega)]) hPI) hP hD hS (lv_sub hl [1, 2, 3, 4, 0] rfl)
            ·
              have hfit : ¬ bg + nn * many ≤ 40 := fun h9 => c_45 (nI_le (b := 40) h9 (by decide))
              have hO : cpO bg (nI nn) (nI ff) (nI tt) = false := by rw [cpO, hV, hSz]; exact decide_eq_false hfit
              refine lv_bipush (v := (-6)) hx hb dX2_copies_48 (by decide +kernel) ?_
              exact W.iret (v := (-6)) hx hb hr (fun t ht hW => ⟨⟨_, (pg, bg, st, on), rfl, ⟨by rw [cpR, hV, hSz, if_pos rfl, if_neg hfit], by rw [hO]; rfl, by rw [hcf, hct, ← hmy]; exact PI.congr (Nat.le_refl _) (fun _ _ => rfl) (fun q i c hq _ _ => by unfold CPM; rw [if_pos hq]) hPI, hCS⟩, by rw [ht]; exact hP, hD⟩, hS.F ht⟩) hS.2.2 dX2_copies_50
          ·
            refine lv_bipush (v := (-2)) hx hb dX2_copies_28 (by decide +kernel) ?_
            exact W.iret (v := (-2)) hx hb hr (fun t ht hW => ⟨⟨_, (pg, bg, st, on), rfl, ⟨by rw [cpR, cpV, if_neg c_2, if_neg c_8, if_neg c_12, if_neg c_17, if_neg c_25]; rfl, by rw [cpO, cpV, if_neg c_2, if_neg c_8, if_neg c_12, if_neg c_17, if_neg c_25]; rfl, PI.congr (Nat.le_refl _) (fun _ _ => rfl) (fun q i c hq _ _ => by unfold CPM; rw [if_pos hq]) hPI, hCS⟩, by rw [ht]; exact hP, hD⟩, hS.F ht⟩) hS.2.2 dX2_copies_30
end
section
/-! the class's constructor -/
theorem hdTo_nI (a : Int32) {b : Int32} {n : Nat} (hb : b = nI n) (h1 : 1 ≤ n) (h2 : n < 2 ^ 31) : ∃ k : Nat, 1 ≤ k ∧ k ≤ n ∧ hdTo a b = nI k := by
  subst hb
  unfold hdTo mx
  have e1 : (1 : Int32).toInt = 1 := rfl
  have en := nI_toInt h2
  have ha := i32 a
  by_cases q : nI n < a
  · rw [if_pos q]
    by_cases q2 : (1 : Int32) < nI n
    · rw [if_pos q2]; exact ⟨n, h1, Nat.le_refl _, rfl⟩
    · rw [if_neg q2]; exact ⟨1, Nat.le_refl _, h1, rfl⟩
  · rw [if_neg q]
    by_cases q2 : (1 : Int32) < a
    · rw [if_pos q2]
      rw [i32_lt] at q q2
      refine ⟨a.toInt.toNat, by omega, by omega, i32_ext ?_⟩
      rw [nI_toInt (by omega)]; omega
    · rw [if_neg q2]; exact ⟨1, Nat.le_refl _, h1, rfl⟩
theorem id_step {g : Nat → Int32} {i : Nat} (h : ∀ j, j < i → g j = nI j) : ∀ j, j < i + 1 → upd g i (nI i) j = nI j := by
  intro j hj
  by_cases e : j = i
  · rw [e]; exact if_pos rfl
  · rw [pk_un e]; exact h j (by omega)

set_option maxHeartbeats 1000000 in
set_option maxRecDepth 100000 in
theorem c_X2_init (l : Launch) {D : va_G} {cI cP cR cJ : ClassId} {x L C : Nat} {sz : Nat} (l0 c0 : Int32) (hL : hdTo l0 66 = nI L) (hC : hdTo c0 132 = nI C) : Met l yX2_init wsX2_init ({ frames := 2, cells := 4, slots := 509, locals := 35 }) (mu [.ref x, .int l0, .int c0] D cI cP cR cJ ([(x, .inr (3, [.int 0, .int 0, .null, .null, .null, .int 0, .null, .int 0, .int 0, .int 0, .int 0, .int 0, .int 0, .int 0, .int 0, .int 0]))]) sz) (qv D (fun (u : (Nat × Nat × Nat × Nat) × (Nat → Int32) × (Nat → Int32)) => (∀ k, k < 13 → u.2.1 k = -1) ∧ ∀ k, k < 256 → u.2.2 k = nI k) (fun u : (Nat × Nat × Nat × Nat) × (Nat → Int32) × (Nat → Int32) => wX cI cP x u.1.1 u.1.2.1 u.1.2.2.1 u.1.2.2.2 (nI L) (nI C) (nI 0) (nI 0) (zb false) (nI 0) 0 0 0 0 0 0 u.2.1 u.2.2 (fun _ => 0) (fun _ => none) []) (va_A ([(x, .inr (3, [.int 0, .int 0, .null, .null, .null, .int 0, .null, .int 0, .int 0, .int 0, .int 0, .int 0, .int 0, .int 0, .int 0, .int 0]))]) sz)) 4 509 (va_A ([(x, .inr (3, [.int 0, .int 0, .null, .null, .null, .int 0, .null, .int 0, .int 0, .int 0, .int 0, .int 0, .int 0, .int 0, .int 0, .int 0]))]) sz) := by
  refine Met.ofW (cc := cX2_init) (maxL := 4) (ret := none) (by decide) rfl ?_
  intro p e s m args below meth c s₁ B hml hv
  obtain ⟨rfl, hsz, hP, hK, hD0⟩ := hv
  have hx := B.exec
  have hb := B.bytes
  have hr := B.returns
  have hts := atoms_spec (ws := wsX2_init) B.pre
  have hown : s.vm.findClass RX2 = some m.cls := findClass_of_methodNamed B.named
  have hlocks := B.notSynchronized
  have hin : meth.name = "<init>" := (name_of_methodNamed B.named B.method).1
  have hinX2 : ∀ w ∈ wsX20, w ∈ wsX2_init := by decide +kernel
  subst hsz
  have hD := hD0.self (sz := s.heap.size)
  generalize hAe : va_A ([(x, .inr (3, [.int 0, .int 0, .null, .null, .null, .int 0, .null, .int 0, .int 0, .int 0, .int 0, .int 0, .int 0, .int 0, .int 0, .int 0]))]) s.heap.size = A at hD ⊢
  have hA : ∀ q : Nat, s.heap.size ≤ q → A q := fun q h => by rw [← hAe]; exact Or.inr h
  have hS : va_S A s.heap s.heap [] := va_S.rf
  have hP : va_P D vwCl ([(x, .inr (3, [.int 0, .int 0, .null, .null, .null, .int 0, .null, .int 0, .int 0, .int 0, .int 0, .int 0, .int 0, .int 0, .int 0, .int 0]))]) s.heap := hP
  have hl := lv_entry ([.ref x, .int l0, .int c0]) (n := 4) (Nat.le_of_ble_eq_true rfl)
  rw [lg_entry_eq]
  generalize (lg_sl ([.ref x, .int l0, .int c0]) ++ List.replicate (4 - (lg_sl ([.ref x, .int l0, .int c0])).length) Slot.unset).toArray = ls at hl ⊢
  have hl : lv_has ls 4 [(0, .ref x), (1, .int l0), (2, .int c0)] := hl
  refine lv_aload_n hx hb dX2_init_0 rfl (lv_at hl 0 rfl) ?_
  refine W.objInit hx hb hown (hts (.methodLink RX2 3 objectInit) (by decide +kernel)) (hts (.instanceMethod objectInit) (by decide +kernel)) (hts (.code objectInit ⟨#[0xb1]⟩ 1 none) (by decide +kernel)) rfl (by rw [hml]; exact hl.1) rfl dX2_init_1 (Nat.le_of_ble_eq_true rfl) (Nat.le_of_ble_eq_true rfl) ?_
  refine W.eq (g2 := F0 m 4 ls []) rfl ?_
  refine lv_aload_n hx hb dX2_init_4 rfl (lv_at hl 0 rfl) ?_
  refine lv_iload_n hx hb dX2_init_5 rfl (lv_at hl 1 rfl) ?_
  refine lv_bipush (v := 66) hx hb dX2_init_6 (by decide +kernel) ?_
  refine vp_callSi (W.runS (As := [.int l0, .int 66]) (rest := [.ref x]) ⟨hx, hb, hml, hown, hts⟩ (c_X2_heldTo l (l0) (66)) (va_cwS 2 hts gX2_init_X2_heldTo rfl rfl rfl (by decide +kernel) ⟨(Nat.le_of_ble_eq_true rfl), (Nat.le_of_ble_eq_true rfl)⟩) pu_pre rfl rfl hl.1 rfl (lv_room (Nat.le_of_ble_eq_true rfl)) dX2_init_8 ⟨(Nat.le_of_ble_eq_true rfl), (Nat.le_of_ble_eq_true rfl)⟩) (fun r_8 w_8 => ?_)
  subst w_8
  refine lv_topi (fun x_8 ex_8 => ?_)
  obtain rfl : x_8 = nI L := ex_8.trans hL
  refine va_putF (D := D) (ci := 3) (v := .int (nI L)) (ty := .int) (C := RX2) (T := TX2) (N := 16) hx hb hts hinX2 tyX2 tyX2_ok nmX2 hown hK.1 hP hD hS 0 rfl rfl 0 (by decide) (hts (.fieldLink RX2 13 "PrinterRows" "lines" "I") (by decide +kernel)) (fun _ h9 => h9) rfl hin rfl (by decide +kernel) rfl rfl (Nat.le_of_ble_eq_true rfl) dX2_init_11 (fun H locs hP hD hS => ?_)
  have hP : va_P D vwCl ([(x, .inr (3, [.int (nI L), .int 0, .null, .null, .null, .int 0, .null, .int 0, .int 0, .int 0, .int 0, .int 0, .int 0, .int 0, .int 0, .int 0]))]) H := hP
  have hD : va_D A ([(x, .inr (3, [.int (nI L), .int 0, .null, .null, .null, .int 0, .null, .int 0, .int 0, .int 0, .int 0, .int 0, .int 0, .int 0, .int 0, .int 0]))]) := hD
  refine lv_aload_n hx hb dX2_init_14 rfl (lv_at hl 0 rfl) ?_
  refine lv_iload_n hx hb dX2_init_15 rfl (lv_at hl 2 rfl) ?_
  refine lv_sipush (v := 132) hx hb dX2_init_16 (by decide +kernel) ?_
  refine vp_callSi (W.runS (As := [.int c0, .int 132]) (rest := [.ref x]) ⟨hx, hb, hml, hown, hts⟩ (c_X2_heldTo l (c0) (132)) (va_cwS 2 hts gX2_init_X2_heldTo rfl rfl rfl (by decide +kernel) ⟨(Nat.le_of_ble_eq_true rfl), (Nat.le_of_ble_eq_true rfl)⟩) pu_pre rfl rfl hl.1 rfl (lv_room (Nat.le_of_ble_eq_true rfl)) dX2_init_19 ⟨(Nat.le_of_ble_eq_true rfl), (Nat.le_of_ble_eq_true rfl)⟩) (fun r_19 w_19 => ?_)
  subst w_19
  refine lv_topi (fun x_19 ex_19 => ?_)
  obtain rfl : x_19 = nI C := ex_19.trans hC
  refine va_putF (D := D) (ci := 3) (v := .int (nI C)) (ty := .int) (C := RX2) (T := TX2) (N := 16) hx hb hts hinX2 tyX2 tyX2_ok nmX2 hown hK.1 hP hD hS 0 rfl rfl 1 (by decide) (hts (.fieldLink RX2 17 "PrinterRows" "columns" "I") (by decide +kernel)) (fun _ h9 => h9) rfl hin rfl (by decide +kernel) rfl rfl (Nat.le_of_ble_eq_true rfl) dX2_init_22 (fun H locs hP hD hS => ?_)
  have hP : va_P D vwCl ([(x, .inr (3, [.int (nI L), .int (nI C), .null, .null, .null, .int 0, .null, .int 0, .int 0, .int 0, .int 0, .int 0, .int 0, .int 0, .int 0, .int 0]))]) H := hP
  have hD : va_D A ([(x, .inr (3, [.int (nI L), .int (nI C), .null, .null, .null, .int 0, .null, .int 0, .int 0, .int 0, .int 0, .int 0, .int 0, .int 0, .int 0, .int 0]))]) := hD
  refine lv_aload_n hx hb dX2_init_25 rfl (lv_at hl 0 rfl) ?_
  refine lv_bipush (v := 13) hx hb dX2_init_26 (by decide +kernel) ?_
  refine va_newa (atype := .int) (ty := .int) hx hb (hts (.arrayClass .int) (by decide +kernel)) rfl hK.1 hP hD hS hA (n := 13) (N' := 13) (a0 := (13, .inl (fun _ => 0))) (fun _ => rfl) (by decide) (by decide) (by decide) (by show 0 + 1 ≤ 4; omega) (by show 0 + 13 ≤ 509; omega) dX2_init_28 (fun aC cA H hK2 hP hD hS => ?_)
  rw [show cA = cI from kI hK2] at hP hD
  have hP : va_P D vwCl ([(x, .inr (3, [.int (nI L), .int (nI C), .null, .null, .null, .int 0, .null, .int 0, .int 0, .int 0, .int 0, .int 0, .int 0, .int 0, .int 0, .int 0])), (aC, .inl (cI, 13, .inl (fun _ => 0)))]) H := hP
  have hD : va_D A ([(x, .inr (3, [.int (nI L), .int (nI C), .null, .null, .null, .int 0, .null, .int 0, .int 0, .int 0, .int 0, .int 0, .int 0, .int 0, .int 0, .int 0])), (aC, .inl (cI, 13, .inl (fun _ => 0)))]) := hD
  refine W.widen (k := 1) (n := 13) (by omega) (by omega) ?_
  refine va_putF (D := D) (ci := 3) (v := .ref aC) (ty := .array .int) (C := RX2) (T := TX2) (N := 16) hx hb hts hinX2 tyX2 tyX2_ok nmX2 hown hK.1 hP hD hS 0 rfl rfl 2 (by decide) (hts (.fieldLink RX2 20 "PrinterRows" "channelLines" "[I") (by decide +kernel)) (fun _ h9 => h9) rfl hin rfl (by decide +kernel) rfl rfl (Nat.le_of_ble_eq_true rfl) dX2_init_30 (fun H locs hP hD hS => ?_)
  have hP : va_P D vwCl ([(x, .inr (3, [.int (nI L), .int (nI C), .ref aC, .null, .null, .int 0, .null, .int 0, .int 0, .int 0, .int 0, .int 0, .int 0, .int 0, .int 0, .int 0])), (aC, .inl (cI, 13, .inl (fun _ => 0)))]) H := hP
  have hD : va_D A ([(x, .inr (3, [.int (nI L), .int (nI C), .ref aC, .null, .null, .int 0, .null, .int 0, .int 0, .int 0, .int 0, .int 0, .int 0, .int 0, .int 0, .int 0])), (aC, .inl (cI, 13, .inl (fun _ => 0)))]) := hD
  refine lv_aload_n hx hb dX2_init_33 rfl (lv_at hl 0 rfl) ?_
  refine va_get (D := D) (ci := 3) (v := .ref aC) (C := RX2) (T := TX2) (N := 16) hx hb hts hinX2 hown hK.1 hP 0 rfl rfl 2 (by decide) (hts (.fieldLink RX2 20 "PrinterRows" "channelLines" "[I") (by decide +kernel)) (fun _ h9 => h9) rfl dX2_init_34 ?_
  refine lv_iconst (v := (-1)) hx hb dX2_init_37 (by decide +kernel) ?_
  have hP : va_P D vwCl ([(x, .inr (3, [.int (nI L), .int (nI C), .ref aC, .null, .null, .int 0, .null, .int 0, .int 0, .int 0, .int 0, .int 0, .int 0, .int 0, .int 0, .int 0]))] ++ [(aC, .inl (cI, 13, .inl (fun _ => 0)))]) H := hP
  have hD : va_D A ([(x, .inr (3, [.int (nI L), .int (nI C), .ref aC, .null, .null, .int 0, .null, .int 0, .int 0, .int 0, .int 0, .int 0, .int 0, .int 0, .int 0, .int 0]))] ++ [(aC, .inl (cI, 13, .inl (fun _ => 0)))]) := hD
  refine callSv (wr := [(x, .inr (3, [.int (nI L), .int (nI C), .ref aC, .null, .null, .int 0, .null, .int 0, .int 0, .int 0, .int 0, .int 0, .int 0, .int 0, .int 0, .int 0]))]) (wc := [(aC, .inl (cI, 13, .inl (fun _ => 0)))]) (va_runS (As := [.ref aC, .int (-1)]) (rest := []) ⟨hx, hb, hml, hown, hts⟩ (c_J7_fill_53178 l (by decide) (-1)) (va_cwS 2 hts gX2_init_J7_fill_53178 rfl rfl rfl (by decide +kernel) ⟨(Nat.le_of_ble_eq_true rfl), (Nat.le_of_ble_eq_true rfl)⟩) (mu_preS hK (sufP hP) (sufD hD)) rfl rfl hl.1 rfl (lv_room (Nat.le_of_ble_eq_true rfl)) dX2_init_38 ⟨(Nat.le_of_ble_eq_true rfl), (Nat.le_of_ble_eq_true rfl)⟩) hP hD hS hA (fun u_38 H locs w_38 hP hD hS => ?_)
  have hP : va_P D vwCl ([(x, .inr (3, [.int (nI L), .int (nI C), .ref aC, .null, .null, .int 0, .null, .int 0, .int 0, .int 0, .int 0, .int 0, .int 0, .int 0, .int 0, .int 0])), (aC, .inl (cI, 13, .inl u_38))]) H := hP
  have hD : va_D A ([(x, .inr (3, [.int (nI L), .int (nI C), .ref aC, .null, .null, .int 0, .null, .int 0, .int 0, .int 0, .int 0, .int 0, .int 0, .int 0, .int 0, .int 0])), (aC, .inl (cI, 13, .inl u_38))]) := hD
  refine lv_aload_n hx hb dX2_init_41 rfl (lv_at hl 0 rfl) ?_
  refine lv_sipush (v := 256) hx hb dX2_init_42 (by decide +kernel) ?_
  refine va_newa (atype := .int) (ty := .int) hx hb (hts (.arrayClass .int) (by decide +kernel)) rfl hK.1 hP hD hS hA (n := 256) (N' := 256) (a0 := (256, .inl (fun _ => 0))) (fun _ => rfl) (by decide) (by decide) (by decide) (by show 1 + 1 ≤ 4; omega) (by show 13 + 256 ≤ 509; omega) dX2_init_45 (fun aT cA H hK2 hP hD hS => ?_)
  rw [show cA = cI from kI hK2] at hP hD
  have hP : va_P D vwCl ([(x, .inr (3, [.int (nI L), .int (nI C), .ref aC, .null, .null, .int 0, .null, .int 0, .int 0, .int 0, .int 0, .int 0, .int 0, .int 0, .int 0, .int 0])), (aC, .inl (cI, 13, .inl u_38)), (aT, .inl (cI, 256, .inl (fun _ => 0)))]) H := hP
  have hD : va_D A ([(x, .inr (3, [.int (nI L), .int (nI C), .ref aC, .null, .null, .int 0, .null, .int 0, .int 0, .int 0, .int 0, .int 0, .int 0, .int 0, .int 0, .int 0])), (aC, .inl (cI, 13, .inl u_38)), (aT, .inl (cI, 256, .inl (fun _ => 0)))]) := hD
  refine W.widen (k := 2) (n := 269) (by omega) (by omega) ?_
  refine va_putF (D := D) (ci := 3) (v := .ref aT) (ty := .array .int) (C := RX2) (T := TX2) (N := 16) hx hb hts hinX2 tyX2 tyX2_ok nmX2 hown hK.1 hP hD hS 0 rfl rfl 3 (by decide) (hts (.fieldLink RX2 30 "PrinterRows" "printedAs" "[I") (by decide +kernel)) (fun _ h9 => h9) rfl hin rfl (by decide +kernel) rfl rfl (Nat.le_of_ble_eq_true rfl) dX2_init_47 (fun H locs hP hD hS => ?_)
  have hP : va_P D vwCl ([(x, .inr (3, [.int (nI L), .int (nI C), .ref aC, .ref aT, .null, .int 0, .null, .int 0, .int 0, .int 0, .int 0, .int 0, .int 0, .int 0, .int 0, .int 0])), (aC, .inl (cI, 13, .inl u_38)), (aT, .inl (cI, 256, .inl (fun _ => 0)))]) H := hP
  have hD : va_D A ([(x, .inr (3, [.int (nI L), .int (nI C), .ref aC, .ref aT, .null, .int 0, .null, .int 0, .int 0, .int 0, .int 0, .int 0, .int 0, .int 0, .int 0, .int 0])), (aC, .inl (cI, 13, .inl u_38)), (aT, .inl (cI, 256, .inl (fun _ => 0)))]) := hD
  refine lv_iconst (v := 0) hx hb dX2_init_50 (by decide +kernel) ?_
  refine lv_istore_n (lv' := [(3, .int 0), (0, .ref x), (1, .int l0), (2, .int c0)]) hx hb dX2_init_51 rfl hl (by decide) rfl (fun ls hl => ?_)
  have loop : ∀ (n : Nat) (i : Nat) (g : Nat → Int32) (H : Heap) (locs : List Loc) (ls : Array Slot), (i ≤ 256) → (256 - i < n) → (∀ j, j < i → g j = nI j) → va_P D vwCl ([(x, .inr (3, [.int (nI L), .int (nI C), .ref aC, .ref aT, .null, .int 0, .null, .int 0, .int 0, .int 0, .int 0, .int 0, .int 0, .int 0, .int 0, .int 0])), (aC, .inl (cI, 13, .inl u_38)), (aT, .inl (cI, 256, .inl g))]) H → va_D A ([(x, .inr (3, [.int (nI L), .int (nI C), .ref aC, .ref aT, .null, .int 0, .null, .int 0, .int 0, .int 0, .int 0, .int 0, .int 0, .int 0, .int 0, .int 0])), (aC, .inl (cI, 13, .inl u_38)), (aT, .inl (cI, 256, .inl g))]) → va_S A s.heap H locs → lv_has ls 4 [(0, .ref x), (1, .int l0), (2, .int c0), (3, .int (nI i))] → W p l e (headSpec wsX2_init ({ frames := 2, cells := 4, slots := 509, locals := 35 })).room s m (([.ref x, .int l0, .int c0] : List Value).toArray) below meth c H locs 2 269 (MQ below (qv D (fun (u : (Nat × Nat × Nat × Nat) × (Nat → Int32) × (Nat → Int32)) => (∀ k, k < 13 → u.2.1 k = -1) ∧ ∀ k, k < 256 → u.2.2 k = nI k) (fun u : (Nat × Nat × Nat × Nat) × (Nat → Int32) × (Nat → Int32) => wX cI cP x u.1.1 u.1.2.1 u.1.2.2.1 u.1.2.2.2 (nI L) (nI C) (nI 0) (nI 0) (zb false) (nI 0) 0 0 0 0 0 0 u.2.1 u.2.2 (fun _ => 0) (fun _ => none) []) (A)) (([.ref x, .int l0, .int c0] : List Value).toArray) s 4 509 A) (F0 m 52 ls []) := by
    intro n
    induction n with
    | zero => intro i g H locs ls hi hn hg hP hD hS hl; exact absurd hn (Nat.not_lt_zero _)
    | succ n ih =>
      intro i g H locs ls hi hn hg hP hD hS hl
      refine lv_iload_n hx hb dX2_init_52 rfl (lv_at hl 3 rfl) ?_
      refine lv_sipush (v := 256) hx hb dX2_init_53 (by decide +kernel) ?_
      refine lv_icmp_ge (tgt := 72) hx hb dX2_init_56 (by decide) (fun c_56 => ?_) (fun c_56 => ?_)
      ·
        have hie : 256 = i := by have := (nI_leI (a := 256) (by decide) (by omega)).mp c_56; omega
        subst hie
        refine lv_aload_n hx hb dX2_init_72 rfl (lv_at hl 0 rfl) ?_
        refine lv_sipush (v := 200) hx hb dX2_init_73 (by decide +kernel) ?_
        refine va_newa (atype := .int) (ty := .int) hx hb (hts (.arrayClass .int) (by decide +kernel)) rfl hK.1 hP hD hS hA (n := 200) (N' := 200) (a0 := (200, .inl (fun _ => 0))) (fun _ => rfl) (by decide) (by decide) (by decide) (by show 2 + 1 ≤ 4; omega) (by show 269 + 200 ≤ 509; omega) dX2_init_76 (fun aR cA H hK2 hP hD hS => ?_)
        rw [show cA = cI from kI hK2] at hP hD
        have hP : va_P D vwCl ([(x, .inr (3, [.int (nI L), .int (nI C), .ref aC, .ref aT, .null, .int 0, .null, .int 0, .int 0, .int 0, .int 0, .int 0, .int 0, .int 0, .int 0, .int 0])), (aC, .inl (cI, 13, .inl u_38)), (aT, .inl (cI, 256, .inl g)), (aR, .inl (cI, 200, .inl (fun _ => 0)))]) H := hP
        have hD : va_D A ([(x, .inr (3, [.int (nI L), .int (nI C), .ref aC, .ref aT, .null, .int 0, .null, .int 0, .int 0, .int 0, .int 0, .int 0, .int 0, .int 0, .int 0, .int 0])), (aC, .inl (cI, 13, .inl u_38)), (aT, .inl (cI, 256, .inl g)), (aR, .inl (cI, 200, .inl (fun _ => 0)))]) := hD
        refine W.widen (k := 3) (n := 469) (by omega) (by omega) ?_
        refine va_putF (D := D) (ci := 3) (v := .ref aR) (ty := .array .int) (C := RX2) (T := TX2) (N := 16) hx hb hts hinX2 tyX2 tyX2_ok nmX2 hown hK.1 hP hD hS 0 rfl rfl 4 (by decide) (hts (.fieldLink RX2 33 "PrinterRows" "record" "[I") (by decide +kernel)) (fun _ h9 => h9) rfl hin rfl (by decide +kernel) rfl rfl (Nat.le_of_ble_eq_true rfl) dX2_init_78 (fun H locs hP hD hS => ?_)
        have hP : va_P D vwCl ([(x, .inr (3, [.int (nI L), .int (nI C), .ref aC, .ref aT, .ref aR, .int 0, .null, .int 0, .int 0, .int 0, .int 0, .int 0, .int 0, .int 0, .int 0, .int 0])), (aC, .inl (cI, 13, .inl u_38)), (aT, .inl (cI, 256, .inl g)), (aR, .inl (cI, 200, .inl (fun _ => 0)))]) H := hP
        have hD : va_D A ([(x, .inr (3, [.int (nI L), .int (nI C), .ref aC, .ref aT, .ref aR, .int 0, .null, .int 0, .int 0, .int 0, .int 0, .int 0, .int 0, .int 0, .int 0, .int 0])), (aC, .inl (cI, 13, .inl u_38)), (aT, .inl (cI, 256, .inl g)), (aR, .inl (cI, 200, .inl (fun _ => 0)))]) := hD
        refine lv_aload_n hx hb dX2_init_81 rfl (lv_at hl 0 rfl) ?_
        refine lv_bipush (v := 40) hx hb dX2_init_82 (by decide +kernel) ?_
        refine va_newq (C := "PrinterRows$Page") hx hb hown (hts (.classLink RX2 36 RX0) (by decide +kernel)) hK.2.1 hK.1 hP hD hS hA (n := 40) (N' := 40) (by decide) (by decide) (by decide) (by show 3 + 1 ≤ 4; omega) (by show 469 + 40 ≤ 509; omega) dX2_init_84 (fun aP cA H hK2 hP hD hS => ?_)
        rw [show cA = cP from kP hK2] at hP hD
        have hP : va_P D vwCl ([(x, .inr (3, [.int (nI L), .int (nI C), .ref aC, .ref aT, .ref aR, .int 0, .null, .int 0, .int 0, .int 0, .int 0, .int 0, .int 0, .int 0, .int 0, .int 0])), (aC, .inl (cI, 13, .inl u_38)), (aT, .inl (cI, 256, .inl g)), (aR, .inl (cI, 200, .inl (fun _ => 0))), (aP, .inl (cP, 40, .inr (.inr (.inr (.inr (fun _ => none))))))]) H := hP
        have hD : va_D A ([(x, .inr (3, [.int (nI L), .int (nI C), .ref aC, .ref aT, .ref aR, .int 0, .null, .int 0, .int 0, .int 0, .int 0, .int 0, .int 0, .int 0, .int 0, .int 0])), (aC, .inl (cI, 13, .inl u_38)), (aT, .inl (cI, 256, .inl g)), (aR, .inl (cI, 200, .inl (fun _ => 0))), (aP, .inl (cP, 40, .inr (.inr (.inr (.inr (fun _ => none))))))]) := hD
        refine W.widen (k := 4) (n := 509) (by omega) (by omega) ?_
        refine va_putF (D := D) (ci := 3) (v := .ref aP) (ty := .array (.object "PrinterRows$Page")) (C := RX2) (T := TX2) (N := 16) hx hb hts hinX2 tyX2 tyX2_ok nmX2 hown hK.1 hP hD hS 0 rfl rfl 6 (by decide) (hts (.fieldLink RX2 38 "PrinterRows" "pages" "[LPrinterRows$Page;") (by decide +kernel)) (fun _ h9 => h9) rfl hin rfl (by decide +kernel) rfl rfl (Nat.le_of_ble_eq_true rfl) dX2_init_87 (fun H locs hP hD hS => ?_)
        have hP : va_P D vwCl ([(x, .inr (3, [.int (nI L), .int (nI C), .ref aC, .ref aT, .ref aR, .int 0, .ref aP, .int 0, .int 0, .int 0, .int 0, .int 0, .int 0, .int 0, .int 0, .int 0])), (aC, .inl (cI, 13, .inl u_38)), (aT, .inl (cI, 256, .inl g)), (aR, .inl (cI, 200, .inl (fun _ => 0))), (aP, .inl (cP, 40, .inr (.inr (.inr (.inr (fun _ => none))))))]) H := hP
        have hD : va_D A ([(x, .inr (3, [.int (nI L), .int (nI C), .ref aC, .ref aT, .ref aR, .int 0, .ref aP, .int 0, .int 0, .int 0, .int 0, .int 0, .int 0, .int 0, .int 0, .int 0])), (aC, .inl (cI, 13, .inl u_38)), (aT, .inl (cI, 256, .inl g)), (aR, .inl (cI, 200, .inl (fun _ => 0))), (aP, .inl (cP, 40, .inr (.inr (.inr (.inr (fun _ => none))))))]) := hD
        refine W.widen (k := 4) (n := 509) (by omega) (by omega) ?_
        exact W.vret hx hb hr (fun t ht hW => ⟨⟨((aC, aT, aR, aP), u_38, g), rfl, ⟨w_38, hg⟩, by rw [ht]; exact hP, hD⟩, hS.F ht⟩) hS.2.2 dX2_init_90
      ·
        have hlt : i < 256 := Nat.lt_of_not_le (fun h9 => c_56 (nI_le (a := 256) h9 (by omega)))
        refine lv_aload_n hx hb dX2_init_59 rfl (lv_at hl 0 rfl) ?_
        refine va_get (D := D) (ci := 3) (v := .ref aT) (C := RX2) (T := TX2) (N := 16) hx hb hts hinX2 hown hK.1 hP 0 rfl rfl 3 (by decide) (hts (.fieldLink RX2 30 "PrinterRows" "printedAs" "[I") (by decide +kernel)) (fun _ h9 => h9) rfl dX2_init_60 ?_
        refine lv_iload_n hx hb dX2_init_63 rfl (lv_at hl 3 rfl) ?_
        refine lv_iload_n hx hb dX2_init_64 rfl (lv_at hl 3 rfl) ?_
        refine va_iast hx hb hK.1 hP hD hS 2 0 rfl rfl (vp_in_nI hlt (by decide)) dX2_init_65 (fun H locs hP hD hS => ?_)
        rw [show (upd g ((nI i)).toNatClampNeg (nI i)) = (upd g i (nI i)) from by rw [nI_clamp (by omega)]] at hP hD
        have hP : va_P D vwCl ([(x, .inr (3, [.int (nI L), .int (nI C), .ref aC, .ref aT, .null, .int 0, .null, .int 0, .int 0, .int 0, .int 0, .int 0, .int 0, .int 0, .int 0, .int 0])), (aC, .inl (cI, 13, .inl u_38)), (aT, .inl (cI, 256, .inl (upd g i (nI i))))]) H := hP
        have hD : va_D A ([(x, .inr (3, [.int (nI L), .int (nI C), .ref aC, .ref aT, .null, .int 0, .null, .int 0, .int 0, .int 0, .int 0, .int 0, .int 0, .int 0, .int 0, .int 0])), (aC, .inl (cI, 13, .inl u_38)), (aT, .inl (cI, 256, .inl (upd g i (nI i))))]) := hD
        refine lv_iinc (v := (nI (i + 1))) (lv' := [(3, .int (nI (i + 1))), (0, .ref x), (1, .int l0), (2, .int c0)]) hx hb dX2_init_66 hl (k := 3) rfl (nI_1 i) (by decide) rfl (fun ls hl => ?_)
        refine lv_goto (tgt := 52) hx hb dX2_init_69 (by decide) ?_
        exact ih (i + 1) _ _ _ _ (by omega) (by omega) (id_step hg) hP hD hS (lv_sub hl [1, 2, 3, 0] rfl)
  exact loop 257 0 (fun _ => 0) _ _ _ (Nat.zero_le _) (by omega) (fun j hj => absurd hj (Nat.not_lt_zero j)) hP hD hS (lv_sub hl [1, 2, 3, 0] rfl)
end
section
/-! the reference: its cells; what is pure in it -/
def mF (th L C : Int32) (mS mC mT mR mA : Nat) (rl bg st mk on tp tl tb : Int32) : List Value := [.int th, .int L, .int C, .ref mS, .ref mC, .ref mT, .ref mR, .ref mA, .int rl, .int bg, .int st, .int mk, .int on, .int tp, .int tl, .int tb]
def wM (cI : ClassId) (m0 mS mC mT mR mA : Nat) (th L C rl bg st mk on tp tl tb : Int32) (sg ch tr rc ta : Nat → Int32) : va_W :=
  [(m0, .inr (4, mF th L C mS mC mT mR mA rl bg st mk on tp tl tb)), (mS, .inl (cI, 348480, .inl sg)), (mC, .inl (cI, 13, .inl ch)), (mT, .inl (cI, 256, .inl tr)), (mR, .inl (cI, 200, .inl rc)), (mA, .inl (cI, 8, .inl ta))]
theorem i32_nlt {x y : Int32} (h : ¬ x < y) : ¬ x.toInt < y.toInt := fun z => h (i32_lt.mpr z)
theorem i32_nle {x y : Int32} (h : ¬ x ≤ y) : ¬ x.toInt ≤ y.toInt := fun z => h (i32_le.mpr z)
theorem mx_le {a b : Int32} (h : a ≤ b) : mx a b = b := by
  unfold mx
  by_cases q : a < b
  · rw [if_pos q]
  · rw [if_neg q]
    rw [i32_lt] at q; rw [i32_le] at h
    exact i32_ext (by omega)
theorem mx_nle {a b : Int32} (h : ¬ a ≤ b) : mx a b = a := by
  unfold mx
  rw [if_neg (fun q => h (by rw [i32_lt] at q; rw [i32_le]; omega))]
theorem sub55 (c : Int32) : c - 65 + 10 = c - 55 := by
  rw [Int32.sub_eq_add_neg, Int32.sub_eq_add_neg, Int32.add_assoc]
  rfl
/-- the channel of a code, by cases -/
theorem chOf_cases (c : Int32) : ((49 ≤ c.toInt ∧ c.toInt ≤ 57) ∧ chOf c = c - 48 ∧ (chOf c).toInt = c.toInt - 48) ∨ ((65 ≤ c.toInt ∧ c.toInt ≤ 67) ∧ chOf c = c - 55 ∧ (chOf c).toInt = c.toInt - 55) ∨ ((273 ≤ c.toInt ∧ c.toInt ≤ 284) ∧ chOf c = c - 272 ∧ (chOf c).toInt = c.toInt - 272) ∨ ((¬ (49 ≤ c.toInt ∧ c.toInt ≤ 57) ∧ ¬ (65 ≤ c.toInt ∧ c.toInt ≤ 67) ∧ ¬ (273 ≤ c.toInt ∧ c.toInt ≤ 284)) ∧ chOf c = -1) := by
  have e49 : (49 : Int32).toInt = 49 := rfl
  have e57 : (57 : Int32).toInt = 57 := rfl
  have e65 : (65 : Int32).toInt = 65 := rfl
  have e67 : (67 : Int32).toInt = 67 := rfl
  have e48 : (48 : Int32).toInt = 48 := rfl
  have e55 : (55 : Int32).toInt = 55 := rfl
  have e272 : (272 : Int32).toInt = 272 := rfl
  have hc := i32 c
  have s48 : 49 ≤ c.toInt → (c - 48).toInt = c.toInt - 48 := fun h => by have := i32 (c - 48); rcases i32_sub c 48 with e | e | e <;> rw [e48] at e <;> omega
  have s55 : 49 ≤ c.toInt → (c - 55).toInt = c.toInt - 55 := fun h => by have := i32 (c - 55); rcases i32_sub c 55 with e | e | e <;> rw [e55] at e <;> omega
  have last : (if zb (isCh (c - 272)) = 0 then (-1 : Int32) else c - 272) = if 273 ≤ c.toInt ∧ c.toInt ≤ 284 then c - 272 else -1 := by
    have h9 := i32 (c - 272)
    by_cases q : zb (isCh (c - 272)) = 0
    · rw [if_pos q]
      have q2 := zb0.mp q
      rw [if_neg (fun z => by
        have h1 : isCh (c - 272) = true := isCh_iff.mpr (by rcases i32_sub c 272 with e | e | e <;> rw [e272] at e <;> omega)
        rw [h1] at q2; cases q2)]
    · rw [if_neg q]
      have q2 := isCh_iff.mp (zb1.mp q)
      rw [if_pos (by rcases i32_sub c 272 with e | e | e <;> rw [e272] at e <;> omega)]
  have s272 : 273 ≤ c.toInt → (c - 272).toInt = c.toInt - 272 := fun h => by have := i32 (c - 272); rcases i32_sub c 272 with e | e | e <;> rw [e272] at e <;> omega
  have fin : ¬ (49 ≤ c.toInt ∧ c.toInt ≤ 57) → ¬ (65 ≤ c.toInt ∧ c.toInt ≤ 67) → chOf c = (if zb (isCh (c - 272)) = 0 then (-1 : Int32) else c - 272) → ((273 ≤ c.toInt ∧ c.toInt ≤ 284) ∧ chOf c = c - 272 ∧ (chOf c).toInt = c.toInt - 272) ∨ ((¬ (49 ≤ c.toInt ∧ c.toInt ≤ 57) ∧ ¬ (65 ≤ c.toInt ∧ c.toInt ≤ 67) ∧ ¬ (273 ≤ c.toInt ∧ c.toInt ≤ 284)) ∧ chOf c = -1) := fun h1 h2 h3 => by
    rw [last] at h3
    by_cases q : 273 ≤ c.toInt ∧ c.toInt ≤ 284
    · rw [if_pos q] at h3
      exact Or.inl ⟨q, h3, by rw [h3]; exact s272 q.1⟩
    · rw [if_neg q] at h3
      exact Or.inr ⟨⟨h1, h2, q⟩, h3⟩
  by_cases h1 : c < 49
  · have h1' := i32_lt.mp h1
    have h2 : c < 65 := i32_lt.mpr (by omega)
    exact Or.inr (Or.inr (fin (by omega) (by omega) (by unfold chOf; rw [if_pos h1, if_pos h2])))
  · have h1' := i32_nlt h1
    by_cases h2 : 57 < c
    · have h2' := i32_lt.mp h2
      by_cases h3 : c < 65
      · have h3' := i32_lt.mp h3
        exact Or.inr (Or.inr (fin (by omega) (by omega) (by unfold chOf; rw [if_neg h1, if_pos h2, if_pos h3])))
      · have h3' := i32_nlt h3
        by_cases h4 : 67 < c
        · have h4' := i32_lt.mp h4
          exact Or.inr (Or.inr (fin (by omega) (by omega) (by unfold chOf; rw [if_neg h1, if_pos h2, if_neg h3, if_pos h4])))
        · have h4' := i32_nlt h4
          have e : chOf c = c - 55 := by unfold chOf; rw [if_neg h1, if_pos h2, if_neg h3, if_neg h4, sub55]
          exact Or.inr (Or.inl ⟨by omega, e, by rw [e]; exact s55 (by omega)⟩)
    · have h2' := i32_nlt h2
      have e : chOf c = c - 48 := by unfold chOf; rw [if_neg h1, if_neg h2]
      exact Or.inl ⟨by omega, e, by rw [e]; exact s48 (by omega)⟩
def coN (c : Int32) : Int32 := if zb (isCh (chOf c)) = 0 then 0 else chOf c
theorem coN_of {c v : Int32} (h : isCh (chOf c) = true) (e : chOf c = v) : v = coN c := by
  unfold coN; rw [if_neg (zb1.mpr h), e]
theorem coN_no {c : Int32} (h : chOf c = -1) : 0 = coN c := by
  unfold coN; rw [h]; decide +kernel

set_option maxHeartbeats 1000000 in
set_option maxRecDepth 100000 in
theorem c_X3_darker (l : Launch) (a0 b0 : Int32) : Met l yX3_darker wsX3_darker ({ frames := 0, cells := 0, slots := 0, locals := 0 }) (pu [.int a0, .int b0]) (vp_Si (fun r => r = mx a0 b0)) 0 0 (fun _ => False) := by
  refine Met.ofW (cc := cX3_darker) (maxL := 2) (ret := (some .int)) (by decide) rfl ?_
  intro p e s m args below meth c s₁ B hml hv
  obtain ⟨rfl, -⟩ := hv
  have hx := B.exec
  have hb := B.bytes
  have hr := B.returns
  have hts := atoms_spec (ws := wsX3_darker) B.pre
  have hown : s.vm.findClass RX3 = some m.cls := findClass_of_methodNamed B.named
  have hlocks := B.notSynchronized
  have hl := lv_entry ([.int a0, .int b0]) (n := 2) (Nat.le_of_ble_eq_true rfl)
  rw [lg_entry_eq]
  generalize (lg_sl ([.int a0, .int b0]) ++ List.replicate (2 - (lg_sl ([.int a0, .int b0])).length) Slot.unset).toArray = ls at hl ⊢
  have hl : lv_has ls 2 [(0, .int a0), (1, .int b0)] := hl
  refine lv_iload_n hx hb dX3_darker_0 rfl (lv_at hl 0 rfl) ?_
  refine lv_iload_n hx hb dX3_darker_1 rfl (lv_at hl 1 rfl) ?_
  refine lv_icmp_le (tgt := 9) hx hb dX3_darker_2 (by decide) (fun c_2 => ?_) (fun c_2 => ?_)
  ·
    refine lv_iload_n hx hb dX3_darker_9 rfl (lv_at hl 1 rfl) ?_
    exact W.iret (v := b0) hx hb hr (fun t ht hW => ⟨_, rfl, (mx_le c_2).symm, ht⟩) (fun q h => by cases h) dX3_darker_10
  ·
    refine lv_iload_n hx hb dX3_darker_5 rfl (lv_at hl 0 rfl) ?_
    refine lv_goto (tgt := 10) hx hb dX3_darker_6 (by decide) ?_
    exact W.iret (v := a0) hx hb hr (fun t ht hW => ⟨_, rfl, (mx_nle c_2).symm, ht⟩) (fun q h => by cases h) dX3_darker_10

theorem sg_no {c : Int32} (h : c.toInt ≤ 31 ∨ 256 ≤ c.toInt) : 0 = zb (isSg c) := by
  cases h9 : isSg c with
  | false => rfl
  | true =>
    have h8 := isSg_iff.mp h9
    omega
theorem sg_yes {c : Int32} (h : 31 < c.toInt ∧ c.toInt < 256) : 1 = zb (isSg c) := by
  rw [isSg_iff.mpr (by omega)]; rfl

set_option maxHeartbeats 1000000 in
set_option maxRecDepth 100000 in
theorem c_X3_isSign (l : Launch) (c0 : Int32) : Met l yX3_isSign wsX3_isSign ({ frames := 0, cells := 0, slots := 0, locals := 0 }) (pu [.int c0]) (vp_Si (fun r => r = zb (isSg c0))) 0 0 (fun _ => False) := by
  refine Met.ofW (cc := cX3_isSign) (maxL := 1) (ret := (some .boolean)) (by decide) rfl ?_
  intro p e s m args below meth c s₁ B hml hv
  obtain ⟨rfl, -⟩ := hv
  have hx := B.exec
  have hb := B.bytes
  have hr := B.returns
  have hts := atoms_spec (ws := wsX3_isSign) B.pre
  have hown : s.vm.findClass RX3 = some m.cls := findClass_of_methodNamed B.named
  have hlocks := B.notSynchronized
  have hl := lv_entry ([.int c0]) (n := 1) (Nat.le_of_ble_eq_true rfl)
  rw [lg_entry_eq]
  generalize (lg_sl ([.int c0]) ++ List.replicate (1 - (lg_sl ([.int c0])).length) Slot.unset).toArray = ls at hl ⊢
  have hl : lv_has ls 1 [(0, .int c0)] := hl
  refine lv_iload_n hx hb dX3_isSign_0 rfl (lv_at hl 0 rfl) ?_
  refine lv_bipush (v := 31) hx hb dX3_isSign_1 (by decide +kernel) ?_
  refine lv_icmp_le (tgt := 17) hx hb dX3_isSign_3 (by decide) (fun c_3 => ?_) (fun c_3 => ?_)
  ·
    refine lv_iconst (v := 0) hx hb dX3_isSign_17 (by decide +kernel) ?_
    exact W.zret (v := 0) hx hb hr (by decide +kernel) (fun t ht hW => ⟨_, rfl, sg_no (Or.inl (i32_le.mp c_3)), ht⟩) (fun q h => by cases h) dX3_isSign_18
  ·
    refine lv_iload_n hx hb dX3_isSign_6 rfl (lv_at hl 0 rfl) ?_
    refine lv_sipush (v := 256) hx hb dX3_isSign_7 (by decide +kernel) ?_
    refine lv_icmp_ge (tgt := 17) hx hb dX3_isSign_10 (by decide) (fun c_10 => ?_) (fun c_10 => ?_)
    ·
      refine lv_iconst (v := 0) hx hb dX3_isSign_17 (by decide +kernel) ?_
      exact W.zret (v := 0) hx hb hr (by decide +kernel) (fun t ht hW => ⟨_, rfl, sg_no (Or.inr (i32_le.mp c_10)), ht⟩) (fun q h => by cases h) dX3_isSign_18
    ·
      refine lv_iconst (v := 1) hx hb dX3_isSign_13 (by decide +kernel) ?_
      refine lv_goto (tgt := 18) hx hb dX3_isSign_14 (by decide) ?_
      exact W.zret (v := 1) hx hb hr (by decide +kernel) (fun t ht hW => ⟨_, rfl, sg_yes ⟨Int.lt_of_not_ge (fun h9 => c_3 (i32_le.mpr h9)), Int.lt_of_not_ge (fun h9 => c_10 (i32_le.mpr h9))⟩, ht⟩) (fun q h => by cases h) dX3_isSign_18

set_option maxHeartbeats 1000000 in
set_option maxRecDepth 100000 in
theorem c_X3_channelOf (l : Launch) (c0 : Int32) : Met l yX3_channelOf wsX3_channelOf ({ frames := 0, cells := 0, slots := 0, locals := 0 }) (pu [.int c0]) (vp_Si (fun r => r = coN c0)) 0 0 (fun _ => False) := by
  refine Met.ofW (cc := cX3_channelOf) (maxL := 1) (ret := (some .int)) (by decide) rfl ?_
  intro p e s m args below meth c s₁ B hml hv
  obtain ⟨rfl, -⟩ := hv
  have hx := B.exec
  have hb := B.bytes
  have hr := B.returns
  have hts := atoms_spec (ws := wsX3_channelOf) B.pre
  have hown : s.vm.findClass RX3 = some m.cls := findClass_of_methodNamed B.named
  have hlocks := B.notSynchronized
  have hl := lv_entry ([.int c0]) (n := 1) (Nat.le_of_ble_eq_true rfl)
  rw [lg_entry_eq]
  generalize (lg_sl ([.int c0]) ++ List.replicate (1 - (lg_sl ([.int c0])).length) Slot.unset).toArray = ls at hl ⊢
  have hl : lv_has ls 1 [(0, .int c0)] := hl
  refine lv_iload_n hx hb dX3_channelOf_0 rfl (lv_at hl 0 rfl) ?_
  refine lv_bipush (v := 49) hx hb dX3_channelOf_1 (by decide +kernel) ?_
  refine lv_icmp_lt (tgt := 19) hx hb dX3_channelOf_3 (by decide) (fun c_3 => ?_) (fun c_3 => ?_)
  ·
    refine lv_iload_n hx hb dX3_channelOf_19 rfl (lv_at hl 0 rfl) ?_
    refine lv_bipush (v := 65) hx hb dX3_channelOf_20 (by decide +kernel) ?_
    refine lv_icmp_lt (tgt := 38) hx hb dX3_channelOf_22 (by decide) (fun c_22 => ?_) (fun c_22 => ?_)
    ·
      refine lv_iload_n hx hb dX3_channelOf_38 rfl (lv_at hl 0 rfl) ?_
      refine lv_sipush (v := 273) hx hb dX3_channelOf_39 (by decide +kernel) ?_
      refine lv_icmp_lt (tgt := 60) hx hb dX3_channelOf_42 (by decide) (fun c_42 => ?_) (fun c_42 => ?_)
      ·
        refine lv_iconst (v := 0) hx hb dX3_channelOf_60 (by decide +kernel) ?_
        have f_3 := i32_lt.mp c_3
        have f_22 := i32_lt.mp c_22
        have f_42 := i32_lt.mp c_42
        have e49 : (49 : Int32).toInt = 49 := rfl
        have e57 : (57 : Int32).toInt = 57 := rfl
        have e65 : (65 : Int32).toInt = 65 := rfl
        have e67 : (67 : Int32).toInt = 67 := rfl
        have e273 : (273 : Int32).toInt = 273 := rfl
        have e284 : (284 : Int32).toInt = 284 := rfl
        have hq : 0 = coN c0 := by
          rcases chOf_cases c0 with ⟨h1, h2, h3⟩ | ⟨h1, h2, h3⟩ | ⟨h1, h2, h3⟩ | ⟨h1, h2⟩
          · first | exact coN_of (isCh_iff.mpr (by omega)) h2 | (exfalso; omega)
          · first | exact coN_of (isCh_iff.mpr (by omega)) h2 | (exfalso; omega)
          · first | exact coN_of (isCh_iff.mpr (by omega)) h2 | (exfalso; omega)
          · first | exact coN_no h2 | (exfalso; omega)
        exact W.iret (v := 0) hx hb hr (fun t ht hW => ⟨_, rfl, hq, ht⟩) (fun q h => by cases h) dX3_channelOf_61
      ·
        refine lv_iload_n hx hb dX3_channelOf_45 rfl (lv_at hl 0 rfl) ?_
        refine lv_sipush (v := 284) hx hb dX3_channelOf_46 (by decide +kernel) ?_
        refine lv_icmp_gt (tgt := 60) hx hb dX3_channelOf_49 (by decide) (fun c_49 => ?_) (fun c_49 => ?_)
        ·
          refine lv_iconst (v := 0) hx hb dX3_channelOf_60 (by decide +kernel) ?_
          have f_3 := i32_lt.mp c_3
          have f_22 := i32_lt.mp c_22
          have f_42 := i32_nlt c_42
          have f_49 := i32_lt.mp c_49
          have e49 : (49 : Int32).toInt = 49 := rfl
          have e57 : (57 : Int32).toInt = 57 := rfl
          have e65 : (65 : Int32).toInt = 65 := rfl
          have e67 : (67 : Int32).toInt = 67 := rfl
          have e273 : (273 : Int32).toInt = 273 := rfl
          have e284 : (284 : Int32).toInt = 284 := rfl
          have hq : 0 = coN c0 := by
            rcases chOf_cases c0 with ⟨h1, h2, h3⟩ | ⟨h1, h2, h3⟩ | ⟨h1, h2, h3⟩ | ⟨h1, h2⟩
            · first | exact coN_of (isCh_iff.mpr (by omega)) h2 | (exfalso; omega)
            · first | exact coN_of (isCh_iff.mpr (by omega)) h2 | (exfalso; omega)
            · first | exact coN_of (isCh_iff.mpr (by omega)) h2 | (exfalso; omega)
            · first | exact coN_no h2 | (exfalso; omega)
          exact W.iret (v := 0) hx hb hr (fun t ht hW => ⟨_, rfl, hq, ht⟩) (fun q h => by cases h) dX3_channelOf_61
        ·
          refine lv_iload_n hx hb dX3_channelOf_52 rfl (lv_at hl 0 rfl) ?_
          refine lv_sipush (v := 272) hx hb dX3_channelOf_53 (by decide +kernel) ?_
          refine lv_isub hx hb dX3_channelOf_56 ?_
          refine lv_goto (tgt := 61) hx hb dX3_channelOf_57 (by decide) ?_
          have f_3 := i32_lt.mp c_3
          have f_22 := i32_lt.mp c_22
          have f_42 := i32_nlt c_42
          have f_49 := i32_nlt c_49
          have e49 : (49 : Int32).toInt = 49 := rfl
          have e57 : (57 : Int32).toInt = 57 := rfl
          have e65 : (65 : Int32).toInt = 65 := rfl
          have e67 : (67 : Int32).toInt = 67 := rfl
          have e273 : (273 : Int32).toInt = 273 := rfl
          have e284 : (284 : Int32).toInt = 284 := rfl
          have hq : (c0 - 272) = coN c0 := by
            rcases chOf_cases c0 with ⟨h1, h2, h3⟩ | ⟨h1, h2, h3⟩ | ⟨h1, h2, h3⟩ | ⟨h1, h2⟩
            · first | exact coN_of (isCh_iff.mpr (by omega)) h2 | (exfalso; omega)
            · first | exact coN_of (isCh_iff.mpr (by omega)) h2 | (exfalso; omega)
            · first | exact coN_of (isCh_iff.mpr (by omega)) h2 | (exfalso; omega)
            · first | exact coN_no h2 | (exfalso; omega)
          exact W.iret (v := (c0 - 272)) hx hb hr (fun t ht hW => ⟨_, rfl, hq, ht⟩) (fun q h => by cases h) dX3_channelOf_61
    ·
      refine lv_iload_n hx hb dX3_channelOf_25 rfl (lv_at hl 0 rfl) ?_
      refine lv_bipush (v := 67) hx hb dX3_channelOf_26 (by decide +kernel) ?_
      refine lv_icmp_gt (tgt := 38) hx hb dX3_channelOf_28 (by decide) (fun c_28 => ?_) (fun c_28 => ?_)
      ·
        refine lv_iload_n hx hb dX3_channelOf_38 rfl (lv_at hl 0 rfl) ?_
        refine lv_sipush (v := 273) hx hb dX3_channelOf_39 (by decide +kernel) ?_
        refine lv_icmp_lt (tgt := 60) hx hb dX3_channelOf_42 (by decide) (fun c_42 => ?_) (fun c_42 => ?_)
        ·
          refine lv_iconst (v := 0) hx hb dX3_channelOf_60 (by decide +kernel) ?_
          have f_3 := i32_lt.mp c_3
          have f_22 := i32_nlt c_22
          have f_28 := i32_lt.mp c_28
          have f_42 := i32_lt.mp c_42
          have e49 : (49 : Int32).toInt = 49 := rfl
          have e57 : (57 : Int32).toInt = 57 := rfl
          have e65 : (65 : Int32).toInt = 65 := rfl
          have e67 : (67 : Int32).toInt = 67 := rfl
          have e273 : (273 : Int32).toInt = 273 := rfl
          have e284 : (284 : Int32).toInt = 284 := rfl
          have hq : 0 = coN c0 := by
            rcases chOf_cases c0 with ⟨h1, h2, h3⟩ | ⟨h1, h2, h3⟩ | ⟨h1, h2, h3⟩ | ⟨h1, h2⟩
            · first | exact coN_of (isCh_iff.mpr (by omega)) h2 | (exfalso; omega)
            · first | exact coN_of (isCh_iff.mpr (by omega)) h2 | (exfalso; omega)
            · first | exact coN_of (isCh_iff.mpr (by omega)) h2 | (exfalso; omega)
            · first | exact coN_no h2 | (exfalso; omega)
          exact W.iret (v := 0) hx hb hr (fun t ht hW => ⟨_, rfl, hq, ht⟩) (fun q h => by cases h) dX3_channelOf_61
        ·
          refine lv_iload_n hx hb dX3_channelOf_45 rfl (lv_at hl 0 rfl) ?_
          refine lv_sipush (v := 284) hx hb dX3_channelOf_46 (by decide +kernel) ?_
          refine lv_icmp_gt (tgt := 60) hx hb dX3_channelOf_49 (by decide) (fun c_49 => ?_) (fun c_49 => ?_)
          ·
            refine lv_iconst (v := 0) hx hb dX3_channelOf_60 (by decide +kernel) ?_
            have f_3 := i32_lt.mp c_3
            have f_22 := i32_nlt c_22
            have f_28 := i32_lt.mp c_28
            have f_42 := i32_nlt c_42
            have f_49 := i32_lt.mp c_49
            have e49 : (49 : Int32).toInt = 49 := rfl
            have e57 : (57 : Int32).toInt = 57 := rfl
            have e65 : (65 : Int32).toInt = 65 := rfl
            have e67 : (67 : Int32).toInt = 67 := rfl
            have e273 : (273 : Int32).toInt = 273 := rfl
            have e284 : (284 : Int32).toInt = 284 := rfl
            have hq : 0 = coN c0 := by
              rcases chOf_cases c0 with ⟨h1, h2, h3⟩ | ⟨h1, h2, h3⟩ | ⟨h1, h2, h3⟩ | ⟨h1, h2⟩
              · first | exact coN_of (isCh_iff.mpr (by omega)) h2 | (exfalso; omega)
              · first | exact coN_of (isCh_iff.mpr (by omega)) h2 | (exfalso; omega)
              · first | exact coN_of (isCh_iff.mpr (by omega)) h2 | (exfalso; omega)
              · first | exact coN_no h2 | (exfalso; omega)
            exact W.iret (v := 0) hx hb hr (fun t ht hW => ⟨_, rfl, hq, ht⟩) (fun q h => by cases h) dX3_channelOf_61
          ·
            refine lv_iload_n hx hb dX3_channelOf_52 rfl (lv_at hl 0 rfl) ?_
            refine lv_sipush (v := 272) hx hb dX3_channelOf_53 (by decide +kernel) ?_
            refine lv_isub hx hb dX3_channelOf_56 ?_
            refine lv_goto (tgt := 61) hx hb dX3_channelOf_57 (by decide) ?_
            have f_3 := i32_lt.mp c_3
            have f_22 := i32_nlt c_22
            have f_28 := i32_lt.mp c_28
            have f_42 := i32_nlt c_42
            have f_49 := i32_nlt c_49
            have e49 : (49 : Int32).toInt = 49 := rfl
            have e57 : (57 : Int32).toInt = 57 := rfl
            have e65 : (65 : Int32).toInt = 65 := rfl
            have e67 : (67 : Int32).toInt = 67 := rfl
            have e273 : (273 : Int32).toInt = 273 := rfl
            have e284 : (284 : Int32).toInt = 284 := rfl
            have hq : (c0 - 272) = coN c0 := by
              rcases chOf_cases c0 with ⟨h1, h2, h3⟩ | ⟨h1, h2, h3⟩ | ⟨h1, h2, h3⟩ | ⟨h1, h2⟩
              · first | exact coN_of (isCh_iff.mpr (by omega)) h2 | (exfalso; omega)
              · first | exact coN_of (isCh_iff.mpr (by omega)) h2 | (exfalso; omega)
              · first | exact coN_of (isCh_iff.mpr (by omega)) h2 | (exfalso; omega)
              · first | exact coN_no h2 | (exfalso; omega)
            exact W.iret (v := (c0 - 272)) hx hb hr (fun t ht hW => ⟨_, rfl, hq, ht⟩) (fun q h => by cases h) dX3_channelOf_61
      ·
        refine lv_iload_n hx hb dX3_channelOf_31 rfl (lv_at hl 0 rfl) ?_
        refine lv_bipush (v := 55) hx hb dX3_channelOf_32 (by decide +kernel) ?_
        refine lv_isub hx hb dX3_channelOf_34 ?_
        refine lv_goto (tgt := 61) hx hb dX3_channelOf_35 (by decide) ?_
        have f_3 := i32_lt.mp c_3
        have f_22 := i32_nlt c_22
        have f_28 := i32_nlt c_28
        have e49 : (49 : Int32).toInt = 49 := rfl
        have e57 : (57 : Int32).toInt = 57 := rfl
        have e65 : (65 : Int32).toInt = 65 := rfl
        have e67 : (67 : Int32).toInt = 67 := rfl
        have e273 : (273 : Int32).toInt = 273 := rfl
        have e284 : (284 : Int32).toInt = 284 := rfl
        have hq : (c0 - 55) = coN c0 := by
          rcases chOf_cases c0 with ⟨h1, h2, h3⟩ | ⟨h1, h2, h3⟩ | ⟨h1, h2, h3⟩ | ⟨h1, h2⟩
          · first | exact coN_of (isCh_iff.mpr (by omega)) h2 | (exfalso; omega)
          · first | exact coN_of (isCh_iff.mpr (by omega)) h2 | (exfalso; omega)
          · first | exact coN_of (isCh_iff.mpr (by omega)) h2 | (exfalso; omega)
          · first | exact coN_no h2 | (exfalso; omega)
        exact W.iret (v := (c0 - 55)) hx hb hr (fun t ht hW => ⟨_, rfl, hq, ht⟩) (fun q h => by cases h) dX3_channelOf_61
  ·
    refine lv_iload_n hx hb dX3_channelOf_6 rfl (lv_at hl 0 rfl) ?_
    refine lv_bipush (v := 57) hx hb dX3_channelOf_7 (by decide +kernel) ?_
    refine lv_icmp_gt (tgt := 19) hx hb dX3_channelOf_9 (by decide) (fun c_9 => ?_) (fun c_9 => ?_)
    ·
      refine lv_iload_n hx hb dX3_channelOf_19 rfl (lv_at hl 0 rfl) ?_
      refine lv_bipush (v := 65) hx hb dX3_channelOf_20 (by decide +kernel) ?_
      refine lv_icmp_lt (tgt := 38) hx hb dX3_channelOf_22 (by decide) (fun c_22 => ?_) (fun c_22 => ?_)
      ·
        refine lv_iload_n hx hb dX3_channelOf_38 rfl (lv_at hl 0 rfl) ?_
        refine lv_sipush (v := 273) hx hb dX3_channelOf_39 (by decide +kernel) ?_
        refine lv_icmp_lt (tgt := 60) hx hb dX3_channelOf_42 (by decide) (fun c_42 => ?_) (fun c_42 => ?_)
        ·
          refine lv_iconst (v := 0) hx hb dX3_channelOf_60 (by decide +kernel) ?_
          have f_3 := i32_nlt c_3
          have f_9 := i32_lt.mp c_9
          have f_22 := i32_lt.mp c_22
          have f_42 := i32_lt.mp c_42
          have e49 : (49 : Int32).toInt = 49 := rfl
          have e57 : (57 : Int32).toInt = 57 := rfl
          have e65 : (65 : Int32).toInt = 65 := rfl
          have e67 : (67 : Int32).toInt = 67 := rfl
          have e273 : (273 : Int32).toInt = 273 := rfl
          have e284 : (284 : Int32).toInt = 284 := rfl
          have hq : 0 = coN c0 := by
            rcases chOf_cases c0 with ⟨h1, h2, h3⟩ | ⟨h1, h2, h3⟩ | ⟨h1, h2, h3⟩ | ⟨h1, h2⟩
            · first | exact coN_of (isCh_iff.mpr (by omega)) h2 | (exfalso; omega)
            · first | exact coN_of (isCh_iff.mpr (by omega)) h2 | (exfalso; omega)
            · first | exact coN_of (isCh_iff.mpr (by omega)) h2 | (exfalso; omega)
            · first | exact coN_no h2 | (exfalso; omega)
          exact W.iret (v := 0) hx hb hr (fun t ht hW => ⟨_, rfl, hq, ht⟩) (fun q h => by cases h) dX3_channelOf_61
        ·
          refine lv_iload_n hx hb dX3_channelOf_45 rfl (lv_at hl 0 rfl) ?_
          refine lv_sipush (v := 284) hx hb dX3_channelOf_46 (by decide +kernel) ?_
          refine lv_icmp_gt (tgt := 60) hx hb dX3_channelOf_49 (by decide) (fun c_49 => ?_) (fun c_49 => ?_)
          ·
            refine lv_iconst (v := 0) hx hb dX3_channelOf_60 (by decide +kernel) ?_
            have f_3 := i32_nlt c_3
            have f_9 := i32_lt.mp c_9
            have f_22 := i32_lt.mp c_22
            have f_42 := i32_nlt c_42
            have f_49 := i32_lt.mp c_49
            have e49 : (49 : Int32).toInt = 49 := rfl
            have e57 : (57 : Int32).toInt = 57 := rfl
            have e65 : (65 : Int32).toInt = 65 := rfl
            have e67 : (67 : Int32).toInt = 67 := rfl
            have e273 : (273 : Int32).toInt = 273 := rfl
            have e284 : (284 : Int32).toInt = 284 := rfl
            have hq : 0 = coN c0 := by
              rcases chOf_cases c0 with ⟨h1, h2, h3⟩ | ⟨h1, h2, h3⟩ | ⟨h1, h2, h3⟩ | ⟨h1, h2⟩
              · first | exact coN_of (isCh_iff.mpr (by omega)) h2 | (exfalso; omega)
              · first | exact coN_of (isCh_iff.mpr (by omega)) h2 | (exfalso; omega)
              · first | exact coN_of (isCh_iff.mpr (by omega)) h2 | (exfalso; omega)
              · first | exact coN_no h2 | (exfalso; omega)
            exact W.iret (v := 0) hx hb hr (fun t ht hW => ⟨_, rfl, hq, ht⟩) (fun q h => by cases h) dX3_channelOf_61
          ·
            refine lv_iload_n hx hb dX3_channelOf_52 rfl (lv_at hl 0 rfl) ?_
            refine lv_sipush (v := 272) hx hb dX3_channelOf_53 (by decide +kernel) ?_
            refine lv_isub hx hb dX3_channelOf_56 ?_
            refine lv_goto (tgt := 61) hx hb dX3_channelOf_57 (by decide) ?_
            have f_3 := i32_nlt c_3
            have f_9 := i32_lt.mp c_9
            have f_22 := i32_lt.mp c_22
            have f_42 := i32_nlt c_42
            have f_49 := i32_nlt c_49
            have e49 : (49 : Int32).toInt = 49 := rfl
            have e57 : (57 : Int32).toInt = 57 := rfl
            have e65 : (65 : Int32).toInt = 65 := rfl
            have e67 : (67 : Int32).toInt = 67 := rfl
            have e273 : (273 : Int32).toInt = 273 := rfl
            have e284 : (284 : Int32).toInt = 284 := rfl
            have hq : (c0 - 272) = coN c0 := by
              rcases chOf_cases c0 with ⟨h1, h2, h3⟩ | ⟨h1, h2, h3⟩ | ⟨h1, h2, h3⟩ | ⟨h1, h2⟩
              · first | exact coN_of (isCh_iff.mpr (by omega)) h2 | (exfalso; omega)
              · first | exact coN_of (isCh_iff.mpr (by omega)) h2 | (exfalso; omega)
              · first | exact coN_of (isCh_iff.mpr (by omega)) h2 | (exfalso; omega)
              · first | exact coN_no h2 | (exfalso; omega)
            exact W.iret (v := (c0 - 272)) hx hb hr (fun t ht hW => ⟨_, rfl, hq, ht⟩) (fun q h => by cases h) dX3_channelOf_61
      ·
        refine lv_iload_n hx hb dX3_channelOf_25 rfl (lv_at hl 0 rfl) ?_
        refine lv_bipush (v := 67) hx hb dX3_channelOf_26 (by decide +kernel) ?_
        refine lv_icmp_gt (tgt := 38) hx hb dX3_channelOf_28 (by decide) (fun c_28 => ?_) (fun c_28 => ?_)
        ·
          refine lv_iload_n hx hb dX3_channelOf_38 rfl (lv_at hl 0 rfl) ?_
          refine lv_sipush (v := 273) hx hb dX3_channelOf_39 (by decide +kernel) ?_
          refine lv_icmp_lt (tgt := 60) hx hb dX3_channelOf_42 (by decide) (fun c_42 => ?_) (fun c_42 => ?_)
          ·
            refine lv_iconst (v := 0) hx hb dX3_channelOf_60 (by decide +kernel) ?_
            have f_3 := i32_nlt c_3
            have f_9 := i32_lt.mp c_9
            have f_22 := i32_nlt c_22
            have f_28 := i32_lt.mp c_28
            have f_42 := i32_lt.mp c_42
            have e49 : (49 : Int32).toInt = 49 := rfl
            have e57 : (57 : Int32).toInt = 57 := rfl
            have e65 : (65 : Int32).toInt = 65 := rfl
            have e67 : (67 : Int32).toInt = 67 := rfl
            have e273 : (273 : Int32).toInt = 273 := rfl
            have e284 : (284 : Int32).toInt = 284 := rfl
            have hq : 0 = coN c0 := by
              rcases chOf_cases c0 with ⟨h1, h2, h3⟩ | ⟨h1, h2, h3⟩ | ⟨h1, h2, h3⟩ | ⟨h1, h2⟩
              · first | exact coN_of (isCh_iff.mpr (by omega)) h2 | (exfalso; omega)
              · first | exact coN_of (isCh_iff.mpr (by omega)) h2 | (exfalso; omega)
              · first | exact coN_of (isCh_iff.mpr (by omega)) h2 | (exfalso; omega)
              · first | exact coN_no h2 | (exfalso; omega)
            exact W.iret (v := 0) hx hb hr (fun t ht hW => ⟨_, rfl, hq, ht⟩) (fun q h => by cases h) dX3_channelOf_61
          ·
            refine lv_iload_n hx hb dX3_channelOf_45 rfl (lv_at hl 0 rfl) ?_
            refine lv_sipush (v := 284) hx hb dX3_channelOf_46 (by decide +kernel) ?_
            refine lv_icmp_gt (tgt := 60) hx hb dX3_channelOf_49 (by decide) (fun c_49 => ?_) (fun c_49 => ?_)
            ·
              refine lv_iconst (v := 0) hx hb dX3_channelOf_60 (by decide +kernel) ?_
              have f_3 := i32_nlt c_3
              have f_9 := i32_lt.mp c_9
              have f_22 := i32_nlt c_22
              have f_28 := i32_lt.mp c_28
              have f_42 := i32_nlt c_42
              have f_49 := i32_lt.mp c_49
              have e49 : (49 : Int32).toInt = 49 := rfl
              have e57 : (57 : Int32).toInt = 57 := rfl
              have e65 : (65 : Int32).toInt = 65 := rfl
              have e67 : (67 : Int32).toInt = 67 := rfl
              have e273 : (273 : Int32).toInt = 273 := rfl
              have e284 : (284 : Int32).toInt = 284 := rfl
              have hq : 0 = coN c0 := by
                rcases chOf_cases c0 with ⟨h1, h2, h3⟩ | ⟨h1, h2, h3⟩ | ⟨h1, h2, h3⟩ | ⟨h1, h2⟩
                · first | exact coN_of (isCh_iff.mpr (by omega)) h2 | (exfalso; omega)
                · first | exact coN_of (isCh_iff.mpr (by omega)) h2 | (exfalso; omega)
                · first | exact coN_of (isCh_iff.mpr (by omega)) h2 | (exfalso; omega)
                · first | exact coN_no h2 | (exfalso; omega)
              exact W.iret (v := 0) hx hb hr (fun t ht hW => ⟨_, rfl, hq, ht⟩) (fun q h => by cases h) dX3_channelOf_61
            ·
              refine lv_iload_n hx hb dX3_channelOf_52 rfl (lv_at hl 0 rfl) ?_
              refine lv_sipush (v := 272) hx hb dX3_channelOf_53 (by decide +kernel) ?_
              refine lv_isub hx hb dX3_channelOf_56 ?_
              refine lv_goto (tgt := 61) hx hb dX3_channelOf_57 (by decide) ?_
              have f_3 := i32_nlt c_3
              have f_9 := i32_lt.mp c_9
              have f_22 := i32_nlt c_22
              have f_28 := i32_lt.mp c_28
              have f_42 := i32_nlt c_42
              have f_49 := i32_nlt c_49
              have e49 : (49 : Int32).toInt = 49 := rfl
              have e57 : (57 : Int32).toInt = 57 := rfl
              have e65 : (65 : Int32).toInt = 65 := rfl
              have e67 : (67 : Int32).toInt = 67 := rfl
              have e273 : (273 : Int32).toInt = 273 := rfl
              have e284 : (284 : Int32).toInt = 284 := rfl
              have hq : (c0 - 272) = coN c0 := by
                rcases chOf_cases c0 with ⟨h1, h2, h3⟩ | ⟨h1, h2, h3⟩ | ⟨h1, h2, h3⟩ | ⟨h1, h2⟩
                · first | exact coN_of (isCh_iff.mpr (by omega)) h2 | (exfalso; omega)
                · first | exact coN_of (isCh_iff.mpr (by omega)) h2 | (exfalso; omega)
                · first | exact coN_of (isCh_iff.mpr (by omega)) h2 | (exfalso; omega)
                · first | exact coN_no h2 | (exfalso; omega)
              exact W.iret (v := (c0 - 272)) hx hb hr (fun t ht hW => ⟨_, rfl, hq, ht⟩) (fun q h => by cases h) dX3_channelOf_61
        ·
          refine lv_iload_n hx hb dX3_channelOf_31 rfl (lv_at hl 0 rfl) ?_
          refine lv_bipush (v := 55) hx hb dX3_channelOf_32 (by decide +kernel) ?_
          refine lv_isub hx hb dX3_channelOf_34 ?_
          refine lv_goto (tgt := 61) hx hb dX3_channelOf_35 (by decide) ?_
          have f_3 := i32_nlt c_3
          have f_9 := i32_lt.mp c_9
          have f_22 := i32_nlt c_22
          have f_28 := i32_nlt c_28
          have e49 : (49 : Int32).toInt = 49 := rfl
          have e57 : (57 : Int32).toInt = 57 := rfl
          have e65 : (65 : Int32).toInt = 65 := rfl
          have e67 : (67 : Int32).toInt = 67 := rfl
          have e273 : (273 : Int32).toInt = 273 := rfl
          have e284 : (284 : Int32).toInt = 284 := rfl
          have hq : (c0 - 55) = coN c0 := by
            rcases chOf_cases c0 with ⟨h1, h2, h3⟩ | ⟨h1, h2, h3⟩ | ⟨h1, h2, h3⟩ | ⟨h1, h2⟩
            · first | exact coN_of (isCh_iff.mpr (by omega)) h2 | (exfalso; omega)
            · first | exact coN_of (isCh_iff.mpr (by omega)) h2 | (exfalso; omega)
            · first | exact coN_of (isCh_iff.mpr (by omega)) h2 | (exfalso; omega)
            · first | exact coN_no h2 | (exfalso; omega)
          exact W.iret (v := (c0 - 55)) hx hb hr (fun t ht hW => ⟨_, rfl, hq, ht⟩) (fun q h => by cases h) dX3_channelOf_61
    ·
      refine lv_iload_n hx hb dX3_channelOf_12 rfl (lv_at hl 0 rfl) ?_
      refine lv_bipush (v := 48) hx hb dX3_channelOf_13 (by decide +kernel) ?_
      refine lv_isub hx hb dX3_channelOf_15 ?_
      refine lv_goto (tgt := 61) hx hb dX3_channelOf_16 (by decide) ?_
      have f_3 := i32_nlt c_3
      have f_9 := i32_nlt c_9
      have e49 : (49 : Int32).toInt = 49 := rfl
      have e57 : (57 : Int32).toInt = 57 := rfl
      have e65 : (65 : Int32).toInt = 65 := rfl
      have e67 : (67 : Int32).toInt = 67 := rfl
      have e273 : (273 : Int32).toInt = 273 := rfl
      have e284 : (284 : Int32).toInt = 284 := rfl
      have hq : (c0 - 48) = coN c0 := by
        rcases chOf_cases c0 with ⟨h1, h2, h3⟩ | ⟨h1, h2, h3⟩ | ⟨h1, h2, h3⟩ | ⟨h1, h2⟩
        · first | exact coN_of (isCh_iff.mpr (by omega)) h2 | (exfalso; omega)
        · first | exact coN_of (isCh_iff.mpr (by omega)) h2 | (exfalso; omega)
        · first | exact coN_of (isCh_iff.mpr (by omega)) h2 | (exfalso; omega)
        · first | exact coN_no h2 | (exfalso; omega)
      exact W.iret (v := (c0 - 48)) hx hb hr (fun t ht hW => ⟨_, rfl, hq, ht⟩) (fun q h => by cases h) dX3_channelOf_61
end
section
/-! the reference's parts -/
theorem wy_pos {j st : Nat} (hj : j < 2 ^ 30) (hs : st < 2 ^ 30) : nI j - nI st ≤ 0 ↔ ¬ st < j := by
  rw [i32_le, pk_sub_toInt hj hs]
  have : (0 : Int32).toInt = 0 := rfl
  omega
/-- what settle leaves -/
def stG (b t : Nat) (sg : Nat → Int32) : Nat → Int32 := fun j => if 8712 * b ≤ j ∧ j < 8712 * t then 32 else sg j
def stH (b i : Nat) (sg : Nat → Int32) : Nat → Int32 := fun j => if 8712 * b ≤ j ∧ j < i then 32 else sg j
theorem stH_step {b i : Nat} {sg : Nat → Int32} (h : 8712 * b ≤ i) : upd (stH b i sg) i 32 = stH b (i + 1) sg := by
  funext j
  unfold upd stH
  by_cases e : j = i
  · rw [if_pos e, if_pos (by omega)]
  · rw [if_neg e]
    by_cases q : 8712 * b ≤ j ∧ j < i
    · rw [if_pos q, if_pos (by omega)]
    · rw [if_neg q, if_neg (by omega)]
theorem stH_0 {b : Nat} {sg : Nat → Int32} : stH b (8712 * b) sg = sg := by
  funext j
  exact if_neg (fun z => by omega)
/-- what print leaves -/
def prG (base n : Nat) (tr rc sg : Nat → Int32) : Nat → Int32 := fun j => if base ≤ j ∧ j < base + n then mx (sg j) (tr (rc (j - base)).toNatClampNeg) else sg j
theorem prG_step {base k : Nat} {tr rc sg : Nat → Int32} : upd (prG base k tr rc sg) (base + k) (mx (prG base k tr rc sg (base + k)) (tr (rc k).toNatClampNeg)) = prG base (k + 1) tr rc sg := by
  funext j
  have e0 : prG base k tr rc sg (base + k) = sg (base + k) := if_neg (fun z => by omega)
  rw [e0]
  unfold upd prG
  by_cases e : j = base + k
  · subst e
    rw [if_pos rfl, if_pos (by omega), Nat.add_sub_cancel_left]
  · rw [if_neg e]
    by_cases q : base ≤ j ∧ j < base + k
    · rw [if_pos q, if_pos (by omega)]
    · rw [if_neg q, if_neg (by omega)]
theorem prG_0 {base : Nat} {tr rc sg : Nat → Int32} : prG base 0 tr rc sg = sg := by
  funext j
  exact if_neg (fun z => by omega)

set_option maxHeartbeats 1000000 in
set_option maxRecDepth 100000 in
theorem c_X3_thrown (l : Launch) {D : va_G} {cI cP cR cJ : ClassId} {m0 mS mC mT mR mA L C rl bg st tp tl : Nat} {on tb : Bool} {th mk : Int32} {sg ch tr rc ta : Nat → Int32} : Met l yX3_thrown wsX3_thrown ({ frames := 0, cells := 0, slots := 0, locals := 0 }) (ro [.ref m0] D cI cP cR cJ (wM cI m0 mS mC mT mR mA th (nI L) (nI C) (nI rl) (nI bg) (nI st) mk (zb on) (nI tp) (nI tl) (zb tb) sg ch tr rc ta)) (vp_Si (fun r => r = th)) 0 0 (fun _ => False) := by
  refine Met.ofW (cc := cX3_thrown) (maxL := 1) (ret := (some .int)) (by decide) rfl ?_
  intro p e s m args below meth c s₁ B hml hv
  obtain ⟨rfl, hP, hK⟩ := hv
  have hx := B.exec
  have hb := B.bytes
  have hr := B.returns
  have hts := atoms_spec (ws := wsX3_thrown) B.pre
  have hown : s.vm.findClass RX3 = some m.cls := findClass_of_methodNamed B.named
  have hlocks := B.notSynchronized
  have hinX3 : ∀ w ∈ wsX30, w ∈ wsX3_thrown := by decide +kernel
  have hl := lv_entry ([.ref m0]) (n := 1) (Nat.le_of_ble_eq_true rfl)
  rw [lg_entry_eq]
  generalize (lg_sl ([.ref m0]) ++ List.replicate (1 - (lg_sl ([.ref m0])).length) Slot.unset).toArray = ls at hl ⊢
  have hl : lv_has ls 1 [(0, .ref m0)] := hl
  refine lv_aload_n hx hb dX3_thrown_0 rfl (lv_at hl 0 rfl) ?_
  refine va_get (D := D) (ci := 4) (v := .int th) (C := RX3) (T := TX3) (N := 16) hx hb hts hinX3 hown hK.1 hP 0 rfl rfl 0 (by decide) (hts (.fieldLink RX3 33 "PrinterRowsModel" "thrown" "I") (by decide +kernel)) (fun _ h9 => h9) rfl dX3_thrown_1 ?_
  exact W.iret (v := th) hx hb hr (fun t ht hW => ⟨_, rfl, rfl, ht⟩) (fun q h => by cases h) dX3_thrown_4

set_option maxHeartbeats 1000000 in
set_option maxRecDepth 100000 in
theorem c_X3_way (l : Launch) {D : va_G} {cI cP cR cJ : ClassId} {m0 mS mC mT mR mA L C rl bg st tp tl : Nat} {on tb : Bool} {th mk : Int32} {sg ch tr rc ta : Nat → Int32} (hL0 : 0 < L) (hL : L ≤ 66) (htl : tl < L) (k : Nat) (hk1 : 1 ≤ k) (hk2 : k ≤ 12) (hch : chOK L (ch k)) : Met l yX3_way wsX3_way ({ frames := 0, cells := 0, slots := 0, locals := 0 }) (ro [.ref m0, .int (nI k)] D cI cP cR cJ (wM cI m0 mS mC mT mR mA th (nI L) (nI C) (nI rl) (nI bg) (nI st) mk (zb on) (nI tp) (nI tl) (zb tb) sg ch tr rc ta)) (vp_Si (fun r => r = nI (wyN L tl (ch k)))) 0 0 (fun _ => False) := by
  refine Met.ofW (cc := cX3_way) (maxL := 3) (ret := (some .int)) (by decide) rfl ?_
  intro p e s m args below meth c s₁ B hml hv
  obtain ⟨rfl, hP, hK⟩ := hv
  have hx := B.exec
  have hb := B.bytes
  have hr := B.returns
  have hts := atoms_spec (ws := wsX3_way) B.pre
  have hown : s.vm.findClass RX3 = some m.cls := findClass_of_methodNamed B.named
  have hlocks := B.notSynchronized
  have hinX3 : ∀ w ∈ wsX30, w ∈ wsX3_way := by decide +kernel
  have hl := lv_entry ([.ref m0, .int (nI k)]) (n := 3) (Nat.le_of_ble_eq_true rfl)
  rw [lg_entry_eq]
  generalize (lg_sl ([.ref m0, .int (nI k)]) ++ List.replicate (3 - (lg_sl ([.ref m0, .int (nI k)])).length) Slot.unset).toArray = ls at hl ⊢
  have hl : lv_has ls 3 [(0, .ref m0), (1, .int (nI k))] := hl
  refine lv_aload_n hx hb dX3_way_0 rfl (lv_at hl 0 rfl) ?_
  refine va_get (D := D) (ci := 4) (v := .ref mC) (C := RX3) (T := TX3) (N := 16) hx hb hts hinX3 hown hK.1 hP 0 rfl rfl 4 (by decide) (hts (.fieldLink RX3 14 "PrinterRowsModel" "channels" "[I") (by decide +kernel)) (fun _ h9 => h9) rfl dX3_way_1 ?_
  refine lv_iload_n hx hb dX3_way_4 rfl (lv_at hl 1 rfl) ?_
  refine va_iald hx hb hK.1 hP 2 0 rfl rfl (vp_in_nI (by omega) (by decide)) dX3_way_5 ?_
  refine lv_topi (fun x_5 ex_5 => ?_)
  obtain rfl : x_5 = ch k := ex_5.trans (by rw [nI_clamp (by omega)])
  refine lv_iconst (v := (-1)) hx hb dX3_way_6 (by decide +kernel) ?_
  refine lv_icmp_ne (tgt := 15) hx hb dX3_way_7 (by decide) (fun c_7 => ?_) (fun c_7 => ?_)
  ·
    rcases hch with hch | ⟨j, hj, hch⟩
    · exact absurd hch c_7
    have hcl : (ch k).toNatClampNeg = j := by rw [hch, nI_clamp (by omega)]
    refine lv_aload_n hx hb dX3_way_15 rfl (lv_at hl 0 rfl) ?_
    refine va_get (D := D) (ci := 4) (v := .ref mC) (C := RX3) (T := TX3) (N := 16) hx hb hts hinX3 hown hK.1 hP 0 rfl rfl 4 (by decide) (hts (.fieldLink RX3 14 "PrinterRowsModel" "channels" "[I") (by decide +kernel)) (fun _ h9 => h9) rfl dX3_way_16 ?_
    refine lv_iload_n hx hb dX3_way_19 rfl (lv_at hl 1 rfl) ?_
    refine va_iald hx hb hK.1 hP 2 0 rfl rfl (vp_in_nI (by omega) (by decide)) dX3_way_20 ?_
    refine lv_topi (fun x_20 ex_20 => ?_)
    obtain rfl : x_20 = ch k := ex_20.trans (by rw [nI_clamp (by omega)])
    refine lv_aload_n hx hb dX3_way_21 rfl (lv_at hl 0 rfl) ?_
    refine va_get (D := D) (ci := 4) (v := .int (nI tl)) (C := RX3) (T := TX3) (N := 16) hx hb hts hinX3 hown hK.1 hP 0 rfl rfl 14 (by decide) (hts (.fieldLink RX3 48 "PrinterRowsModel" "trialLine" "I") (by decide +kernel)) (fun _ h9 => h9) rfl dX3_way_22 ?_
    refine lv_isub hx hb dX3_way_25 ?_
    refine lv_istore_n (lv' := [(2, .int ((ch k) - (nI tl))), (0, .ref m0), (1, .int (nI k))]) hx hb dX3_way_26 rfl hl (by decide) rfl (fun ls hl => ?_)
    refine lv_iload_n hx hb dX3_way_27 rfl (lv_at hl 0 rfl) ?_
    refine lv_if_le (tgt := 35) hx hb dX3_way_28 (by decide) (fun c_28 => ?_) (fun c_28 => ?_)
    ·
      refine lv_iload_n hx hb dX3_way_35 rfl (lv_at hl 0 rfl) ?_
      refine lv_aload_n hx hb dX3_way_36 rfl (lv_at hl 1 rfl) ?_
      refine va_get (D := D) (ci := 4) (v := .int (nI L)) (C := RX3) (T := TX3) (N := 16) hx hb hts hinX3 hown hK.1 hP 0 rfl rfl 1 (by decide) (hts (.fieldLink RX3 26 "PrinterRowsModel" "lines" "I") (by decide +kernel)) (fun _ h9 => h9) rfl dX3_way_37 ?_
      refine lv_iadd hx hb dX3_way_40 ?_
      exact W.iret (v := (((ch k) - (nI tl)) + (nI L))) hx hb hr (fun t ht hW => ⟨_, rfl, by rw [hch] at c_28 ⊢; rw [wyN, if_neg (by rw [← hch]; exact c_7), nI_clamp (by omega), if_neg ((wy_pos (by omega) (by omega)).mp c_28)]; exact way_sub htl, ht⟩) (fun q h => by cases h) dX3_way_41
    ·
      refine lv_iload_n hx hb dX3_way_31 rfl (lv_at hl 0 rfl) ?_
      refine lv_goto (tgt := 41) hx hb dX3_way_32 (by decide) ?_
      exact W.iret (v := ((ch k) - (nI tl))) hx hb hr (fun t ht hW => ⟨_, rfl, by rw [hch] at c_28 ⊢; rw [wyN, if_neg (by rw [← hch]; exact c_7), nI_clamp (by omega), if_pos (Decidable.of_not_not (fun h9 => c_28 ((wy_pos (by omega) (by omega)).mpr h9))), pk_sub (by have := Decidable.of_not_not (fun h9 => c_28 ((wy_pos (by omega) (by omega)).mpr h9)); omega)], ht⟩) (fun q h => by cases h) dX3_way_41
  ·
    refine lv_aload_n hx hb dX3_way_10 rfl (lv_at hl 0 rfl) ?_
    refine va_get (D := D) (ci := 4) (v := .int (nI L)) (C := RX3) (T := TX3) (N := 16) hx hb hts hinX3 hown hK.1 hP 0 rfl rfl 1 (by decide) (hts (.fieldLink RX3 26 "PrinterRowsModel" "lines" "I") (by decide +kernel)) (fun _ h9 => h9) rfl dX3_way_11 ?_
    exact W.iret (v := (nI L)) hx hb hr (fun t ht hW => ⟨_, rfl, by rw [wyN, if_pos c_7], ht⟩) (fun q h => by cases h) dX3_way_14

theorem c_X3_wayI (l : Launch) {D : va_G} {cI cP cR cJ : ClassId} {m0 mS mC mT mR mA L C rl bg st tp tl : Nat} {on tb : Bool} {th mk : Int32} {sg ch tr rc ta : Nat → Int32} (hL0 : 0 < L) (hL : L ≤ 66) (htl : tl < L) (hch : ∀ k, 1 ≤ k → k ≤ 12 → chOK L (ch k)) (c0 : Int32) (hc : isCh c0 = true) : Met l yX3_way wsX3_way ({ frames := 0, cells := 0, slots := 0, locals := 0 }) (ro [.ref m0, .int c0] D cI cP cR cJ (wM cI m0 mS mC mT mR mA th (nI L) (nI C) (nI rl) (nI bg) (nI st) mk (zb on) (nI tp) (nI tl) (zb tb) sg ch tr rc ta)) (vp_Si (fun r => r = nI (wyN L tl (ch c0.toNatClampNeg)))) 0 0 (fun _ => False) := by
  obtain ⟨k, h1, h2, rfl⟩ := isCh_nI hc
  rw [nI_clamp (by omega)]
  exact c_X3_way l hL0 hL htl k h1 h2 (hch k h1 h2)

set_option maxHeartbeats 1000000 in
set_option maxRecDepth 100000 in
theorem c_X3_ahead (l : Launch) {D : va_G} {cI cP cR cJ : ClassId} {m0 mS mC mT mR mA L C rl bg st tp tl : Nat} {on tb : Bool} {th mk : Int32} {sg ch tr rc ta : Nat → Int32} (hL0 : 0 < L) (hL : L ≤ 66) (htl : tl < L) (hch : ∀ k, 1 ≤ k → k ≤ 12 → chOK L (ch k)) (c0 : Int32) (hsec : zb (isPl c0) = 0 ∧ ¬ (273 ≤ c0.toInt ∧ c0.toInt ≤ 284)) : Met l yX3_ahead wsX3_ahead ({ frames := 1, cells := 0, slots := 0, locals := 22 }) (ro [.ref m0, .int c0] D cI cP cR cJ (wM cI m0 mS mC mT mR mA th (nI L) (nI C) (nI rl) (nI bg) (nI st) mk (zb on) (nI tp) (nI tl) (zb tb) sg ch tr rc ta)) (vp_Si (fun r => r = nI (lwy L tl ch c0))) 0 0 (fun _ => False) := by
  refine Met.ofW (cc := cX3_ahead) (maxL := 2) (ret := (some .int)) (by decide) rfl ?_
  intro p e s m args below meth c s₁ B hml hv
  obtain ⟨rfl, hP, hK⟩ := hv
  have hx := B.exec
  have hb := B.bytes
  have hr := B.returns
  have hts := atoms_spec (ws := wsX3_ahead) B.pre
  have hown : s.vm.findClass RX3 = some m.cls := findClass_of_methodNamed B.named
  have hlocks := B.notSynchronized
  have hinX3 : ∀ w ∈ wsX30, w ∈ wsX3_ahead := by decide +kernel
  have hl := lv_entry ([.ref m0, .int c0]) (n := 2) (Nat.le_of_ble_eq_true rfl)
  rw [lg_entry_eq]
  generalize (lg_sl ([.ref m0, .int c0]) ++ List.replicate (2 - (lg_sl ([.ref m0, .int c0])).length) Slot.unset).toArray = ls at hl ⊢
  have hl : lv_has ls 2 [(0, .ref m0), (1, .int c0)] := hl
  have e49 : (49 : Int32).toInt = 49 := rfl
  have e57 : (57 : Int32).toInt = 57 := rfl
  have e65 : (65 : Int32).toInt = 65 := rfl
  have e67 : (67 : Int32).toInt = 67 := rfl
  have e48 : (48 : Int32).toInt = 48 := rfl
  have e45 : (45 : Int32).toInt = 45 := rfl
  have e43 : (43 : Int32).toInt = 43 := rfl
  refine lv_iload_n hx hb dX3_ahead_0 rfl (lv_at hl 1 rfl) ?_
  refine lv_bipush (v := 49) hx hb dX3_ahead_1 (by decide +kernel) ?_
  refine lv_icmp_lt (tgt := 21) hx hb dX3_ahead_3 (by decide) (fun c_3 => ?_) (fun c_3 => ?_)
  ·
    refine lv_iload_n hx hb dX3_ahead_21 rfl (lv_at hl 1 rfl) ?_
    refine lv_bipush (v := 65) hx hb dX3_ahead_22 (by decide +kernel) ?_
    refine lv_icmp_lt (tgt := 42) hx hb dX3_ahead_24 (by decide) (fun c_24 => ?_) (fun c_24 => ?_)
    ·
      refine lv_iload_n hx hb dX3_ahead_42 rfl (lv_at hl 1 rfl) ?_
      refine lv_bipush (v := 48) hx hb dX3_ahead_43 (by decide +kernel) ?_
      refine lv_icmp_ne (tgt := 52) hx hb dX3_ahead_45 (by decide) (fun c_45 => ?_) (fun c_45 => ?_)
      ·
        refine lv_iload_n hx hb dX3_ahead_52 rfl (lv_at hl 1 rfl) ?_
        refine lv_bipush (v := 45) hx hb dX3_ahead_53 (by decide +kernel) ?_
        refine lv_icmp_ne (tgt := 62) hx hb dX3_ahead_55 (by decide) (fun c_55 => ?_) (fun c_55 => ?_)
        ·
          refine lv_iload_n hx hb dX3_ahead_62 rfl (lv_at hl 1 rfl) ?_
          refine lv_bipush (v := 43) hx hb dX3_ahead_63 (by decide +kernel) ?_
          refine lv_icmp_ne (tgt := 72) hx hb dX3_ahead_65 (by decide) (fun c_65 => ?_) (fun c_65 => ?_)
          ·
            refine lv_iconst (v := 1) hx hb dX3_ahead_72 (by decide +kernel) ?_
            have f_3 := i32_lt.mp c_3
            have f_24 := i32_lt.mp c_24
            have hno : zb (isCh (chOf c0)) = 0 := by
              rcases chOf_cases c0 with ⟨h1, h2, h3⟩ | ⟨h1, h2, h3⟩ | ⟨h1, h2, h3⟩ | ⟨h1, h2⟩
              · exfalso; omega
              · exfalso; omega
              · exfalso; exact hsec.2 h1
              · rw [h2]; decide +kernel
            have hln : lnOf c0 = 1 := by rw [lnOf, if_pos hsec.1, if_neg c_65, if_neg c_55, if_neg c_45]
            exact W.iret (v := 1) hx hb hr (fun t ht hW => ⟨_, rfl, by rw [lwy, if_pos hno, hln]; rfl, ht⟩) (fun q h => by cases h) dX3_ahead_73
          ·
            refine lv_iconst (v := 0) hx hb dX3_ahead_68 (by decide +kernel) ?_
            refine lv_goto (tgt := 73) hx hb dX3_ahead_69 (by decide) ?_
            have f_3 := i32_lt.mp c_3
            have f_24 := i32_lt.mp c_24
            have hno : zb (isCh (chOf c0)) = 0 := by
              rcases chOf_cases c0 with ⟨h1, h2, h3⟩ | ⟨h1, h2, h3⟩ | ⟨h1, h2, h3⟩ | ⟨h1, h2⟩
              · exfalso; omega
              · exfalso; omega
              · exfalso; exact hsec.2 h1
              · rw [h2]; decide +kernel
            have hln : lnOf c0 = 0 := by rw [lnOf, if_pos hsec.1, if_pos c_65]
            exact W.iret (v := 0) hx hb hr (fun t ht hW => ⟨_, rfl, by rw [lwy, if_pos hno, hln]; rfl, ht⟩) (fun q h => by cases h) dX3_ahead_73
        ·
          refine lv_iconst (v := 3) hx hb dX3_ahead_58 (by decide +kernel) ?_
          refine lv_goto (tgt := 73) hx hb dX3_ahead_59 (by decide) ?_
          have f_3 := i32_lt.mp c_3
          have f_24 := i32_lt.mp c_24
          have hno : zb (isCh (chOf c0)) = 0 := by
            rcases chOf_cases c0 with ⟨h1, h2, h3⟩ | ⟨h1, h2, h3⟩ | ⟨h1, h2, h3⟩ | ⟨h1, h2⟩
            · exfalso; omega
            · exfalso; omega
            · exfalso; exact hsec.2 h1
            · rw [h2]; decide +kernel
          have hln : lnOf c0 = 3 := by rw [lnOf, if_pos hsec.1, if_neg (fun h9 => by rw [h9] at c_55; exact absurd c_55 (by decide)), if_pos c_55]
          exact W.iret (v := 3) hx hb hr (fun t ht hW => ⟨_, rfl, by rw [lwy, if_pos hno, hln]; rfl, ht⟩) (fun q h => by cases h) dX3_ahead_73
      ·
        refine lv_iconst (v := 2) hx hb dX3_ahead_48 (by decide +kernel) ?_
        refine lv_goto (tgt := 73) hx hb dX3_ahead_49 (by decide) ?_
        have f_3 := i32_lt.mp c_3
        have f_24 := i32_lt.mp c_24
        have hno : zb (isCh (chOf c0)) = 0 := by
          rcases chOf_cases c0 with ⟨h1, h2, h3⟩ | ⟨h1, h2, h3⟩ | ⟨h1, h2, h3⟩ | ⟨h1, h2⟩
          · exfalso; omega
          · exfalso; omega
          · exfalso; exact hsec.2 h1
          · rw [h2]; decide +kernel
        have hln : lnOf c0 = 2 := by rw [lnOf, if_pos hsec.1, if_neg (fun h9 => by rw [h9] at c_45; exact absurd c_45 (by decide)), if_neg (fun h9 => by rw [h9] at c_45; exact absurd c_45 (by decide)), if_pos c_45]
        exact W.iret (v := 2) hx hb hr (fun t ht hW => ⟨_, rfl, by rw [lwy, if_pos hno, hln]; rfl, ht⟩) (fun q h => by cases h) dX3_ahead_73
    ·
      refine lv_iload_n hx hb dX3_ahead_27 rfl (lv_at hl 1 rfl) ?_
      refine lv_bipush (v := 67) hx hb dX3_ahead_28 (by decide +kernel) ?_
      refine lv_icmp_gt (tgt := 42) hx hb dX3_ahead_30 (by decide) (fun c_30 => ?_) (fun c_30 => ?_)
      ·
        refine lv_iload_n hx hb dX3_ahead_42 rfl (lv_at hl 1 rfl) ?_
        refine lv_bipush (v := 48) hx hb dX3_ahead_43 (by decide +kernel) ?_
        refine lv_icmp_ne (tgt := 52) hx hb dX3_ahead_45 (by decide) (fun c_45 => ?_) (fun c_45 => ?_)
        ·
          refine lv_iload_n hx hb dX3_ahead_52 rfl (lv_at hl 1 rfl) ?_
          refine lv_bipush (v := 45) hx hb dX3_ahead_53 (by decide +kernel) ?_
          refine lv_icmp_ne (tgt := 62) hx hb dX3_ahead_55 (by decide) (fun c_55 => ?_) (fun c_55 => ?_)
          ·
            refine lv_iload_n hx hb dX3_ahead_62 rfl (lv_at hl 1 rfl) ?_
            refine lv_bipush (v := 43) hx hb dX3_ahead_63 (by decide +kernel) ?_
            refine lv_icmp_ne (tgt := 72) hx hb dX3_ahead_65 (by decide) (fun c_65 => ?_) (fun c_65 => ?_)
            ·
              refine lv_iconst (v := 1) hx hb dX3_ahead_72 (by decide +kernel) ?_
              have f_3 := i32_lt.mp c_3
              have f_24 := i32_nlt c_24
              have f_30 := i32_lt.mp c_30
              have hno : zb (isCh (chOf c0)) = 0 := by
                rcases chOf_cases c0 with ⟨h1, h2, h3⟩ | ⟨h1, h2, h3⟩ | ⟨h1, h2, h3⟩ | ⟨h1, h2⟩
                · exfalso; omega
                · exfalso; omega
                · exfalso; exact hsec.2 h1
                · rw [h2]; decide +kernel
              have hln : lnOf c0 = 1 := by rw [lnOf, if_pos hsec.1, if_neg c_65, if_neg c_55, if_neg c_45]
              exact W.iret (v := 1) hx hb hr (fun t ht hW => ⟨_, rfl, by rw [lwy, if_pos hno, hln]; rfl, ht⟩) (fun q h => by cases h) dX3_ahead_73
            ·
              refine lv_iconst (v := 0) hx hb dX3_ahead_68 (by decide +kernel) ?_
              refine lv_goto (tgt := 73) hx hb dX3_ahead_69 (by decide) ?_
              have f_3 := i32_lt.mp c_3
              have f_24 := i32_nlt c_24
              have f_30 := i32_lt.mp c_30
              have hno : zb (isCh (chOf c0)) = 0 := by
                rcases chOf_cases c0 with ⟨h1, h2, h3⟩ | ⟨h1, h2, h3⟩ | ⟨h1, h2, h3⟩ | ⟨h1, h2⟩
                · exfalso; omega
                · exfalso; omega
                · exfalso; exact hsec.2 h1
                · rw [h2]; decide +kernel
              have hln : lnOf c0 = 0 := by rw [lnOf, if_pos hsec.1, if_pos c_65]
              exact W.iret (v := 0) hx hb hr (fun t ht hW => ⟨_, rfl, by rw [lwy, if_pos hno, hln]; rfl, ht⟩) (fun q h => by cases h) dX3_ahead_73
          ·
            refine lv_iconst (v := 3) hx hb dX3_ahead_58 (by decide +kernel) ?_
            refine lv_goto (tgt := 73) hx hb dX3_ahead_59 (by decide) ?_
            have f_3 := i32_lt.mp c_3
            have f_24 := i32_nlt c_24
            have f_30 := i32_lt.mp c_30
            have hno : zb (isCh (chOf c0)) = 0 := by
              rcases chOf_cases c0 with ⟨h1, h2, h3⟩ | ⟨h1, h2, h3⟩ | ⟨h1, h2, h3⟩ | ⟨h1, h2⟩
              · exfalso; omega
              · exfalso; omega
              · exfalso; exact hsec.2 h1
              · rw [h2]; decide +kernel
            have hln : lnOf c0 = 3 := by rw [lnOf, if_pos hsec.1, if_neg (fun h9 => by rw [h9] at c_55; exact absurd c_55 (by decide)), if_pos c_55]
            exact W.iret (v := 3) hx hb hr (fun t ht hW => ⟨_, rfl, by rw [lwy, if_pos hno, hln]; rfl, ht⟩) (fun q h => by cases h) dX3_ahead_73
        ·
          refine lv_iconst (v := 2) hx hb dX3_ahead_48 (by decide +kernel) ?_
          refine lv_goto (tgt := 73) hx hb dX3_ahead_49 (by decide) ?_
          have f_3 := i32_lt.mp c_3
          have f_24 := i32_nlt c_24
          have f_30 := i32_lt.mp c_30
          have hno : zb (isCh (chOf c0)) = 0 := by
            rcases chOf_cases c0 with ⟨h1, h2, h3⟩ | ⟨h1, h2, h3⟩ | ⟨h1, h2, h3⟩ | ⟨h1, h2⟩
            · exfalso; omega
            · exfalso; omega
            · exfalso; exact hsec.2 h1
            · rw [h2]; decide +kernel
          have hln : lnOf c0 = 2 := by rw [lnOf, if_pos hsec.1, if_neg (fun h9 => by rw [h9] at c_45; exact absurd c_45 (by decide)), if_neg (fun h9 => by rw [h9] at c_45; exact absurd c_45 (by decide)), if_pos c_45]
          exact W.iret (v := 2) hx hb hr (fun t ht hW => ⟨_, rfl, by rw [lwy, if_pos hno, hln]; rfl, ht⟩) (fun q h => by cases h) dX3_ahead_73
      ·
        refine lv_aload_n hx hb dX3_ahead_33 rfl (lv_at hl 0 rfl) ?_
        refine lv_iload_n hx hb dX3_ahead_34 rfl (lv_at hl 1 rfl) ?_
        refine lv_bipush (v := 55) hx hb dX3_ahead_35 (by decide +kernel) ?_
        refine lv_isub hx hb dX3_ahead_37 ?_
        have f_a := i32_nlt c_24
        have f_b := i32_nlt c_30
        have hcc : chOf c0 = c0 - 55 ∧ isCh (chOf c0) = true := by
          rcases chOf_cases c0 with ⟨h1, h2, h3⟩ | ⟨h1, h2, h3⟩ | ⟨h1, h2, h3⟩ | ⟨h1, h2⟩
          · first | exact ⟨h2, isCh_iff.mpr (by omega)⟩ | (exfalso; omega)
          · first | exact ⟨h2, isCh_iff.mpr (by omega)⟩ | (exfalso; omega)
          · exfalso; omega
          · exfalso; omega
        rw [← hcc.1]
        refine vp_callSi (W.runV (As := [.int (chOf c0)]) (rest := []) ⟨hx, hb, hml, hown, hts⟩ (c_X3_wayI l hL0 hL htl hch (chOf c0) hcc.2) (cwV 1 hts gX3_ahead_X3_way rfl rfl rfl (by decide +kernel) ⟨(Nat.le_of_ble_eq_true rfl), (Nat.le_of_ble_eq_true rfl)⟩) (ro_pre hK hP rfl 0 rfl) rfl rfl hl.1 rfl (lv_room (Nat.le_of_ble_eq_true rfl)) dX3_ahead_38 ⟨(Nat.le_of_ble_eq_true rfl), (Nat.le_of_ble_eq_true rfl)⟩) (fun r_38 w_38 => ?_)
        subst w_38
        exact W.iret (v := (nI (wyN L tl (ch (chOf c0).toNatClampNeg)))) hx hb hr (fun t ht hW => ⟨_, rfl, by rw [lwy, if_neg (zb1.mpr hcc.2)], ht⟩) (fun q h => by cases h) dX3_ahead_41
  ·
    refine lv_iload_n hx hb dX3_ahead_6 rfl (lv_at hl 1 rfl) ?_
    refine lv_bipush (v := 57) hx hb dX3_ahead_7 (by decide +kernel) ?_
    refine lv_icmp_gt (tgt := 21) hx hb dX3_ahead_9 (by decide) (fun c_9 => ?_) (fun c_9 => ?_)
    ·
      refine lv_iload_n hx hb dX3_ahead_21 rfl (lv_at hl 1 rfl) ?_
      refine lv_bipush (v := 65) hx hb dX3_ahead_22 (by decide +kernel) ?_
      refine lv_icmp_lt (tgt := 42) hx hb dX3_ahead_24 (by decide) (fun c_24 => ?_) (fun c_24 => ?_)
      ·
        refine lv_iload_n hx hb dX3_ahead_42 rfl (lv_at hl 1 rfl) ?_
        refine lv_bipush (v := 48) hx hb dX3_ahead_43 (by decide +kernel) ?_
        refine lv_icmp_ne (tgt := 52) hx hb dX3_ahead_45 (by decide) (fun c_45 => ?_) (fun c_45 => ?_)
        ·
          refine lv_iload_n hx hb dX3_ahead_52 rfl (lv_at hl 1 rfl) ?_
          refine lv_bipush (v := 45) hx hb dX3_ahead_53 (by decide +kernel) ?_
          refine lv_icmp_ne (tgt := 62) hx hb dX3_ahead_55 (by decide) (fun c_55 => ?_) (fun c_55 => ?_)
          ·
            refine lv_iload_n hx hb dX3_ahead_62 rfl (lv_at hl 1 rfl) ?_
            refine lv_bipush (v := 43) hx hb dX3_ahead_63 (by decide +kernel) ?_
            refine lv_icmp_ne (tgt := 72) hx hb dX3_ahead_65 (by decide) (fun c_65 => ?_) (fun c_65 => ?_)
            ·
              refine lv_iconst (v := 1) hx hb dX3_ahead_72 (by decide +kernel) ?_
              have f_3 := i32_nlt c_3
              have f_9 := i32_lt.mp c_9
              have f_24 := i32_lt.mp c_24
              have hno : zb (isCh (chOf c0)) = 0 := by
                rcases chOf_cases c0 with ⟨h1, h2, h3⟩ | ⟨h1, h2, h3⟩ | ⟨h1, h2, h3⟩ | ⟨h1, h2⟩
                · exfalso; omega
                · exfalso; omega
                · exfalso; exact hsec.2 h1
                · rw [h2]; decide +kernel
              have hln : lnOf c0 = 1 := by rw [lnOf, if_pos hsec.1, if_neg c_65, if_neg c_55, if_neg c_45]
              exact W.iret (v := 1) hx hb hr (fun t ht hW => ⟨_, rfl, by rw [lwy, if_pos hno, hln]; rfl, ht⟩) (fun q h => by cases h) dX3_ahead_73
            ·
              refine lv_iconst (v := 0) hx hb dX3_ahead_68 (by decide +kernel) ?_
              refine lv_goto (tgt := 73) hx hb dX3_ahead_69 (by decide) ?_
              have f_3 := i32_nlt c_3
              have f_9 := i32_lt.mp c_9
              have f_24 := i32_lt.mp c_24
              have hno : zb (isCh (chOf c0)) = 0 := by
                rcases chOf_cases c0 with ⟨h1, h2, h3⟩ | ⟨h1, h2, h3⟩ | ⟨h1, h2, h3⟩ | ⟨h1, h2⟩
                · exfalso; omega
                · exfalso; omega
                · exfalso; exact hsec.2 h1
                · rw [h2]; decide +kernel
              have hln : lnOf c0 = 0 := by rw [lnOf, if_pos hsec.1, if_pos c_65]
              exact W.iret (v := 0) hx hb hr (fun t ht hW => ⟨_, rfl, by rw [lwy, if_pos hno, hln]; rfl, ht⟩) (fun q h => by cases h) dX3_ahead_73
          ·
            refine lv_iconst (v := 3) hx hb dX3_ahead_58 (by decide +kernel) ?_
            refine lv_goto (tgt := 73) hx hb dX3_ahead_59 (by decide) ?_
            have f_3 := i32_nlt c_3
            have f_9 := i32_lt.mp c_9
            have f_24 := i32_lt.mp c_24
            have hno : zb (isCh (chOf c0)) = 0 := by
              rcases chOf_cases c0 with ⟨h1, h2, h3⟩ | ⟨h1, h2, h3⟩ | ⟨h1, h2, h3⟩ | ⟨h1, h2⟩
              · exfalso; omega
              · exfalso; omega
              · exfalso; exact hsec.2 h1
              · rw [h2]; decide +kernel
            have hln : lnOf c0 = 3 := by rw [lnOf, if_pos hsec.1, if_neg (fun h9 => by rw [h9] at c_55; exact absurd c_55 (by decide)), if_pos c_55]
            exact W.iret (v := 3) hx hb hr (fun t ht hW => ⟨_, rfl, by rw [lwy, if_pos hno, hln]; rfl, ht⟩) (fun q h => by cases h) dX3_ahead_73
        ·
          refine lv_iconst (v := 2) hx hb dX3_ahead_48 (by decide +kernel) ?_
          refine lv_goto (tgt := 73) hx hb dX3_ahead_49 (by decide) ?_
          have f_3 := i32_nlt c_3
          have f_9 := i32_lt.mp c_9
          have f_24 := i32_lt.mp c_24
          have hno : zb (isCh (chOf c0)) = 0 := by
            rcases chOf_cases c0 with ⟨h1, h2, h3⟩ | ⟨h1, h2, h3⟩ | ⟨h1, h2, h3⟩ | ⟨h1, h2⟩
            · exfalso; omega
            · exfalso; omega
            · exfalso; exact hsec.2 h1
            · rw [h2]; decide +kernel
          have hln : lnOf c0 = 2 := by rw [lnOf, if_pos hsec.1, if_neg (fun h9 => by rw [h9] at c_45; exact absurd c_45 (by decide)), if_neg (fun h9 => by rw [h9] at c_45; exact absurd c_45 (by decide)), if_pos c_45]
          exact W.iret (v := 2) hx hb hr (fun t ht hW => ⟨_, rfl, by rw [lwy, if_pos hno, hln]; rfl, ht⟩) (fun q h => by cases h) dX3_ahead_73
      ·
        refine lv_iload_n hx hb dX3_ahead_27 rfl (lv_at hl 1 rfl) ?_
        refine lv_bipush (v := 67) hx hb dX3_ahead_28 (by decide +kernel) ?_
        refine lv_icmp_gt (tgt := 42) hx hb dX3_ahead_30 (by decide) (fun c_30 => ?_) (fun c_30 => ?_)
        ·
          refine lv_iload_n hx hb dX3_ahead_42 rfl (lv_at hl 1 rfl) ?_
          refine lv_bipush (v := 48) hx hb dX3_ahead_43 (by decide +kernel) ?_
          refine lv_icmp_ne (tgt := 52) hx hb dX3_ahead_45 (by decide) (fun c_45 => ?_) (fun c_45 => ?_)
          ·
            refine lv_iload_n hx hb dX3_ahead_52 rfl (lv_at hl 1 rfl) ?_
            refine lv_bipush (v := 45) hx hb dX3_ahead_53 (by decide +kernel) ?_
            refine lv_icmp_ne (tgt := 62) hx hb dX3_ahead_55 (by decide) (fun c_55 => ?_) (fun c_55 => ?_)
            ·
              refine lv_iload_n hx hb dX3_ahead_62 rfl (lv_at hl 1 rfl) ?_
              refine lv_bipush (v := 43) hx hb dX3_ahead_63 (by decide +kernel) ?_
              refine lv_icmp_ne (tgt := 72) hx hb dX3_ahead_65 (by decide) (fun c_65 => ?_) (fun c_65 => ?_)
              ·
                refine lv_iconst (v := 1) hx hb dX3_ahead_72 (by decide +kernel) ?_
                have f_3 := i32_nlt c_3
                have f_9 := i32_lt.mp c_9
                have f_24 := i32_nlt c_24
                have f_30 := i32_lt.mp c_30
                have hno : zb (isCh (chOf c0)) = 0 := by
                  rcases chOf_cases c0 with ⟨h1, h2, h3⟩ | ⟨h1, h2, h3⟩ | ⟨h1, h2, h3⟩ | ⟨h1, h2⟩
                  · exfalso; omega
                  · exfalso; omega
                  · exfalso; exact hsec.2 h1
                  · rw [h2]; decide +kernel
                have hln : lnOf c0 = 1 := by rw [lnOf, if_pos hsec.1, if_neg c_65, if_neg c_55, if_neg c_45]
                exact W.iret (v := 1) hx hb hr (fun t ht hW => ⟨_, rfl, by rw [lwy, if_pos hno, hln]; rfl, ht⟩) (fun q h => by cases h) dX3_ahead_73
              ·
                refine lv_iconst (v := 0) hx hb dX3_ahead_68 (by decide +kernel) ?_
                refine lv_goto (tgt := 73) hx hb dX3_ahead_69 (by decide) ?_
                have f_3 := i32_nlt c_3
                have f_9 := i32_lt.mp c_9
                have f_24 := i32_nlt c_24
                have f_30 := i32_lt.mp c_30
                have hno : zb (isCh (chOf c0)) = 0 := by
                  rcases chOf_cases c0 with ⟨h1, h2, h3⟩ | ⟨h1, h2, h3⟩ | ⟨h1, h2, h3⟩ | ⟨h1, h2⟩
                  · exfalso; omega
                  · exfalso; omega
                  · exfalso; exact hsec.2 h1
                  · rw [h2]; decide +kernel
                have hln : lnOf c0 = 0 := by rw [lnOf, if_pos hsec.1, if_pos c_65]
                exact W.iret (v := 0) hx hb hr (fun t ht hW => ⟨_, rfl, by rw [lwy, if_pos hno, hln]; rfl, ht⟩) (fun q h => by cases h) dX3_ahead_73
            ·
              refine lv_iconst (v := 3) hx hb dX3_ahead_58 (by decide +kernel) ?_
              refine lv_goto (tgt := 73) hx hb dX3_ahead_59 (by decide) ?_
              have f_3 := i32_nlt c_3
              have f_9 := i32_lt.mp c_9
              have f_24 := i32_nlt c_24
              have f_30 := i32_lt.mp c_30
              have hno : zb (isCh (chOf c0)) = 0 := by
                rcases chOf_cases c0 with ⟨h1, h2, h3⟩ | ⟨h1, h2, h3⟩ | ⟨h1, h2, h3⟩ | ⟨h1, h2⟩
                · exfalso; omega
                · exfalso; omega
                · exfalso; exact hsec.2 h1
                · rw [h2]; decide +kernel
              have hln : lnOf c0 = 3 := by rw [lnOf, if_pos hsec.1, if_neg (fun h9 => by rw [h9] at c_55; exact absurd c_55 (by decide)), if_pos c_55]
              exact W.iret (v := 3) hx hb hr (fun t ht hW => ⟨_, rfl, by rw [lwy, if_pos hno, hln]; rfl, ht⟩) (fun q h => by cases h) dX3_ahead_73
          ·
            refine lv_iconst (v := 2) hx hb dX3_ahead_48 (by decide +kernel) ?_
            refine lv_goto (tgt := 73) hx hb dX3_ahead_49 (by decide) ?_
            have f_3 := i32_nlt c_3
            have f_9 := i32_lt.mp c_9
            have f_24 := i32_nlt c_24
            have f_30 := i32_lt.mp c_30
            have hno : zb (isCh (chOf c0)) = 0 := by
              rcases chOf_cases c0 with ⟨h1, h2, h3⟩ | ⟨h1, h2, h3⟩ | ⟨h1, h2, h3⟩ | ⟨h1, h2⟩
              · exfalso; omega
              · exfalso; omega
              · exfalso; exact hsec.2 h1
              · rw [h2]; decide +kernel
            have hln : lnOf c0 = 2 := by rw [lnOf, if_pos hsec.1, if_neg (fun h9 => by rw [h9] at c_45; exact absurd c_45 (by decide)), if_neg (fun h9 => by rw [h9] at c_45; exact absurd c_45 (by decide)), if_pos c_45]
            exact W.iret (v := 2) hx hb hr (fun t ht hW => ⟨_, rfl, by rw [lwy, if_pos hno, hln]; rfl, ht⟩) (fun q h => by cases h) dX3_ahead_73
        ·
          refine lv_aload_n hx hb dX3_ahead_33 rfl (lv_at hl 0 rfl) ?_
          refine lv_iload_n hx hb dX3_ahead_34 rfl (lv_at hl 1 rfl) ?_
          refine lv_bipush (v := 55) hx hb dX3_ahead_35 (by decide +kernel) ?_
          refine lv_isub hx hb dX3_ahead_37 ?_
          have f_a := i32_nlt c_24
          have f_b := i32_nlt c_30
          have hcc : chOf c0 = c0 - 55 ∧ isCh (chOf c0) = true := by
            rcases chOf_cases c0 with ⟨h1, h2, h3⟩ | ⟨h1, h2, h3⟩ | ⟨h1, h2, h3⟩ | ⟨h1, h2⟩
            · first | exact ⟨h2, isCh_iff.mpr (by omega)⟩ | (exfalso; omega)
            · first | exact ⟨h2, isCh_iff.mpr (by omega)⟩ | (exfalso; omega)
            · exfalso; omega
            · exfalso; omega
          rw [← hcc.1]
          refine vp_callSi (W.runV (As := [.int (chOf c0)]) (rest := []) ⟨hx, hb, hml, hown, hts⟩ (c_X3_wayI l hL0 hL htl hch (chOf c0) hcc.2) (cwV 1 hts gX3_ahead_X3_way rfl rfl rfl (by decide +kernel) ⟨(Nat.le_of_ble_eq_true rfl), (Nat.le_of_ble_eq_true rfl)⟩) (ro_pre hK hP rfl 0 rfl) rfl rfl hl.1 rfl (lv_room (Nat.le_of_ble_eq_true rfl)) dX3_ahead_38 ⟨(Nat.le_of_ble_eq_true rfl), (Nat.le_of_ble_eq_true rfl)⟩) (fun r_38 w_38 => ?_)
          subst w_38
          exact W.iret (v := (nI (wyN L tl (ch (chOf c0).toNatClampNeg)))) hx hb hr (fun t ht hW => ⟨_, rfl, by rw [lwy, if_neg (zb1.mpr hcc.2)], ht⟩) (fun q h => by cases h) dX3_ahead_41
    ·
      refine lv_aload_n hx hb dX3_ahead_12 rfl (lv_at hl 0 rfl) ?_
      refine lv_iload_n hx hb dX3_ahead_13 rfl (lv_at hl 1 rfl) ?_
      refine lv_bipush (v := 48) hx hb dX3_ahead_14 (by decide +kernel) ?_
      refine lv_isub hx hb dX3_ahead_16 ?_
      have f_a := i32_nlt c_3
      have f_b := i32_nlt c_9
      have hcc : chOf c0 = c0 - 48 ∧ isCh (chOf c0) = true := by
        rcases chOf_cases c0 with ⟨h1, h2, h3⟩ | ⟨h1, h2, h3⟩ | ⟨h1, h2, h3⟩ | ⟨h1, h2⟩
        · first | exact ⟨h2, isCh_iff.mpr (by omega)⟩ | (exfalso; omega)
        · first | exact ⟨h2, isCh_iff.mpr (by omega)⟩ | (exfalso; omega)
        · exfalso; omega
        · exfalso; omega
      rw [← hcc.1]
      refine vp_callSi (W.runV (As := [.int (chOf c0)]) (rest := []) ⟨hx, hb, hml, hown, hts⟩ (c_X3_wayI l hL0 hL htl hch (chOf c0) hcc.2) (cwV 1 hts gX3_ahead_X3_way rfl rfl rfl (by decide +kernel) ⟨(Nat.le_of_ble_eq_true rfl), (Nat.le_of_ble_eq_true rfl)⟩) (ro_pre hK hP rfl 0 rfl) rfl rfl hl.1 rfl (lv_room (Nat.le_of_ble_eq_true rfl)) dX3_ahead_17 ⟨(Nat.le_of_ble_eq_true rfl), (Nat.le_of_ble_eq_true rfl)⟩) (fun r_17 w_17 => ?_)
      subst w_17
      exact W.iret (v := (nI (wyN L tl (ch (chOf c0).toNatClampNeg)))) hx hb hr (fun t ht hW => ⟨_, rfl, by rw [lwy, if_neg (zb1.mpr hcc.2)], ht⟩) (fun q h => by cases h) dX3_ahead_20

set_option maxHeartbeats 1000000 in
set_option maxRecDepth 100000 in
theorem c_X3_tries (l : Launch) {D : va_G} {cI cP cR cJ : ClassId} {m0 mS mC mT mR mA L C rl bg st tp tl : Nat} {on tb : Bool} {th mk : Int32} {sg ch tr rc ta : Nat → Int32} {sz : Nat} : Met l yX3_tries wsX3_tries ({ frames := 0, cells := 0, slots := 0, locals := 0 }) (mu [.ref m0] D cI cP cR cJ (wM cI m0 mS mC mT mR mA th (nI L) (nI C) (nI rl) (nI bg) (nI st) mk (zb on) (nI tp) (nI tl) (zb tb) sg ch tr rc ta) sz) (qv D (fun (_ : Unit) => True) (fun _ : Unit => wM cI m0 mS mC mT mR mA th (nI L) (nI C) (nI rl) (nI bg) (nI st) mk (zb on) (nI bg) (nI st) (zb on) sg ch tr rc ta) (va_A (wM cI m0 mS mC mT mR mA th (nI L) (nI C) (nI rl) (nI bg) (nI st) mk (zb on) (nI tp) (nI tl) (zb tb) sg ch tr rc ta) sz)) 0 0 (va_A (wM cI m0 mS mC mT mR mA th (nI L) (nI C) (nI rl) (nI bg) (nI st) mk (zb on) (nI tp) (nI tl) (zb tb) sg ch tr rc ta) sz) := by
  refine Met.ofW (cc := cX3_tries) (maxL := 1) (ret := none) (by decide) rfl ?_
  intro p e s m args below meth c s₁ B hml hv
  obtain ⟨rfl, hsz, hP, hK, hD0⟩ := hv
  have hx := B.exec
  have hb := B.bytes
  have hr := B.returns
  have hts := atoms_spec (ws := wsX3_tries) B.pre
  have hown : s.vm.findClass RX3 = some m.cls := findClass_of_methodNamed B.named
  have hlocks := B.notSynchronized
  have hinX3 : ∀ w ∈ wsX30, w ∈ wsX3_tries := by decide +kernel
  subst hsz
  have hD := hD0.self (sz := s.heap.size)
  generalize hAe : va_A (wM cI m0 mS mC mT mR mA th (nI L) (nI C) (nI rl) (nI bg) (nI st) mk (zb on) (nI tp) (nI tl) (zb tb) sg ch tr rc ta) s.heap.size = A at hD ⊢
  have hA : ∀ q : Nat, s.heap.size ≤ q → A q := fun q h => by rw [← hAe]; exact Or.inr h
  have hS : va_S A s.heap s.heap [] := va_S.rf
  have hP : va_P D vwCl (wM cI m0 mS mC mT mR mA th (nI L) (nI C) (nI rl) (nI bg) (nI st) mk (zb on) (nI tp) (nI tl) (zb tb) sg ch tr rc ta) s.heap := hP
  have hl := lv_entry ([.ref m0]) (n := 1) (Nat.le_of_ble_eq_true rfl)
  rw [lg_entry_eq]
  generalize (lg_sl ([.ref m0]) ++ List.replicate (1 - (lg_sl ([.ref m0])).length) Slot.unset).toArray = ls at hl ⊢
  have hl : lv_has ls 1 [(0, .ref m0)] := hl
  refine lv_aload_n hx hb dX3_tries_0 rfl (lv_at hl 0 rfl) ?_
  refine lv_aload_n hx hb dX3_tries_1 rfl (lv_at hl 0 rfl) ?_
  refine va_get (D := D) (ci := 4) (v := .int (nI bg)) (C := RX3) (T := TX3) (N := 16) hx hb hts hinX3 hown hK.1 hP 0 rfl rfl 9 (by decide) (hts (.fieldLink RX3 39 "PrinterRowsModel" "pages" "I") (by decide +kernel)) (fun _ h9 => h9) rfl dX3_tries_2 ?_
  refine va_put (D := D) (ci := 4) (v := .int (nI bg)) (ty := .int) (C := RX3) (T := TX3) (N := 16) hx hb hts hinX3 tyX3 tyX3_ok nmX3 hown hK.1 hP hD hS 0 rfl rfl 13 (by decide) (hts (.fieldLink RX3 42 "PrinterRowsModel" "trialPages" "I") (by decide +kernel)) (fun _ h9 => h9) rfl (by decide +kernel) rfl rfl (Nat.le_of_ble_eq_true rfl) dX3_tries_5 (fun H locs hP hD hS => ?_)
  have hP : va_P D vwCl (wM cI m0 mS mC mT mR mA th (nI L) (nI C) (nI rl) (nI bg) (nI st) mk (zb on) (nI bg) (nI tl) (zb tb) sg ch tr rc ta) H := hP
  have hD : va_D A (wM cI m0 mS mC mT mR mA th (nI L) (nI C) (nI rl) (nI bg) (nI st) mk (zb on) (nI bg) (nI tl) (zb tb) sg ch tr rc ta) := hD
  refine lv_aload_n hx hb dX3_tries_8 rfl (lv_at hl 0 rfl) ?_
  refine lv_aload_n hx hb dX3_tries_9 rfl (lv_at hl 0 rfl) ?_
  refine va_get (D := D) (ci := 4) (v := .int (nI st)) (C := RX3) (T := TX3) (N := 16) hx hb hts hinX3 hown hK.1 hP 0 rfl rfl 10 (by decide) (hts (.fieldLink RX3 45 "PrinterRowsModel" "at" "I") (by decide +kernel)) (fun _ h9 => h9) rfl dX3_tries_10 ?_
  refine va_put (D := D) (ci := 4) (v := .int (nI st)) (ty := .int) (C := RX3) (T := TX3) (N := 16) hx hb hts hinX3 tyX3 tyX3_ok nmX3 hown hK.1 hP hD hS 0 rfl rfl 14 (by decide) (hts (.fieldLink RX3 48 "PrinterRowsModel" "trialLine" "I") (by decide +kernel)) (fun _ h9 => h9) rfl (by decide +kernel) rfl rfl (Nat.le_of_ble_eq_true rfl) dX3_tries_13 (fun H locs hP hD hS => ?_)
  have hP : va_P D vwCl (wM cI m0 mS mC mT mR mA th (nI L) (nI C) (nI rl) (nI bg) (nI st) mk (zb on) (nI bg) (nI st) (zb tb) sg ch tr rc ta) H := hP
  have hD : va_D A (wM cI m0 mS mC mT mR mA th (nI L) (nI C) (nI rl) (nI bg) (nI st) mk (zb on) (nI bg) (nI st) (zb tb) sg ch tr rc ta) := hD
  refine lv_aload_n hx hb dX3_tries_16 rfl (lv_at hl 0 rfl) ?_
  refine lv_aload_n hx hb dX3_tries_17 rfl (lv_at hl 0 rfl) ?_
  refine va_get (D := D) (ci := 4) (v := .int (zb on)) (C := RX3) (T := TX3) (N := 16) hx hb hts hinX3 hown hK.1 hP 0 rfl rfl 12 (by decide) (hts (.fieldLink RX3 51 "PrinterRowsModel" "begun" "Z") (by decide +kernel)) (fun _ h9 => h9) rfl dX3_tries_18 ?_
  refine va_put (D := D) (ci := 4) (v := .int (zb on)) (ty := .boolean) (C := RX3) (T := TX3) (N := 16) hx hb hts hinX3 tyX3 tyX3_ok nmX3 hown hK.1 hP hD hS 0 rfl rfl 15 (by decide) (hts (.fieldLink RX3 55 "PrinterRowsModel" "trialBegun" "Z") (by decide +kernel)) (fun _ h9 => h9) rfl (by decide +kernel) (zb_nar _) (zb_fit _) (Nat.le_of_ble_eq_true rfl) dX3_tries_21 (fun H locs hP hD hS => ?_)
  have hP : va_P D vwCl (wM cI m0 mS mC mT mR mA th (nI L) (nI C) (nI rl) (nI bg) (nI st) mk (zb on) (nI bg) (nI st) (zb on) sg ch tr rc ta) H := hP
  have hD : va_D A (wM cI m0 mS mC mT mR mA th (nI L) (nI C) (nI rl) (nI bg) (nI st) mk (zb on) (nI bg) (nI st) (zb on) sg ch tr rc ta) := hD
  exact W.vret hx hb hr (fun t ht hW => ⟨⟨(), rfl, trivial, by rw [ht]; exact hP, hD⟩, hS.F ht⟩) hS.2.2 dX3_tries_24

set_option maxHeartbeats 1000000 in
set_option maxRecDepth 100000 in
theorem c_X3_pass (l : Launch) {D : va_G} {cI cP cR cJ : ClassId} {m0 mS mC mT mR mA L C rl bg st tp tl : Nat} {on tb : Bool} {th mk : Int32} {sg ch tr rc ta : Nat → Int32} {sz : Nat} : Met l yX3_pass wsX3_pass ({ frames := 0, cells := 0, slots := 0, locals := 0 }) (mu [.ref m0] D cI cP cR cJ (wM cI m0 mS mC mT mR mA th (nI L) (nI C) (nI rl) (nI bg) (nI st) mk (zb on) (nI tp) (nI tl) (zb tb) sg ch tr rc ta) sz) (qv D (fun (_ : Unit) => True) (fun _ : Unit => wM cI m0 mS mC mT mR mA th (nI L) (nI C) (nI rl) (nI bg) (nI 0) mk (zb false) (nI tp) (nI tl) (zb tb) sg ch tr rc ta) (va_A (wM cI m0 mS mC mT mR mA th (nI L) (nI C) (nI rl) (nI bg) (nI st) mk (zb on) (nI tp) (nI tl) (zb tb) sg ch tr rc ta) sz)) 0 0 (va_A (wM cI m0 mS mC mT mR mA th (nI L) (nI C) (nI rl) (nI bg) (nI st) mk (zb on) (nI tp) (nI tl) (zb tb) sg ch tr rc ta) sz) := by
  refine Met.ofW (cc := cX3_pass) (maxL := 1) (ret := none) (by decide) rfl ?_
  intro p e s m args below meth c s₁ B hml hv
  obtain ⟨rfl, hsz, hP, hK, hD0⟩ := hv
  have hx := B.exec
  have hb := B.bytes
  have hr := B.returns
  have hts := atoms_spec (ws := wsX3_pass) B.pre
  have hown : s.vm.findClass RX3 = some m.cls := findClass_of_methodNamed B.named
  have hlocks := B.notSynchronized
  have hinX3 : ∀ w ∈ wsX30, w ∈ wsX3_pass := by decide +kernel
  subst hsz
  have hD := hD0.self (sz := s.heap.size)
  generalize hAe : va_A (wM cI m0 mS mC mT mR mA th (nI L) (nI C) (nI rl) (nI bg) (nI st) mk (zb on) (nI tp) (nI tl) (zb tb) sg ch tr rc ta) s.heap.size = A at hD ⊢
  have hA : ∀ q : Nat, s.heap.size ≤ q → A q := fun q h => by rw [← hAe]; exact Or.inr h
  have hS : va_S A s.heap s.heap [] := va_S.rf
  have hP : va_P D vwCl (wM cI m0 mS mC mT mR mA th (nI L) (nI C) (nI rl) (nI bg) (nI st) mk (zb on) (nI tp) (nI tl) (zb tb) sg ch tr rc ta) s.heap := hP
  have hl := lv_entry ([.ref m0]) (n := 1) (Nat.le_of_ble_eq_true rfl)
  rw [lg_entry_eq]
  generalize (lg_sl ([.ref m0]) ++ List.replicate (1 - (lg_sl ([.ref m0])).length) Slot.unset).toArray = ls at hl ⊢
  have hl : lv_has ls 1 [(0, .ref m0)] := hl
  refine lv_aload_n hx hb dX3_pass_0 rfl (lv_at hl 0 rfl) ?_
  refine lv_iconst (v := 0) hx hb dX3_pass_1 (by decide +kernel) ?_
  refine va_put (D := D) (ci := 4) (v := .int 0) (ty := .boolean) (C := RX3) (T := TX3) (N := 16) hx hb hts hinX3 tyX3 tyX3_ok nmX3 hown hK.1 hP hD hS 0 rfl rfl 12 (by decide) (hts (.fieldLink RX3 51 "PrinterRowsModel" "begun" "Z") (by decide +kernel)) (fun _ h9 => h9) rfl (by decide +kernel) (by decide +kernel) (by decide +kernel) (Nat.le_of_ble_eq_true rfl) dX3_pass_2 (fun H locs hP hD hS => ?_)
  have hP : va_P D vwCl (wM cI m0 mS mC mT mR mA th (nI L) (nI C) (nI rl) (nI bg) (nI st) mk 0 (nI tp) (nI tl) (zb tb) sg ch tr rc ta) H := hP
  have hD : va_D A (wM cI m0 mS mC mT mR mA th (nI L) (nI C) (nI rl) (nI bg) (nI st) mk 0 (nI tp) (nI tl) (zb tb) sg ch tr rc ta) := hD
  refine lv_aload_n hx hb dX3_pass_5 rfl (lv_at hl 0 rfl) ?_
  refine lv_iconst (v := 0) hx hb dX3_pass_6 (by decide +kernel) ?_
  refine va_put (D := D) (ci := 4) (v := .int 0) (ty := .int) (C := RX3) (T := TX3) (N := 16) hx hb hts hinX3 tyX3 tyX3_ok nmX3 hown hK.1 hP hD hS 0 rfl rfl 10 (by decide) (hts (.fieldLink RX3 45 "PrinterRowsModel" "at" "I") (by decide +kernel)) (fun _ h9 => h9) rfl (by decide +kernel) rfl rfl (Nat.le_of_ble_eq_true rfl) dX3_pass_7 (fun H locs hP hD hS => ?_)
  have hP : va_P D vwCl (wM cI m0 mS mC mT mR mA th (nI L) (nI C) (nI rl) (nI bg) 0 mk 0 (nI tp) (nI tl) (zb tb) sg ch tr rc ta) H := hP
  have hD : va_D A (wM cI m0 mS mC mT mR mA th (nI L) (nI C) (nI rl) (nI bg) 0 mk 0 (nI tp) (nI tl) (zb tb) sg ch tr rc ta) := hD
  exact W.vret hx hb hr (fun t ht hW => ⟨⟨(), rfl, trivial, by rw [ht]; exact hP, hD⟩, hS.F ht⟩) hS.2.2 dX3_pass_10

set_option maxHeartbeats 1000000 in
set_option maxRecDepth 100000 in
theorem c_X3_begin (l : Launch) {D : va_G} {cI cP cR cJ : ClassId} {m0 mS mC mT mR mA L C rl bg st tp tl : Nat} {on tb : Bool} {th mk : Int32} {sg ch tr rc ta : Nat → Int32} {sz : Nat} : Met l yX3_begin wsX3_begin ({ frames := 0, cells := 0, slots := 0, locals := 0 }) (mu [.ref m0] D cI cP cR cJ (wM cI m0 mS mC mT mR mA th (nI L) (nI C) (nI rl) (nI bg) (nI st) mk (zb on) (nI tp) (nI tl) (zb tb) sg ch tr rc ta) sz) (qv D (fun (_ : Unit) => True) (fun _ : Unit => wM cI m0 mS mC mT mR mA th (nI L) (nI C) (nI rl) (nI bg) (nI st) mk (zb on) (nI (bgB tp tb)) (nI tl) (zb true) sg ch tr rc ta) (va_A (wM cI m0 mS mC mT mR mA th (nI L) (nI C) (nI rl) (nI bg) (nI st) mk (zb on) (nI tp) (nI tl) (zb tb) sg ch tr rc ta) sz)) 0 0 (va_A (wM cI m0 mS mC mT mR mA th (nI L) (nI C) (nI rl) (nI bg) (nI st) mk (zb on) (nI tp) (nI tl) (zb tb) sg ch tr rc ta) sz) := by
  refine Met.ofW (cc := cX3_begin) (maxL := 1) (ret := none) (by decide) rfl ?_
  intro p e s m args below meth c s₁ B hml hv
  obtain ⟨rfl, hsz, hP, hK, hD0⟩ := hv
  have hx := B.exec
  have hb := B.bytes
  have hr := B.returns
  have hts := atoms_spec (ws := wsX3_begin) B.pre
  have hown : s.vm.findClass RX3 = some m.cls := findClass_of_methodNamed B.named
  have hlocks := B.notSynchronized
  have hinX3 : ∀ w ∈ wsX30, w ∈ wsX3_begin := by decide +kernel
  subst hsz
  have hD := hD0.self (sz := s.heap.size)
  generalize hAe : va_A (wM cI m0 mS mC mT mR mA th (nI L) (nI C) (nI rl) (nI bg) (nI st) mk (zb on) (nI tp) (nI tl) (zb tb) sg ch tr rc ta) s.heap.size = A at hD ⊢
  have hA : ∀ q : Nat, s.heap.size ≤ q → A q := fun q h => by rw [← hAe]; exact Or.inr h
  have hS : va_S A s.heap s.heap [] := va_S.rf
  have hP : va_P D vwCl (wM cI m0 mS mC mT mR mA th (nI L) (nI C) (nI rl) (nI bg) (nI st) mk (zb on) (nI tp) (nI tl) (zb tb) sg ch tr rc ta) s.heap := hP
  have hl := lv_entry ([.ref m0]) (n := 1) (Nat.le_of_ble_eq_true rfl)
  rw [lg_entry_eq]
  generalize (lg_sl ([.ref m0]) ++ List.replicate (1 - (lg_sl ([.ref m0])).length) Slot.unset).toArray = ls at hl ⊢
  have hl : lv_has ls 1 [(0, .ref m0)] := hl
  refine lv_aload_n hx hb dX3_begin_0 rfl (lv_at hl 0 rfl) ?_
  refine lv_dup hx hb dX3_begin_1 rfl ?_
  refine va_get (D := D) (ci := 4) (v := .int (nI tp)) (C := RX3) (T := TX3) (N := 16) hx hb hts hinX3 hown hK.1 hP 0 rfl rfl 13 (by decide) (hts (.fieldLink RX3 42 "PrinterRowsModel" "trialPages" "I") (by decide +kernel)) (fun _ h9 => h9) rfl dX3_begin_2 ?_
  refine lv_aload_n hx hb dX3_begin_5 rfl (lv_at hl 0 rfl) ?_
  refine va_get (D := D) (ci := 4) (v := .int (zb tb)) (C := RX3) (T := TX3) (N := 16) hx hb hts hinX3 hown hK.1 hP 0 rfl rfl 15 (by decide) (hts (.fieldLink RX3 55 "PrinterRowsModel" "trialBegun" "Z") (by decide +kernel)) (fun _ h9 => h9) rfl dX3_begin_6 ?_
  refine lv_if_eq (tgt := 16) hx hb dX3_begin_9 (by decide) (fun c_9 => ?_) (fun c_9 => ?_)
  ·
    obtain rfl : tb = false := zb0.mp c_9
    refine lv_iconst (v := 1) hx hb dX3_begin_16 (by decide +kernel) ?_
    refine lv_iadd hx hb dX3_begin_17 ?_
    refine lv_topi (fun x_17 ex_17 => ?_)
    obtain rfl : x_17 = nI (tp + 1) := ex_17.trans (nI_1 tp)
    refine va_put (D := D) (ci := 4) (v := .int (nI (tp + 1))) (ty := .int) (C := RX3) (T := TX3) (N := 16) hx hb hts hinX3 tyX3 tyX3_ok nmX3 hown hK.1 hP hD hS 0 rfl rfl 13 (by decide) (hts (.fieldLink RX3 42 "PrinterRowsModel" "trialPages" "I") (by decide +kernel)) (fun _ h9 => h9) rfl (by decide +kernel) rfl rfl (Nat.le_of_ble_eq_true rfl) dX3_begin_18 (fun H locs hP hD hS => ?_)
    have hP : va_P D vwCl (wM cI m0 mS mC mT mR mA th (nI L) (nI C) (nI rl) (nI bg) (nI st) mk (zb on) (nI (tp + 1)) (nI tl) (zb false) sg ch tr rc ta) H := hP
    have hD : va_D A (wM cI m0 mS mC mT mR mA th (nI L) (nI C) (nI rl) (nI bg) (nI st) mk (zb on) (nI (tp + 1)) (nI tl) (zb false) sg ch tr rc ta) := hD
    refine lv_aload_n hx hb dX3_begin_21 rfl (lv_at hl 0 rfl) ?_
    refine lv_iconst (v := 1) hx hb dX3_begin_22 (by decide +kernel) ?_
    refine va_put (D := D) (ci := 4) (v := .int 1) (ty := .boolean) (C := RX3) (T := TX3) (N := 16) hx hb hts hinX3 tyX3 tyX3_ok nmX3 hown hK.1 hP hD hS 0 rfl rfl 15 (by decide) (hts (.fieldLink RX3 55 "PrinterRowsModel" "trialBegun" "Z") (by decide +kernel)) (fun _ h9 => h9) rfl (by decide +kernel) (by decide +kernel) (by decide +kernel) (Nat.le_of_ble_eq_true rfl) dX3_begin_23 (fun H locs hP hD hS => ?_)
    have hP : va_P D vwCl (wM cI m0 mS mC mT mR mA th (nI L) (nI C) (nI rl) (nI bg) (nI st) mk (zb on) (nI (tp + 1)) (nI tl) 1 sg ch tr rc ta) H := hP
    have hD : va_D A (wM cI m0 mS mC mT mR mA th (nI L) (nI C) (nI rl) (nI bg) (nI st) mk (zb on) (nI (tp + 1)) (nI tl) 1 sg ch tr rc ta) := hD
    exact W.vret hx hb hr (fun t ht hW => ⟨⟨(), rfl, trivial, by rw [ht]; exact hP, hD⟩, hS.F ht⟩) hS.2.2 dX3_begin_26
  ·
    obtain rfl : tb = true := zb1.mp c_9
    refine lv_iconst (v := 0) hx hb dX3_begin_12 (by decide +kernel) ?_
    refine lv_goto (tgt := 17) hx hb dX3_begin_13 (by decide) ?_
    refine lv_iadd hx hb dX3_begin_17 ?_
    refine lv_topi (fun x_17 ex_17 => ?_)
    obtain rfl : x_17 = nI tp := ex_17.trans (Int32.add_zero _)
    refine va_put (D := D) (ci := 4) (v := .int (nI tp)) (ty := .int) (C := RX3) (T := TX3) (N := 16) hx hb hts hinX3 tyX3 tyX3_ok nmX3 hown hK.1 hP hD hS 0 rfl rfl 13 (by decide) (hts (.fieldLink RX3 42 "PrinterRowsModel" "trialPages" "I") (by decide +kernel)) (fun _ h9 => h9) rfl (by decide +kernel) rfl rfl (Nat.le_of_ble_eq_true rfl) dX3_begin_18 (fun H locs hP hD hS => ?_)
    have hP : va_P D vwCl (wM cI m0 mS mC mT mR mA th (nI L) (nI C) (nI rl) (nI bg) (nI st) mk (zb on) (nI tp) (nI tl) (zb true) sg ch tr rc ta) H := hP
    have hD : va_D A (wM cI m0 mS mC mT mR mA th (nI L) (nI C) (nI rl) (nI bg) (nI st) mk (zb on) (nI tp) (nI tl) (zb true) sg ch tr rc ta) := hD
    refine lv_aload_n hx hb dX3_begin_21 rfl (lv_at hl 0 rfl) ?_
    refine lv_iconst (v := 1) hx hb dX3_begin_22 (by decide +kernel) ?_
    refine va_put (D := D) (ci := 4) (v := .int 1) (ty := .boolean) (C := RX3) (T := TX3) (N := 16) hx hb hts hinX3 tyX3 tyX3_ok nmX3 hown hK.1 hP hD hS 0 rfl rfl 15 (by decide) (hts (.fieldLink RX3 55 "PrinterRowsModel" "trialBegun" "Z") (by decide +kernel)) (fun _ h9 => h9) rfl (by decide +kernel) (by decide +kernel) (by decide +kernel) (Nat.le_of_ble_eq_true rfl) dX3_begin_23 (fun H locs hP hD hS => ?_)
    have hP : va_P D vwCl (wM cI m0 mS mC mT mR mA th (nI L) (nI C) (nI rl) (nI bg) (nI st) mk (zb on) (nI tp) (nI tl) 1 sg ch tr rc ta) H := hP
    have hD : va_D A (wM cI m0 mS mC mT mR mA th (nI L) (nI C) (nI rl) (nI bg) (nI st) mk (zb on) (nI tp) (nI tl) 1 sg ch tr rc ta) := hD
    exact W.vret hx hb hr (fun t ht hW => ⟨⟨(), rfl, trivial, by rw [ht]; exact hP, hD⟩, hS.F ht⟩) hS.2.2 dX3_begin_26

theorem mvn_up {L : Nat} (n : Nat) (t : Nat × Nat × Bool) : (mvn L n t).1 ≤ t.1 + n := by
  induction n with
  | zero => exact Nat.le_refl _
  | succ n ih =>
    show (mv1 L (mvn L n t)).1 ≤ _
    unfold mv1
    by_cases q : (mvn L n t).2.1 + 1 < L
    · rw [if_pos q]; dsimp only; omega
    · rw [if_neg q]; dsimp only; split <;> omega

set_option maxHeartbeats 1000000 in
set_option maxRecDepth 100000 in
theorem c_X3_move (l : Launch) {D : va_G} {cI cP cR cJ : ClassId} {m0 mS mC mT mR mA L C rl bg st tp tl : Nat} {on tb : Bool} {th mk : Int32} {sg ch tr rc ta : Nat → Int32} {sz : Nat} (hL0 : 0 < L) (hL : L ≤ 66) (htl : tl < L) (htp : tp ≤ 1000) (w : Nat) (hw : w ≤ 66) : Met l yX3_move wsX3_move ({ frames := 0, cells := 0, slots := 0, locals := 0 }) (mu [.ref m0, .int (nI w)] D cI cP cR cJ (wM cI m0 mS mC mT mR mA th (nI L) (nI C) (nI rl) (nI bg) (nI st) mk (zb on) (nI tp) (nI tl) (zb tb) sg ch tr rc ta) sz) (qv D (fun (u : Nat × Nat × Bool) => u = mvn L w (tp, tl, tb)) (fun u : Nat × Nat × Bool => wM cI m0 mS mC mT mR mA th (nI L) (nI C) (nI rl) (nI bg) (nI st) mk (zb on) (nI u.1) (nI u.2.1) (zb u.2.2) sg ch tr rc ta) (va_A (wM cI m0 mS mC mT mR mA th (nI L) (nI C) (nI rl) (nI bg) (nI st) mk (zb on) (nI tp) (nI tl) (zb tb) sg ch tr rc ta) sz)) 0 0 (va_A (wM cI m0 mS mC mT mR mA th (nI L) (nI C) (nI rl) (nI bg) (nI st) mk (zb on) (nI tp) (nI tl) (zb tb) sg ch tr rc ta) sz) := by
  refine Met.ofW (cc := cX3_move) (maxL := 3) (ret := none) (by decide) rfl ?_
  intro p e s m args below meth c s₁ B hml hv
  obtain ⟨rfl, hsz, hP, hK, hD0⟩ := hv
  have hx := B.exec
  have hb := B.bytes
  have hr := B.returns
  have hts := atoms_spec (ws := wsX3_move) B.pre
  have hown : s.vm.findClass RX3 = some m.cls := findClass_of_methodNamed B.named
  have hlocks := B.notSynchronized
  have hinX3 : ∀ w ∈ wsX30, w ∈ wsX3_move := by decide +kernel
  subst hsz
  have hD := hD0.self (sz := s.heap.size)
  generalize hAe : va_A (wM cI m0 mS mC mT mR mA th (nI L) (nI C) (nI rl) (nI bg) (nI st) mk (zb on) (nI tp) (nI tl) (zb tb) sg ch tr rc ta) s.heap.size = A at hD ⊢
  have hA : ∀ q : Nat, s.heap.size ≤ q → A q := fun q h => by rw [← hAe]; exact Or.inr h
  have hS : va_S A s.heap s.heap [] := va_S.rf
  have hP : va_P D vwCl (wM cI m0 mS mC mT mR mA th (nI L) (nI C) (nI rl) (nI bg) (nI st) mk (zb on) (nI tp) (nI tl) (zb tb) sg ch tr rc ta) s.heap := hP
  have hl := lv_entry ([.ref m0, .int (nI w)]) (n := 3) (Nat.le_of_ble_eq_true rfl)
  rw [lg_entry_eq]
  generalize (lg_sl ([.ref m0, .int (nI w)]) ++ List.replicate (3 - (lg_sl ([.ref m0, .int (nI w)])).length) Slot.unset).toArray = ls at hl ⊢
  have hl : lv_has ls 3 [(0, .ref m0), (1, .int (nI w))] := hl
  refine lv_iconst (v := 0) hx hb dX3_move_0 (by decide +kernel) ?_
  refine lv_istore_n (lv' := [(2, .int 0), (0, .ref m0), (1, .int (nI w))]) hx hb dX3_move_1 rfl hl (by decide) rfl (fun ls hl => ?_)
  have loop : ∀ (n : Nat) (i tpv tlv : Nat) (tbv : Bool) (H : Heap) (locs : List Loc) (ls : Array Slot), (i ≤ w) → (w - i < n) → ((tpv, tlv, tbv) = mvn L i (tp, tl, tb)) → va_P D vwCl (wM cI m0 mS mC mT mR mA th (nI L) (nI C) (nI rl) (nI bg) (nI st) mk (zb on) (nI tpv) (nI tlv) (zb tbv) sg ch tr rc ta) H → va_D A (wM cI m0 mS mC mT mR mA th (nI L) (nI C) (nI rl) (nI bg) (nI st) mk (zb on) (nI tpv) (nI tlv) (zb tbv) sg ch tr rc ta) → va_S A s.heap H locs → lv_has ls 3 [(0, .ref m0), (1, .int (nI w)), (2, .int (nI i))] → W p l e (headSpec wsX3_move ({ frames := 0, cells := 0, slots := 0, locals := 0 })).room s m (([.ref m0, .int (nI w)] : List Value).toArray) below meth c H locs 0 0 (MQ below (qv D (fun (u : Nat × Nat × Bool) => u = mvn L w (tp, tl, tb)) (fun u : Nat × Nat × Bool => wM cI m0 mS mC mT mR mA th (nI L) (nI C) (nI rl) (nI bg) (nI st) mk (zb on) (nI u.1) (nI u.2.1) (zb u.2.2) sg ch tr rc ta) (A)) (([.ref m0, .int (nI w)] : List Value).toArray) s 0 0 A) (F0 m 2 ls []) := by
    intro n
    induction n with
    | zero => intro i tpv tlv tbv H locs ls hi hn hmv hP hD hS hl; exact absurd hn (Nat.not_lt_zero _)
    | succ n ih =>
      intro i tpv tlv tbv H locs ls hi hn hmv hP hD hS hl
      refine lv_iload_n hx hb dX3_move_2 rfl (lv_at hl 2 rfl) ?_
      refine lv_iload_n hx hb dX3_move_3 rfl (lv_at hl 1 rfl) ?_
      refine lv_icmp_ge (tgt := 68) hx hb dX3_move_4 (by decide) (fun c_4 => ?_) (fun c_4 => ?_)
      ·
        have hie : w = i := by have := (nI_leI (by omega) (by omega)).mp c_4; omega
        exact W.vret hx hb hr (fun t ht hW => ⟨⟨(tpv, tlv, tbv), rfl, by rw [hie]; exact hmv, by rw [ht]; exact hP, hD⟩, hS.F ht⟩) hS.2.2 dX3_move_68
      ·
        have hlt : i < w := Nat.lt_of_not_le (fun h9 => c_4 (nI_le h9 (by omega)))
        have hsl : tlv < L := by have h9 := mvn_st hL0 i (tp, tl, tb) htl; rw [← hmv] at h9; exact h9
        have hup : tpv ≤ 2000 := by have h9 := mvn_up (L := L) i (tp, tl, tb); rw [← hmv] at h9; dsimp only at h9; omega
        refine lv_aload_n hx hb dX3_move_7 rfl (lv_at hl 0 rfl) ?_
        refine lv_dup hx hb dX3_move_8 rfl ?_
        refine va_get (D := D) (ci := 4) (v := .int (nI tlv)) (C := RX3) (T := TX3) (N := 16) hx hb hts hinX3 hown hK.1 hP 0 rfl rfl 14 (by decide) (hts (.fieldLink RX3 48 "PrinterRowsModel" "trialLine" "I") (by decide +kernel)) (fun _ h9 => h9) rfl dX3_move_9 ?_
        refine lv_iconst (v := 1) hx hb dX3_move_12 (by decide +kernel) ?_
        refine lv_iadd hx hb dX3_move_13 ?_
        refine lv_topi (fun x_13 ex_13 => ?_)
        obtain rfl : x_13 = nI (tlv + 1) := ex_13.trans (nI_1 tlv)
        refine va_put (D := D) (ci := 4) (v := .int (nI (tlv + 1))) (ty := .int) (C := RX3) (T := TX3) (N := 16) hx hb hts hinX3 tyX3 tyX3_ok nmX3 hown hK.1 hP hD hS 0 rfl rfl 14 (by decide) (hts (.fieldLink RX3 48 "PrinterRowsModel" "trialLine" "I") (by decide +kernel)) (fun _ h9 => h9) rfl (by decide +kernel) rfl rfl (Nat.le_of_ble_eq_true rfl) dX3_move_14 (fun H locs hP hD hS => ?_)
        have hP : va_P D vwCl (wM cI m0 mS mC mT mR mA th (nI L) (nI C) (nI rl) (nI bg) (nI st) mk (zb on) (nI tpv) (nI (tlv + 1)) (zb tbv) sg ch tr rc ta) H := hP
        have hD : va_D A (wM cI m0 mS mC mT mR mA th (nI L) (nI C) (nI rl) (nI bg) (nI st) mk (zb on) (nI tpv) (nI (tlv + 1)) (zb tbv) sg ch tr rc ta) := hD
        refine lv_aload_n hx hb dX3_move_17 rfl (lv_at hl 0 rfl) ?_
        refine va_get (D := D) (ci := 4) (v := .int (nI (tlv + 1))) (C := RX3) (T := TX3) (N := 16) hx hb hts hinX3 hown hK.1 hP 0 rfl rfl 14 (by decide) (hts (.fieldLink RX3 48 "PrinterRowsModel" "trialLine" "I") (by decide +kernel)) (fun _ h9 => h9) rfl dX3_move_18 ?_
        refine lv_aload_n hx hb dX3_move_21 rfl (lv_at hl 0 rfl) ?_
        refine va_get (D := D) (ci := 4) (v := .int (nI L)) (C := RX3) (T := TX3) (N := 16) hx hb hts hinX3 hown hK.1 hP 0 rfl rfl 1 (by decide) (hts (.fieldLink RX3 26 "PrinterRowsModel" "lines" "I") (by decide +kernel)) (fun _ h9 => h9) rfl dX3_move_22 ?_
        refine lv_icmp_ge (tgt := 31) hx hb dX3_move_25 (by decide) (fun c_25 => ?_) (fun c_25 => ?_)
        ·
          have hs1 : ¬ tlv + 1 < L := fun h9 => nI_ge h9 (by omega) c_25
          refine lv_aload_n hx hb dX3_move_31 rfl (lv_at hl 0 rfl) ?_
          refine lv_dup hx hb dX3_move_32 rfl ?_
          refine va_get (D := D) (ci := 4) (v := .int (nI tpv)) (C := RX3) (T := TX3) (N := 16) hx hb hts hinX3 hown hK.1 hP 0 rfl rfl 13 (by decide) (hts (.fieldLink RX3 42 "PrinterRowsModel" "trialPages" "I") (by decide +kernel)) (fun _ h9 => h9) rfl dX3_move_33 ?_
          refine lv_aload_n hx hb dX3_move_36 rfl (lv_at hl 0 rfl) ?_
          refine va_get (D := D) (ci := 4) (v := .int (zb tbv)) (C := RX3) (T := TX3) (N := 16) hx hb hts hinX3 hown hK.1 hP 0 rfl rfl 15 (by decide) (hts (.fieldLink RX3 55 "PrinterRowsModel" "trialBegun" "Z") (by decide +kernel)) (fun _ h9 => h9) rfl dX3_move_37 ?_
          refine lv_if_eq (tgt := 47) hx hb dX3_move_40 (by decide) (fun c_40 => ?_) (fun c_40 => ?_)
          ·
            obtain rfl : tbv = false := zb0.mp c_40
            refine lv_iconst (v := 1) hx hb dX3_move_47 (by decide +kernel) ?_
            refine lv_iadd hx hb dX3_move_48 ?_
            refine lv_topi (fun x_48 ex_48 => ?_)
            obtain rfl : x_48 = nI (tpv + 1) := ex_48.trans (nI_1 tpv)
            refine va_put (D := D) (ci := 4) (v := .int (nI (tpv + 1))) (ty := .int) (C := RX3) (T := TX3) (N := 16) hx hb hts hinX3 tyX3 tyX3_ok nmX3 hown hK.1 hP hD hS 0 rfl rfl 13 (by decide) (hts (.fieldLink RX3 42 "PrinterRowsModel" "trialPages" "I") (by decide +kernel)) (fun _ h9 => h9) rfl (by decide +kernel) rfl rfl (Nat.le_of_ble_eq_true rfl) dX3_move_49 (fun H locs hP hD hS => ?_)
            have hP : va_P D vwCl (wM cI m0 mS mC mT mR mA th (nI L) (nI C) (nI rl) (nI bg) (nI st) mk (zb on) (nI (tpv + 1)) (nI (tlv + 1)) (zb false) sg ch tr rc ta) H := hP
            have hD : va_D A (wM cI m0 mS mC mT mR mA th (nI L) (nI C) (nI rl) (nI bg) (nI st) mk (zb on) (nI (tpv + 1)) (nI (tlv + 1)) (zb false) sg ch tr rc ta) := hD
            refine lv_aload_n hx hb dX3_move_52 rfl (lv_at hl 0 rfl) ?_
            refine lv_iconst (v := 0) hx hb dX3_move_53 (by decide +kernel) ?_
            refine va_put (D := D) (ci := 4) (v := .int 0) (ty := .boolean) (C := RX3) (T := TX3) (N := 16) hx hb hts hinX3 tyX3 tyX3_ok nmX3 hown hK.1 hP hD hS 0 rfl rfl 15 (by decide) (hts (.fieldLink RX3 55 "PrinterRowsModel" "trialBegun" "Z") (by decide +kernel)) (fun _ h9 => h9) rfl (by decide +kernel) (by decide +kernel) (by decide +kernel) (Nat.le_of_ble_eq_true rfl) dX3_move_54 (fun H locs hP hD hS => ?_)
            have hP : va_P D vwCl (wM cI m0 mS mC mT mR mA th (nI L) (nI C) (nI rl) (nI bg) (nI st) mk (zb on) (nI (tpv + 1)) (nI (tlv + 1)) 0 sg ch tr rc ta) H := hP
            have hD : va_D A (wM cI m0 mS mC mT mR mA th (nI L) (nI C) (nI rl) (nI bg) (nI st) mk (zb on) (nI (tpv + 1)) (nI (tlv + 1)) 0 sg ch tr rc ta) := hD
            refine lv_aload_n hx hb dX3_move_57 rfl (lv_at hl 0 rfl) ?_
            refine lv_iconst (v := 0) hx hb dX3_move_58 (by decide +kernel) ?_
            refine va_put (D := D) (ci := 4) (v := .int 0) (ty := .int) (C := RX3) (T := TX3) (N := 16) hx hb hts hinX3 tyX3 tyX3_ok nmX3 hown hK.1 hP hD hS 0 rfl rfl 14 (by decide) (hts (.fieldLink RX3 48 "PrinterRowsModel" "trialLine" "I") (by decide +kernel)) (fun _ h9 => h9) rfl (by decide +kernel) rfl rfl (Nat.le_of_ble_eq_true rfl) dX3_move_59 (fun H locs hP hD hS => ?_)
            have hP : va_P D vwCl (wM cI m0 mS mC mT mR mA th (nI L) (nI C) (nI rl) (nI bg) (nI st) mk (zb on) (nI (tpv + 1)) 0 0 sg ch tr rc ta) H := hP
            have hD : va_D A (wM cI m0 mS mC mT mR mA th (nI L) (nI C) (nI rl) (nI bg) (nI st) mk (zb on) (nI (tpv + 1)) 0 0 sg ch tr rc ta) := hD
            refine lv_iinc (v := (nI (i + 1))) (lv' := [(2, .int (nI (i + 1))), (0, .ref m0), (1, .int (nI w))]) hx hb dX3_move_62 hl (k := 2) rfl (nI_1 i) (by decide) rfl (fun ls hl => ?_)
            refine lv_goto (tgt := 2) hx hb dX3_move_65 (by decide) ?_
            exact ih (i + 1) (tpv + 1) 0 false _ _ _ (by omega) (by omega) (by show _ = mv1 L (mvn L i (tp, tl, tb)); rw [← hmv, mv1, if_neg hs1]; rfl) hP hD hS (lv_sub hl [1, 2, 0] rfl)
          ·
            obtain rfl : tbv = true := zb1.mp c_40
            refine lv_iconst (v := 0) hx hb dX3_move_43 (by decide +kernel) ?_
            refine lv_goto (tgt := 48) hx hb dX3_move_44 (by decide) ?_
            refine lv_iadd hx hb dX3_move_48 ?_
            refine lv_topi (fun x_48 ex_48 => ?_)
            obtain rfl : x_48 = nI tpv := ex_48.trans (Int32.add_zero _)
            refine va_put (D := D) (ci := 4) (v := .int (nI tpv)) (ty := .int) (C := RX3) (T := TX3) (N := 16) hx hb hts hinX3 tyX3 tyX3_ok nmX3 hown hK.1 hP hD hS 0 rfl rfl 13 (by decide) (hts (.fieldLink RX3 42 "PrinterRowsModel" "trialPages" "I") (by decide +kernel)) (fun _ h9 => h9) rfl (by decide +kernel) rfl rfl (Nat.le_of_ble_eq_true rfl) dX3_move_49 (fun H locs hP hD hS => ?_)
            have hP : va_P D vwCl (wM cI m0 mS mC mT mR mA th (nI L) (nI C) (nI rl) (nI bg) (nI st) mk (zb on) (nI tpv) (nI (tlv + 1)) (zb true) sg ch tr rc ta) H := hP
            have hD : va_D A (wM cI m0 mS mC mT mR mA th (nI L) (nI C) (nI rl) (nI bg) (nI st) mk (zb on) (nI tpv) (nI (tlv + 1)) (zb true) sg ch tr rc ta) := hD
            refine lv_aload_n hx hb dX3_move_52 rfl (lv_at hl 0 rfl) ?_
            refine lv_iconst (v := 0) hx hb dX3_move_53 (by decide +kernel) ?_
            refine va_put (D := D) (ci := 4) (v := .int 0) (ty := .boolean) (C := RX3) (T := TX3) (N := 16) hx hb hts hinX3 tyX3 tyX3_ok nmX3 hown hK.1 hP hD hS 0 rfl rfl 15 (by decide) (hts (.fieldLink RX3 55 "PrinterRowsModel" "trialBegun" "Z") (by decide +kernel)) (fun _ h9 => h9) rfl (by decide +kernel) (by decide +kernel) (by decide +kernel) (Nat.le_of_ble_eq_true rfl) dX3_move_54 (fun H locs hP hD hS => ?_)
            have hP : va_P D vwCl (wM cI m0 mS mC mT mR mA th (nI L) (nI C) (nI rl) (nI bg) (nI st) mk (zb on) (nI tpv) (nI (tlv + 1)) 0 sg ch tr rc ta) H := hP
            have hD : va_D A (wM cI m0 mS mC mT mR mA th (nI L) (nI C) (nI rl) (nI bg) (nI st) mk (zb on) (nI tpv) (nI (tlv + 1)) 0 sg ch tr rc ta) := hD
            refine lv_aload_n hx hb dX3_move_57 rfl (lv_at hl 0 rfl) ?_
            refine lv_iconst (v := 0) hx hb dX3_move_58 (by decide +kernel) ?_
            refine va_put (D := D) (ci := 4) (v := .int 0) (ty := .int) (C := RX3) (T := TX3) (N := 16) hx hb hts hinX3 tyX3 tyX3_ok nmX3 hown hK.1 hP hD hS 0 rfl rfl 14 (by decide) (hts (.fieldLink RX3 48 "PrinterRowsModel" "trialLine" "I") (by decide +kernel)) (fun _ h9 => h9) rfl (by decide +kernel) rfl rfl (Nat.le_of_ble_eq_true rfl) dX3_move_59 (fun H locs hP hD hS => ?_)
            have hP : va_P D vwCl (wM cI m0 mS mC mT mR mA th (nI L) (nI C) (nI rl) (nI bg) (nI st) mk (zb on) (nI tpv) 0 0 sg ch tr rc ta) H := hP
            have hD : va_D A (wM cI m0 mS mC mT mR mA th (nI L) (nI C) (nI rl) (nI bg) (nI st) mk (zb on) (nI tpv) 0 0 sg ch tr rc ta) := hD
            refine lv_iinc (v := (nI (i + 1))) (lv' := [(2, .int (nI (i + 1))), (0, .ref m0), (1, .int (nI w))]) hx hb dX3_move_62 hl (k := 2) rfl (nI_1 i) (by decide) rfl (fun ls hl => ?_)
            refine lv_goto (tgt := 2) hx hb dX3_move_65 (by decide) ?_
            exact ih (i + 1) tpv 0 false _ _ _ (by omega) (by omega) (by show _ = mv1 L (mvn L i (tp, tl, tb)); rw [← hmv, mv1, if_neg hs1]; rfl) hP hD hS (lv_sub hl [1, 2, 0] rfl)
        ·
          have hs1 : tlv + 1 < L := Nat.lt_of_not_le (fun h9 => c_25 (nI_le h9 (by omega)))
          refine lv_goto (tgt := 62) hx hb dX3_move_28 (by decide) ?_
          refine lv_iinc (v := (nI (i + 1))) (lv' := [(2, .int (nI (i + 1))), (0, .ref m0), (1, .int (nI w))]) hx hb dX3_move_62 hl (k := 2) rfl (nI_1 i) (by decide) rfl (fun ls hl => ?_)
          refine lv_goto (tgt := 2) hx hb dX3_move_65 (by decide) ?_
          exact ih (i + 1) tpv (tlv + 1) tbv _ _ _ (by omega) (by omega) (by show _ = mv1 L (mvn L i (tp, tl, tb)); rw [← hmv, mv1, if_pos hs1]) hP hD hS (lv_sub hl [1, 2, 0] rfl)
  exact loop (w + 1) 0 tp tl tb _ _ _ (Nat.zero_le _) (by omega) (rfl) hP hD hS (lv_sub hl [1, 2, 0] rfl)

set_option maxHeartbeats 1000000 in
set_option maxRecDepth 100000 in
theorem c_X3_settle (l : Launch) {D : va_G} {cI cP cR cJ : ClassId} {m0 mS mC mT mR mA L C rl bg st tp tl : Nat} {on tb : Bool} {th mk : Int32} {sg ch tr rc ta : Nat → Int32} {sz : Nat} (hbt : bg ≤ tp) (htp : tp ≤ 40) : Met l yX3_settle wsX3_settle ({ frames := 0, cells := 0, slots := 0, locals := 0 }) (mu [.ref m0] D cI cP cR cJ (wM cI m0 mS mC mT mR mA th (nI L) (nI C) (nI rl) (nI bg) (nI st) mk (zb on) (nI tp) (nI tl) (zb tb) sg ch tr rc ta) sz) (qv D (fun (u : Nat → Int32) => u = stG bg tp sg) (fun u : Nat → Int32 => wM cI m0 mS mC mT mR mA th (nI L) (nI C) (nI rl) (nI tp) (nI tl) mk (zb tb) (nI tp) (nI tl) (zb tb) u ch tr rc ta) (va_A (wM cI m0 mS mC mT mR mA th (nI L) (nI C) (nI rl) (nI bg) (nI st) mk (zb on) (nI tp) (nI tl) (zb tb) sg ch tr rc ta) sz)) 0 0 (va_A (wM cI m0 mS mC mT mR mA th (nI L) (nI C) (nI rl) (nI bg) (nI st) mk (zb on) (nI tp) (nI tl) (zb tb) sg ch tr rc ta) sz) := by
  refine Met.ofW (cc := cX3_settle) (maxL := 2) (ret := none) (by decide) rfl ?_
  intro p e s m args below meth c s₁ B hml hv
  obtain ⟨rfl, hsz, hP, hK, hD0⟩ := hv
  have hx := B.exec
  have hb := B.bytes
  have hr := B.returns
  have hts := atoms_spec (ws := wsX3_settle) B.pre
  have hown : s.vm.findClass RX3 = some m.cls := findClass_of_methodNamed B.named
  have hlocks := B.notSynchronized
  have hinX3 : ∀ w ∈ wsX30, w ∈ wsX3_settle := by decide +kernel
  subst hsz
  have hD := hD0.self (sz := s.heap.size)
  generalize hAe : va_A (wM cI m0 mS mC mT mR mA th (nI L) (nI C) (nI rl) (nI bg) (nI st) mk (zb on) (nI tp) (nI tl) (zb tb) sg ch tr rc ta) s.heap.size = A at hD ⊢
  have hA : ∀ q : Nat, s.heap.size ≤ q → A q := fun q h => by rw [← hAe]; exact Or.inr h
  have hS : va_S A s.heap s.heap [] := va_S.rf
  have hP : va_P D vwCl (wM cI m0 mS mC mT mR mA th (nI L) (nI C) (nI rl) (nI bg) (nI st) mk (zb on) (nI tp) (nI tl) (zb tb) sg ch tr rc ta) s.heap := hP
  have hl := lv_entry ([.ref m0]) (n := 2) (Nat.le_of_ble_eq_true rfl)
  rw [lg_entry_eq]
  generalize (lg_sl ([.ref m0]) ++ List.replicate (2 - (lg_sl ([.ref m0])).length) Slot.unset).toArray = ls at hl ⊢
  have hl : lv_has ls 2 [(0, .ref m0)] := hl
  refine lv_sipush (v := 8712) hx hb dX3_settle_0 (by decide +kernel) ?_
  refine lv_aload_n hx hb dX3_settle_3 rfl (lv_at hl 0 rfl) ?_
  refine va_get (D := D) (ci := 4) (v := .int (nI bg)) (C := RX3) (T := TX3) (N := 16) hx hb hts hinX3 hown hK.1 hP 0 rfl rfl 9 (by decide) (hts (.fieldLink RX3 39 "PrinterRowsModel" "pages" "I") (by decide +kernel)) (fun _ h9 => h9) rfl dX3_settle_4 ?_
  refine lv_imul hx hb dX3_settle_7 ?_
  refine lv_topi (fun x_7 ex_7 => ?_)
  obtain rfl : x_7 = nI (8712 * bg) := ex_7.trans (pk_mul 8712 bg)
  refine lv_istore_n (lv' := [(1, .int (nI (8712 * bg))), (0, .ref m0)]) hx hb dX3_settle_8 rfl hl (by decide) rfl (fun ls hl => ?_)
  have loop : ∀ (n : Nat) (i : Nat) (H : Heap) (locs : List Loc) (ls : Array Slot), (8712 * bg ≤ i) → (i ≤ 8712 * tp) → (8712 * tp - i < n) → va_P D vwCl (wM cI m0 mS mC mT mR mA th (nI L) (nI C) (nI rl) (nI bg) (nI st) mk (zb on) (nI tp) (nI tl) (zb tb) (stH bg i sg) ch tr rc ta) H → va_D A (wM cI m0 mS mC mT mR mA th (nI L) (nI C) (nI rl) (nI bg) (nI st) mk (zb on) (nI tp) (nI tl) (zb tb) (stH bg i sg) ch tr rc ta) → va_S A s.heap H locs → lv_has ls 2 [(0, .ref m0), (1, .int (nI i))] → W p l e (headSpec wsX3_settle ({ frames := 0, cells := 0, slots := 0, locals := 0 })).room s m (([.ref m0] : List Value).toArray) below meth c H locs 0 0 (MQ below (qv D (fun (u : Nat → Int32) => u = stG bg tp sg) (fun u : Nat → Int32 => wM cI m0 mS mC mT mR mA th (nI L) (nI C) (nI rl) (nI tp) (nI tl) mk (zb tb) (nI tp) (nI tl) (zb tb) u ch tr rc ta) (A)) (([.ref m0] : List Value).toArray) s 0 0 A) (F0 m 9 ls []) := by
    intro n
    induction n with
    | zero => intro i H locs ls hi0 hi hn hP hD hS hl; exact absurd hn (Nat.not_lt_zero _)
    | succ n ih =>
      intro i H locs ls hi0 hi hn hP hD hS hl
      refine lv_iload_n hx hb dX3_settle_9 rfl (lv_at hl 1 rfl) ?_
      refine lv_sipush (v := 8712) hx hb dX3_settle_10 (by decide +kernel) ?_
      refine lv_aload_n hx hb dX3_settle_13 rfl (lv_at hl 0 rfl) ?_
      refine va_get (D := D) (ci := 4) (v := .int (nI tp)) (C := RX3) (T := TX3) (N := 16) hx hb hts hinX3 hown hK.1 hP 0 rfl rfl 13 (by decide) (hts (.fieldLink RX3 42 "PrinterRowsModel" "trialPages" "I") (by decide +kernel)) (fun _ h9 => h9) rfl dX3_settle_14 ?_
      refine lv_imul hx hb dX3_settle_17 ?_
      refine lv_topi (fun x_17 ex_17 => ?_)
      obtain rfl : x_17 = nI (8712 * tp) := ex_17.trans (pk_mul 8712 tp)
      refine lv_icmp_ge (tgt := 35) hx hb dX3_settle_18 (by decide) (fun c_18 => ?_) (fun c_18 => ?_)
      ·
        have hie : i = 8712 * tp := by have := (nI_leI (by omega) (by omega)).mp c_18; omega
        refine lv_aload_n hx hb dX3_settle_35 rfl (lv_at hl 0 rfl) ?_
        refine lv_aload_n hx hb dX3_settle_36 rfl (lv_at hl 0 rfl) ?_
        refine va_get (D := D) (ci := 4) (v := .int (nI tp)) (C := RX3) (T := TX3) (N := 16) hx hb hts hinX3 hown hK.1 hP 0 rfl rfl 13 (by decide) (hts (.fieldLink RX3 42 "PrinterRowsModel" "trialPages" "I") (by decide +kernel)) (fun _ h9 => h9) rfl dX3_settle_37 ?_
        refine va_put (D := D) (ci := 4) (v := .int (nI tp)) (ty := .int) (C := RX3) (T := TX3) (N := 16) hx hb hts hinX3 tyX3 tyX3_ok nmX3 hown hK.1 hP hD hS 0 rfl rfl 9 (by decide) (hts (.fieldLink RX3 39 "PrinterRowsModel" "pages" "I") (by decide +kernel)) (fun _ h9 => h9) rfl (by decide +kernel) rfl rfl (Nat.le_of_ble_eq_true rfl) dX3_settle_40 (fun H locs hP hD hS => ?_)
        have hP : va_P D vwCl (wM cI m0 mS mC mT mR mA th (nI L) (nI C) (nI rl) (nI tp) (nI st) mk (zb on) (nI tp) (nI tl) (zb tb) (stH bg i sg) ch tr rc ta) H := hP
        have hD : va_D A (wM cI m0 mS mC mT mR mA th (nI L) (nI C) (nI rl) (nI tp) (nI st) mk (zb on) (nI tp) (nI tl) (zb tb) (stH bg i sg) ch tr rc ta) := hD
        refine lv_aload_n hx hb dX3_settle_43 rfl (lv_at hl 0 rfl) ?_
        refine lv_aload_n hx hb dX3_settle_44 rfl (lv_at hl 0 rfl) ?_
        refine va_get (D := D) (ci := 4) (v := .int (nI tl)) (C := RX3) (T := TX3) (N := 16) hx hb hts hinX3 hown hK.1 hP 0 rfl rfl 14 (by decide) (hts (.fieldLink RX3 48 "PrinterRowsModel" "trialLine" "I") (by decide +kernel)) (fun _ h9 => h9) rfl dX3_settle_45 ?_
        refine va_put (D := D) (ci := 4) (v := .int (nI tl)) (ty := .int) (C := RX3) (T := TX3) (N := 16) hx hb hts hinX3 tyX3 tyX3_ok nmX3 hown hK.1 hP hD hS 0 rfl rfl 10 (by decide) (hts (.fieldLink RX3 45 "PrinterRowsModel" "at" "I") (by decide +kernel)) (fun _ h9 => h9) rfl (by decide +kernel) rfl rfl (Nat.le_of_ble_eq_true rfl) dX3_settle_48 (fun H locs hP hD hS => ?_)
        have hP : va_P D vwCl (wM cI m0 mS mC mT mR mA th (nI L) (nI C) (nI rl) (nI tp) (nI tl) mk (zb on) (nI tp) (nI tl) (zb tb) (stH bg i sg) ch tr rc ta) H := hP
        have hD : va_D A (wM cI m0 mS mC mT mR mA th (nI L) (nI C) (nI rl) (nI tp) (nI tl) mk (zb on) (nI tp) (nI tl) (zb tb) (stH bg i sg) ch tr rc ta) := hD
        refine lv_aload_n hx hb dX3_settle_51 rfl (lv_at hl 0 rfl) ?_
        refine lv_aload_n hx hb dX3_settle_52 rfl (lv_at hl 0 rfl) ?_
        refine va_get (D := D) (ci := 4) (v := .int (zb tb)) (C := RX3) (T := TX3) (N := 16) hx hb hts hinX3 hown hK.1 hP 0 rfl rfl 15 (by decide) (hts (.fieldLink RX3 55 "PrinterRowsModel" "trialBegun" "Z") (by decide +kernel)) (fun _ h9 => h9) rfl dX3_settle_53 ?_
        refine va_put (D := D) (ci := 4) (v := .int (zb tb)) (ty := .boolean) (C := RX3) (T := TX3) (N := 16) hx hb hts hinX3 tyX3 tyX3_ok nmX3 hown hK.1 hP hD hS 0 rfl rfl 12 (by decide) (hts (.fieldLink RX3 51 "PrinterRowsModel" "begun" "Z") (by decide +kernel)) (fun _ h9 => h9) rfl (by decide +kernel) (zb_nar _) (zb_fit _) (Nat.le_of_ble_eq_true rfl) dX3_settle_56 (fun H locs hP hD hS => ?_)
        have hP : va_P D vwCl (wM cI m0 mS mC mT mR mA th (nI L) (nI C) (nI rl) (nI tp) (nI tl) mk (zb tb) (nI tp) (nI tl) (zb tb) (stH bg i sg) ch tr rc ta) H := hP
        have hD : va_D A (wM cI m0 mS mC mT mR mA th (nI L) (nI C) (nI rl) (nI tp) (nI tl) mk (zb tb) (nI tp) (nI tl) (zb tb) (stH bg i sg) ch tr rc ta) := hD
        exact W.vret hx hb hr (fun t ht hW => ⟨⟨(stH bg i sg), rfl, by rw [hie]; rfl, by rw [ht]; exact hP, hD⟩, hS.F ht⟩) hS.2.2 dX3_settle_59
      ·
        have hlt : i < 8712 * tp := Nat.lt_of_not_le (fun h9 => c_18 (nI_le h9 (by omega)))
        refine lv_aload_n hx hb dX3_settle_21 rfl (lv_at hl 0 rfl) ?_
        refine va_get (D := D) (ci := 4) (v := .ref mS) (C := RX3) (T := TX3) (N := 16) hx hb hts hinX3 hown hK.1 hP 0 rfl rfl 3 (by decide) (hts (.fieldLink RX3 8 "PrinterRowsModel" "signs" "[I") (by decide +kernel)) (fun _ h9 => h9) rfl dX3_settle_22 ?_
        refine lv_iload_n hx hb dX3_settle_25 rfl (lv_at hl 1 rfl) ?_
        refine lv_bipush (v := 32) hx hb dX3_settle_26 (by decide +kernel) ?_
        refine va_iast hx hb hK.1 hP hD hS 1 0 rfl rfl (vp_in_nI (by omega) (by decide)) dX3_settle_28 (fun H locs hP hD hS => ?_)
        rw [show (upd (stH bg i sg) ((nI i)).toNatClampNeg 32) = (stH bg (i + 1) sg) from by rw [nI_clamp (by omega)]; exact stH_step hi0] at hP hD
        have hP : va_P D vwCl (wM cI m0 mS mC mT mR mA th (nI L) (nI C) (nI rl) (nI bg) (nI st) mk (zb on) (nI tp) (nI tl) (zb tb) (stH bg (i + 1) sg) ch tr rc ta) H := hP
        have hD : va_D A (wM cI m0 mS mC mT mR mA th (nI L) (nI C) (nI rl) (nI bg) (nI st) mk (zb on) (nI tp) (nI tl) (zb tb) (stH bg (i + 1) sg) ch tr rc ta) := hD
        refine lv_iinc (v := (nI (i + 1))) (lv' := [(1, .int (nI (i + 1))), (0, .ref m0)]) hx hb dX3_settle_29 hl (k := 1) rfl (nI_1 i) (by decide) rfl (fun ls hl => ?_)
        refine lv_goto (tgt := 9) hx hb dX3_settle_32 (by decide) ?_
        exact ih (i + 1) _ _ _ (by omega) (by omega) (by omega) hP hD hS (lv_sub hl [1, 0] rfl)
  rw [← stH_0 (b := bg) (sg := sg)] at hP hD
  exact loop (8712 * tp + 1) (8712 * bg) _ _ _ (Nat.le_refl _) (Nat.mul_le_mul_left _ hbt) (by omega) hP hD hS (lv_sub hl [1, 0] rfl)
end
section
/-! the reference's methods -/
def taP (ta : Nat → Int32) (x y : Int32) : Nat → Int32 := fun j => if j = 3 then x else if j = 4 then y else ta j
theorem taP_4 {ta : Nat → Int32} {x y z : Int32} : upd (taP ta x y) 4 z = taP ta x z := by
  funext j
  unfold upd taP
  by_cases e : j = 4
  · rw [if_pos e, if_neg (by omega), if_pos e]
  · rw [if_neg e, if_neg e]
    by_cases e3 : j = 3
    · rw [if_pos e3, if_pos e3]
    · rw [if_neg e3, if_neg e3, if_neg e]
theorem taP_3 {ta : Nat → Int32} {x y z : Int32} : upd (taP ta x y) 3 z = taP ta z y := by
  funext j
  unfold upd taP
  by_cases e : j = 3
  · rw [if_pos e, if_pos e]
  · rw [if_neg e, if_neg e, if_neg e]
theorem taP_0 {ta : Nat → Int32} : taP ta (ta 3 + 0) (ta 4 + 0) = ta := by
  funext j
  unfold taP
  rw [Int32.add_zero, Int32.add_zero]
  by_cases e : j = 3
  · rw [if_pos e, e]
  · rw [if_neg e]
    by_cases e4 : j = 4
    · rw [if_pos e4, e4]
    · rw [if_neg e4]
theorem cC_cut {C k : Nat} {z : Int32} (h : C ≤ k) : z + cC C k + 1 = z + cC C (k + 1) := by
  show _ = z + (cC C k + _)
  rw [if_pos h, Int32.add_assoc]
theorem cC_in {C k : Nat} (h : k < C) : cC C (k + 1) = cC C k := by
  show cC C k + _ = _
  rw [if_neg (by omega), Int32.add_zero]
theorem cS_cut {tr rc : Nat → Int32} {C k : Nat} (h : C ≤ k) : cS tr rc C (k + 1) = cS tr rc C k := by
  show cS tr rc C k + _ = _
  rw [if_pos h, Int32.add_zero]
theorem cS_no {tr rc : Nat → Int32} {C k : Nat} {z : Int32} (h : k < C) (hv : tr (rc k).toNatClampNeg = 32) : z + cS tr rc C k + 0 = z + cS tr rc C (k + 1) := by
  show _ = z + (cS tr rc C k + _)
  rw [if_neg (by omega), if_pos hv, Int32.add_zero, Int32.add_zero]
theorem cS_yes {tr rc : Nat → Int32} {C k : Nat} {z : Int32} (h : k < C) (hv : ¬ tr (rc k).toNatClampNeg = 32) : z + cS tr rc C k + 1 = z + cS tr rc C (k + 1) := by
  show _ = z + (cS tr rc C k + _)
  rw [if_neg (by omega), if_neg hv, Int32.add_assoc]
theorem and255 (c : Int32) : (c &&& 255).toInt = c.toInt % 256 := by
  have h1 := pk_and c (m := 255) 8 (by decide +kernel)
  rw [h1, nI_toInt (Nat.lt_of_lt_of_le (Nat.mod_lt _ (by decide)) (by decide))]
  have h2 : c.toInt = c.toBitVec.toInt := rfl
  rw [h2, BitVec.toInt_eq_toNat_cond]
  have h3 := c.toBitVec.isLt
  split <;> omega
theorem xor256 (c : Int32) : 0 ≤ c ^^^ 256 ↔ 0 ≤ c.toInt := by
  rw [i32_le]
  have h0 : (0 : Int32).toInt = 0 := rfl
  rw [h0]
  have h1 : (c ^^^ 256).toInt = (c.toBitVec ^^^ (256 : Int32).toBitVec).toInt := by rw [← Int32.toBitVec_xor]; rfl
  have h2 : c.toInt = c.toBitVec.toInt := rfl
  have h3 := BitVec.msb_eq_toInt (x := c.toBitVec ^^^ (256 : Int32).toBitVec)
  have h4 := BitVec.msb_eq_toInt (x := c.toBitVec)
  have h5 : (256 : Int32).toBitVec.msb = false := by decide +kernel
  rw [BitVec.msb_xor, h5, Bool.xor_false, h4] at h3
  rw [h1, h2]
  have h6 := decide_eq_decide.mp h3
  omega
theorem rem256 (c : Int32) (h : c.toInt < 0) : (c - c / 256 * 256).toInt = -((-c.toInt) % 256) := by
  have hc := i32 c
  have e256 : (256 : Int32).toInt = 256 := rfl
  have hd : (c / 256).toInt = -((-c.toInt) / 256) := by
    rw [Int32.toInt_div, e256]
    have h1 : c.toInt.tdiv 256 = -((-c.toInt) / 256) := by
      have h2 : c.toInt = -(-c.toInt) := by omega
      rw [h2, Int.neg_tdiv, Int.tdiv_eq_ediv_of_nonneg (by omega), Int.neg_neg]
    rw [h1]
    simp only [Int.bmod]
    omega
  have hm : (c / 256 * 256).toInt = -((-c.toInt) / 256) * 256 := by
    rw [Int32.toInt_mul, e256, hd]
    simp only [Int.bmod]
    omega
  have h9 := i32 (c - c / 256 * 256)
  rcases i32_sub c (c / 256 * 256) with e | e | e <;> rw [hm] at e <;> omega
theorem fMod_256 (c : Int32) : fMod c 256 = c &&& 255 := by
  apply i32_ext
  rw [and255]
  have hc := i32 c
  have e256 : (256 : Int32).toInt = 256 := rfl
  unfold fMod
  by_cases q : 0 ≤ c ^^^ 256
  · rw [if_pos q]
    have q2 := (xor256 c).mp q
    obtain ⟨a, ha, rfl⟩ := nI_of (x := c) (fun z => by have := i32_lt.mp z; have : (0 : Int32).toInt = 0 := rfl; omega)
    have h1 := pk_rem (a := a) (d := 256) ha (by decide) (by decide)
    rw [show (256 : Int32) = nI 256 from rfl, h1, nI_toInt (by omega), nI_toInt ha]
    omega
  · rw [if_neg q]
    have q2 : c.toInt < 0 := Int.lt_of_not_ge (fun z => q ((xor256 c).mpr z))
    have hr := rem256 c q2
    by_cases q3 : c - c / 256 * 256 = 0
    · rw [if_pos q3]
      have h0 : (0 : Int32).toInt = 0 := rfl
      rw [q3, h0] at hr
      rw [q3, h0]
      omega
    · rw [if_neg q3]
      have h3 : ¬ (c - c / 256 * 256).toInt = 0 := fun z => q3 (i32_ext z)
      have h9 := i32 (c - c / 256 * 256 + 256)
      rcases i32_add (c - c / 256 * 256) 256 with e | e | e <;> rw [hr, e256] at e <;> omega
theorem sgV_eq (c : Int32) : sgV c = if 32 ≤ c &&& 255 then c &&& 255 else 32 := by
  obtain ⟨j, hj, e⟩ := pk_andE c (m := 255) 8 (by decide +kernel)
  have hf := fMod_256 c
  unfold sgV mx
  rw [hf, e]
  by_cases q : 32 ≤ nI j
  · rw [if_pos q]
    by_cases q2 : (32 : Int32) < nI j
    · rw [if_pos q2]
    · rw [if_neg q2]
      exact i32_ext (by have h1 := i32_nlt q2; have h2 := i32_le.mp q; omega)
  · rw [if_neg q, if_neg (fun z => q (i32_le.mpr (by have := i32_lt.mp z; omega)))]

set_option maxHeartbeats 1000000 in
set_option maxRecDepth 100000 in
theorem c_X3_print (l : Launch) {D : va_G} {cI cP cR cJ : ClassId} {m0 mS mC mT mR mA L C rl bg st tp tl : Nat} {on tb : Bool} {th mk : Int32} {sg ch tr rc ta : Nat → Int32} {sz : Nat} (hC : C ≤ 132) (hrl : rl ≤ 200) (hrc : ∀ j, j < rl → isSg (rc j) = true) (q i : Nat) (hq : q < 40) (hi : i < 66) : Met l yX3_print wsX3_print ({ frames := 1, cells := 0, slots := 0, locals := 21 }) (mu [.ref m0, .int (nI q), .int (nI i)] D cI cP cR cJ (wM cI m0 mS mC mT mR mA th (nI L) (nI C) (nI rl) (nI bg) (nI st) mk (zb on) (nI tp) (nI tl) (zb tb) sg ch tr rc ta) sz) (qv D (fun (_ : Unit) => True) (fun _ : Unit => wM cI m0 mS mC mT mR mA th (nI L) (nI C) (nI 0) (nI bg) (nI st) mk (zb on) (nI tp) (nI tl) (zb tb) (prG (8712 * q + 132 * i) (min rl C) tr rc sg) ch tr rc (upd (taP ta (ta 3 + cS tr rc C rl) (ta 4 + cC C rl)) 2 (ta 2 + 1))) (va_A (wM cI m0 mS mC mT mR mA th (nI L) (nI C) (nI rl) (nI bg) (nI st) mk (zb on) (nI tp) (nI tl) (zb tb) sg ch tr rc ta) sz)) 0 0 (va_A (wM cI m0 mS mC mT mR mA th (nI L) (nI C) (nI rl) (nI bg) (nI st) mk (zb on) (nI tp) (nI tl) (zb tb) sg ch tr rc ta) sz) := by
  refine Met.ofW (cc := cX3_print) (maxL := 6) (ret := none) (by decide) rfl ?_
  intro p e s m args below meth c s₁ B hml hv
  obtain ⟨rfl, hsz, hP, hK, hD0⟩ := hv
  have hx := B.exec
  have hb := B.bytes
  have hr := B.returns
  have hts := atoms_spec (ws := wsX3_print) B.pre
  have hown : s.vm.findClass RX3 = some m.cls := findClass_of_methodNamed B.named
  have hlocks := B.notSynchronized
  have hinX3 : ∀ w ∈ wsX30, w ∈ wsX3_print := by decide +kernel
  subst hsz
  have hD := hD0.self (sz := s.heap.size)
  generalize hAe : va_A (wM cI m0 mS mC mT mR mA th (nI L) (nI C) (nI rl) (nI bg) (nI st) mk (zb on) (nI tp) (nI tl) (zb tb) sg ch tr rc ta) s.heap.size = A at hD ⊢
  have hA : ∀ q : Nat, s.heap.size ≤ q → A q := fun q h => by rw [← hAe]; exact Or.inr h
  have hS : va_S A s.heap s.heap [] := va_S.rf
  have hP : va_P D vwCl (wM cI m0 mS mC mT mR mA th (nI L) (nI C) (nI rl) (nI bg) (nI st) mk (zb on) (nI tp) (nI tl) (zb tb) sg ch tr rc ta) s.heap := hP
  have hl := lv_entry ([.ref m0, .int (nI q), .int (nI i)]) (n := 6) (Nat.le_of_ble_eq_true rfl)
  rw [lg_entry_eq]
  generalize (lg_sl ([.ref m0, .int (nI q), .int (nI i)]) ++ List.replicate (6 - (lg_sl ([.ref m0, .int (nI q), .int (nI i)])).length) Slot.unset).toArray = ls at hl ⊢
  have hl : lv_has ls 6 [(0, .ref m0), (1, .int (nI q)), (2, .int (nI i))] := hl
  refine lv_iconst (v := 0) hx hb dX3_print_0 (by decide +kernel) ?_
  refine lv_istore_n (lv' := [(3, .int 0), (0, .ref m0), (1, .int (nI q)), (2, .int (nI i))]) hx hb dX3_print_1 rfl hl (by decide) rfl (fun ls hl => ?_)
  have loop : ∀ (n : Nat) (k n1 : Nat) (H : Heap) (locs : List Loc) (ls : Array Slot), (k ≤ rl) → (rl - k < n) → (n1 = min k C) → va_P D vwCl (wM cI m0 mS mC mT mR mA th (nI L) (nI C) (nI rl) (nI bg) (nI st) mk (zb on) (nI tp) (nI tl) (zb tb) (prG (8712 * q + 132 * i) n1 tr rc sg) ch tr rc (taP ta (ta 3 + cS tr rc C k) (ta 4 + cC C k))) H → va_D A (wM cI m0 mS mC mT mR mA th (nI L) (nI C) (nI rl) (nI bg) (nI st) mk (zb on) (nI tp) (nI tl) (zb tb) (prG (8712 * q + 132 * i) n1 tr rc sg) ch tr rc (taP ta (ta 3 + cS tr rc C k) (ta 4 + cC C k))) → va_S A s.heap H locs → lv_has ls 6 [(0, .ref m0), (1, .int (nI q)), (2, .int (nI i)), (3, .int (nI k))] → W p l e (headSpec wsX3_print ({ frames := 1, cells := 0, slots := 0, locals := 21 })).room s m (([.ref m0, .int (nI q), .int (nI i)] : List Value).toArray) below meth c H locs 0 0 (MQ below (qv D (fun (_ : Unit) => True) (fun _ : Unit => wM cI m0 mS mC mT mR mA th (nI L) (nI C) (nI 0) (nI bg) (nI st) mk (zb on) (nI tp) (nI tl) (zb tb) (prG (8712 * q + 132 * i) (min rl C) tr rc sg) ch tr rc (upd (taP ta (ta 3 + cS tr rc C rl) (ta 4 + cC C rl)) 2 (ta 2 + 1))) (A)) (([.ref m0, .int (nI q), .int (nI i)] : List Value).toArray) s 0 0 A) (F0 m 2 ls []) := by
    intro n
    induction n with
    | zero => intro k n1 H locs ls hk hn hn1 hP hD hS hl; exact absurd hn (Nat.not_lt_zero _)
    | succ n ih =>
      intro k n1 H locs ls hk hn hn1 hP hD hS hl
      refine lv_iload_n hx hb dX3_print_2 rfl (lv_at hl 3 rfl) ?_
      refine lv_aload_n hx hb dX3_print_3 rfl (lv_at hl 0 rfl) ?_
      refine va_get (D := D) (ci := 4) (v := .int (nI rl)) (C := RX3) (T := TX3) (N := 16) hx hb hts hinX3 hown hK.1 hP 0 rfl rfl 8 (by decide) (hts (.fieldLink RX3 36 "PrinterRowsModel" "length" "I") (by decide +kernel)) (fun _ h9 => h9) rfl dX3_print_4 ?_
      refine lv_icmp_ge (tgt := 105) hx hb dX3_print_7 (by decide) (fun c_7 => ?_) (fun c_7 => ?_)
      ·
        have hie : k = rl := by have := (nI_leI (by omega) (by omega)).mp c_7; omega
        rw [hn1, hie] at hP hD
        have hP : va_P D vwCl (wM cI m0 mS mC mT mR mA th (nI L) (nI C) (nI rl) (nI bg) (nI st) mk (zb on) (nI tp) (nI tl) (zb tb) (prG (8712 * q + 132 * i) (min rl C) tr rc sg) ch tr rc (taP ta (ta 3 + cS tr rc C rl) (ta 4 + cC C rl))) H := hP
        have hD : va_D A (wM cI m0 mS mC mT mR mA th (nI L) (nI C) (nI rl) (nI bg) (nI st) mk (zb on) (nI tp) (nI tl) (zb tb) (prG (8712 * q + 132 * i) (min rl C) tr rc sg) ch tr rc (taP ta (ta 3 + cS tr rc C rl) (ta 4 + cC C rl))) := hD
        refine lv_aload_n hx hb dX3_print_105 rfl (lv_at hl 0 rfl) ?_
        refine lv_iconst (v := 0) hx hb dX3_print_106 (by decide +kernel) ?_
        refine va_put (D := D) (ci := 4) (v := .int 0) (ty := .int) (C := RX3) (T := TX3) (N := 16) hx hb hts hinX3 tyX3 tyX3_ok nmX3 hown hK.1 hP hD hS 0 rfl rfl 8 (by decide) (hts (.fieldLink RX3 36 "PrinterRowsModel" "length" "I") (by decide +kernel)) (fun _ h9 => h9) rfl (by decide +kernel) rfl rfl (Nat.le_of_ble_eq_true rfl) dX3_print_107 (fun H locs hP hD hS => ?_)
        have hP : va_P D vwCl (wM cI m0 mS mC mT mR mA th (nI L) (nI C) 0 (nI bg) (nI st) mk (zb on) (nI tp) (nI tl) (zb tb) (prG (8712 * q + 132 * i) (min rl C) tr rc sg) ch tr rc (taP ta (ta 3 + cS tr rc C rl) (ta 4 + cC C rl))) H := hP
        have hD : va_D A (wM cI m0 mS mC mT mR mA th (nI L) (nI C) 0 (nI bg) (nI st) mk (zb on) (nI tp) (nI tl) (zb tb) (prG (8712 * q + 132 * i) (min rl C) tr rc sg) ch tr rc (taP ta (ta 3 + cS tr rc C rl) (ta 4 + cC C rl))) := hD
        refine lv_aload_n hx hb dX3_print_110 rfl (lv_at hl 0 rfl) ?_
        refine va_get (D := D) (ci := 4) (v := .ref mA) (C := RX3) (T := TX3) (N := 16) hx hb hts hinX3 hown hK.1 hP 0 rfl rfl 7 (by decide) (hts (.fieldLink RX3 23 "PrinterRowsModel" "tallies" "[I") (by decide +kernel)) (fun _ h9 => h9) rfl dX3_print_111 ?_
        refine lv_iconst (v := 2) hx hb dX3_print_114 (by decide +kernel) ?_
        refine lv_dup2_11 hx hb dX3_print_115 rfl rfl ?_
        refine va_iald hx hb hK.1 hP 5 0 rfl rfl (vp_in_iff.mpr (by decide +kernel)) dX3_print_116 ?_
        refine lv_topi (fun x_116 ex_116 => ?_)
        obtain rfl : x_116 = (ta 2) := ex_116
        refine lv_iconst (v := 1) hx hb dX3_print_117 (by decide +kernel) ?_
        refine lv_iadd hx hb dX3_print_118 ?_
        refine va_iast hx hb hK.1 hP hD hS 5 0 rfl rfl (vp_in_iff.mpr (by decide +kernel)) dX3_print_119 (fun H locs hP hD hS => ?_)
        rw [show (upd (taP ta (ta 3 + cS tr rc C rl) (ta 4 + cC C rl)) (2 : Int32).toNatClampNeg ((ta 2) + 1)) = (upd (taP ta (ta 3 + cS tr rc C rl) (ta 4 + cC C rl)) 2 (ta 2 + 1)) from rfl] at hP hD
        have hP : va_P D vwCl (wM cI m0 mS mC mT mR mA th (nI L) (nI C) 0 (nI bg) (nI st) mk (zb on) (nI tp) (nI tl) (zb tb) (prG (8712 * q + 132 * i) (min rl C) tr rc sg) ch tr rc (upd (taP ta (ta 3 + cS tr rc C rl) (ta 4 + cC C rl)) 2 (ta 2 + 1))) H := hP
        have hD : va_D A (wM cI m0 mS mC mT mR mA th (nI L) (nI C) 0 (nI bg) (nI st) mk (zb on) (nI tp) (nI tl) (zb tb) (prG (8712 * q + 132 * i) (min rl C) tr rc sg) ch tr rc (upd (taP ta (ta 3 + cS tr rc C rl) (ta 4 + cC C rl)) 2 (ta 2 + 1))) := hD
        exact W.vret hx hb hr (fun t ht hW => ⟨⟨(), rfl, trivial, by rw [ht]; exact hP, hD⟩, hS.F ht⟩) hS.2.2 dX3_print_120
      ·
        have hlt : k < rl := Nat.lt_of_not_le (fun h9 => c_7 (nI_le h9 (by omega)))
        refine lv_aload_n hx hb dX3_print_10 rfl (lv_at hl 0 rfl) ?_
        refine va_get (D := D) (ci := 4) (v := .ref mT) (C := RX3) (T := TX3) (N := 16) hx hb hts hinX3 hown hK.1 hP 0 rfl rfl 5 (by decide) (hts (.fieldLink RX3 17 "PrinterRowsModel" "table" "[I") (by decide +kernel)) (fun _ h9 => h9) rfl dX3_print_11 ?_
        refine lv_aload_n hx hb dX3_print_14 rfl (lv_at hl 0 rfl) ?_
        refine va_get (D := D) (ci := 4) (v := .ref mR) (C := RX3) (T := TX3) (N := 16) hx hb hts hinX3 hown hK.1 hP 0 rfl rfl 6 (by decide) (hts (.fieldLink RX3 20 "PrinterRowsModel" "record" "[I") (by decide +kernel)) (fun _ h9 => h9) rfl dX3_print_15 ?_
        refine lv_iload_n hx hb dX3_print_18 rfl (lv_at hl 3 rfl) ?_
        refine va_iald hx hb hK.1 hP 4 0 rfl rfl (vp_in_nI (by omega) (by decide)) dX3_print_19 ?_
        refine lv_topi (fun x_19 ex_19 => ?_)
        obtain rfl : x_19 = rc k := ex_19.trans (by rw [nI_clamp (by omega)])
        refine va_iald hx hb hK.1 hP 3 0 rfl rfl (isSg_in (zb1.mpr (hrc k hlt))) dX3_print_20 ?_
        refine lv_istore (lv' := [(4, .int (tr ((rc k)).toNatClampNeg)), (0, .ref m0), (1, .int (nI q)), (2, .int (nI i)), (3, .int (nI k))]) hx hb dX3_print_21 hl (by decide) rfl (fun ls hl => ?_)
        refine lv_iload_n hx hb dX3_print_23 rfl (lv_at hl 4 rfl) ?_
        refine lv_aload_n hx hb dX3_print_24 rfl (lv_at hl 1 rfl) ?_
        refine va_get (D := D) (ci := 4) (v := .int (nI C)) (C := RX3) (T := TX3) (N := 16) hx hb hts hinX3 hown hK.1 hP 0 rfl rfl 2 (by decide) (hts (.fieldLink RX3 30 "PrinterRowsModel" "columns" "I") (by decide +kernel)) (fun _ h9 => h9) rfl dX3_print_25 ?_
        refine lv_icmp_lt (tgt := 44) hx hb dX3_print_28 (by decide) (fun c_28 => ?_) (fun c_28 => ?_)
        ·
          have hkC : k < C := (nI_ltI (by omega) (by omega)).mp c_28
          obtain rfl : k = n1 := by omega
          refine lv_sipush (v := 8712) hx hb dX3_print_44 (by decide +kernel) ?_
          refine lv_iload_n hx hb dX3_print_47 rfl (lv_at hl 2 rfl) ?_
          refine lv_imul hx hb dX3_print_48 ?_
          refine lv_topi (fun x_48 ex_48 => ?_)
          obtain rfl : x_48 = nI (8712 * q) := ex_48.trans (pk_mul 8712 q)
          refine lv_sipush (v := 132) hx hb dX3_print_49 (by decide +kernel) ?_
          refine lv_iload_n hx hb dX3_print_52 rfl (lv_at hl 3 rfl) ?_
          refine lv_imul hx hb dX3_print_53 ?_
          refine lv_topi (fun x_53 ex_53 => ?_)
          obtain rfl : x_53 = nI (132 * i) := ex_53.trans (pk_mul 132 i)
          refine lv_iadd hx hb dX3_print_54 ?_
          refine lv_topi (fun x_54 ex_54 => ?_)
          obtain rfl : x_54 = nI (8712 * q + 132 * i) := ex_54.trans (nI_add _ _)
          refine lv_iload_n hx hb dX3_print_55 rfl (lv_at hl 4 rfl) ?_
          refine lv_iadd hx hb dX3_print_56 ?_
          refine lv_topi (fun x_56 ex_56 => ?_)
          obtain rfl : x_56 = nI (8712 * q + 132 * i + k) := ex_56.trans (nI_add _ _)
          refine lv_istore (lv' := [(5, .int (nI (8712 * q + 132 * i + k))), (4, .int (tr ((rc k)).toNatClampNeg)), (0, .ref m0), (1, .int (nI q)), (2, .int (nI i)), (3, .int (nI k))]) hx hb dX3_print_57 hl (by decide) rfl (fun ls hl => ?_)
          refine lv_aload_n hx hb dX3_print_59 rfl (lv_at hl 2 rfl) ?_
          refine va_get (D := D) (ci := 4) (v := .ref mS) (C := RX3) (T := TX3) (N := 16) hx hb hts hinX3 hown hK.1 hP 0 rfl rfl 3 (by decide) (hts (.fieldLink RX3 8 "PrinterRowsModel" "signs" "[I") (by decide +kernel)) (fun _ h9 => h9) rfl dX3_print_60 ?_
          refine lv_iload hx hb dX3_print_63 (lv_at hl 0 rfl) ?_
          refine lv_aload_n hx hb dX3_print_65 rfl (lv_at hl 2 rfl) ?_
          refine va_get (D := D) (ci := 4) (v := .ref mS) (C := RX3) (T := TX3) (N := 16) hx hb hts hinX3 hown hK.1 hP 0 rfl rfl 3 (by decide) (hts (.fieldLink RX3 8 "PrinterRowsModel" "signs" "[I") (by decide +kernel)) (fun _ h9 => h9) rfl dX3_print_66 ?_
          refine lv_iload hx hb dX3_print_69 (lv_at hl 0 rfl) ?_
          refine va_iald hx hb hK.1 hP 1 0 rfl rfl (vp_in_nI (by omega) (by decide)) dX3_print_71 ?_
          refine lv_topi (fun x_71 ex_71 => ?_)
          obtain rfl : x_71 = (prG (8712 * q + 132 * i) k tr rc sg (8712 * q + 132 * i + k)) := ex_71.trans (by rw [nI_clamp (by omega)])
          refine lv_iload hx hb dX3_print_72 (lv_at hl 1 rfl) ?_
          refine vp_callSi (W.runS (As := [.int (prG (8712 * q + 132 * i) k tr rc sg (8712 * q + 132 * i + k)), .int (tr ((rc k)).toNatClampNeg)]) (rest := [.int (nI (8712 * q + 132 * i + k)), .ref mS]) ⟨hx, hb, hml, hown, hts⟩ (c_X3_darker l ((prG (8712 * q + 132 * i) k tr rc sg (8712 * q + 132 * i + k))) ((tr ((rc k)).toNatClampNeg))) (va_cwS 2 hts gX3_print_X3_darker rfl rfl rfl (by decide +kernel) ⟨(Nat.le_of_ble_eq_true rfl), (Nat.le_of_ble_eq_true rfl)⟩) pu_pre rfl rfl hl.1 rfl (lv_room (Nat.le_of_ble_eq_true rfl)) dX3_print_74 ⟨(Nat.le_of_ble_eq_true rfl), (Nat.le_of_ble_eq_true rfl)⟩) (fun r_74 w_74 => ?_)
          subst w_74
          refine va_iast hx hb hK.1 hP hD hS 1 0 rfl rfl (vp_in_nI (by omega) (by decide)) dX3_print_77 (fun H locs hP hD hS => ?_)
          rw [show (upd (prG (8712 * q + 132 * i) k tr rc sg) ((nI (8712 * q + 132 * i + k))).toNatClampNeg (mx (prG (8712 * q + 132 * i) k tr rc sg (8712 * q + 132 * i + k)) (tr (rc k).toNatClampNeg))) = (prG (8712 * q + 132 * i) (k + 1) tr rc sg) from by rw [nI_clamp (by omega)]; exact prG_step] at hP hD
          have hP : va_P D vwCl (wM cI m0 mS mC mT mR mA th (nI L) (nI C) (nI rl) (nI bg) (nI st) mk (zb on) (nI tp) (nI tl) (zb tb) (prG (8712 * q + 132 * i) (k + 1) tr rc sg) ch tr rc (taP ta (ta 3 + cS tr rc C k) (ta 4 + cC C k))) H := hP
          have hD : va_D A (wM cI m0 mS mC mT mR mA th (nI L) (nI C) (nI rl) (nI bg) (nI st) mk (zb on) (nI tp) (nI tl) (zb tb) (prG (8712 * q + 132 * i) (k + 1) tr rc sg) ch tr rc (taP ta (ta 3 + cS tr rc C k) (ta 4 + cC C k))) := hD
          refine lv_aload_n hx hb dX3_print_78 rfl (lv_at hl 2 rfl) ?_
          refine va_get (D := D) (ci := 4) (v := .ref mA) (C := RX3) (T := TX3) (N := 16) hx hb hts hinX3 hown hK.1 hP 0 rfl rfl 7 (by decide) (hts (.fieldLink RX3 23 "PrinterRowsModel" "tallies" "[I") (by decide +kernel)) (fun _ h9 => h9) rfl dX3_print_79 ?_
          refine lv_iconst (v := 3) hx hb dX3_print_82 (by decide +kernel) ?_
          refine lv_dup2_11 hx hb dX3_print_83 rfl rfl ?_
          refine va_iald hx hb hK.1 hP 5 0 rfl rfl (vp_in_iff.mpr (by decide +kernel)) dX3_print_84 ?_
          refine lv_topi (fun x_84 ex_84 => ?_)
          obtain rfl : x_84 = (ta 3 + cS tr rc C k) := ex_84
          refine lv_iload hx hb dX3_print_85 (lv_at hl 1 rfl) ?_
          refine lv_bipush (v := 32) hx hb dX3_print_87 (by decide +kernel) ?_
          refine lv_icmp_ne (tgt := 96) hx hb dX3_print_89 (by decide) (fun c_89 => ?_) (fun c_89 => ?_)
          ·
            refine lv_iconst (v := 1) hx hb dX3_print_96 (by decide +kernel) ?_
            refine lv_iadd hx hb dX3_print_97 ?_
            refine va_iast hx hb hK.1 hP hD hS 5 0 rfl rfl (vp_in_iff.mpr (by decide +kernel)) dX3_print_98 (fun H locs hP hD hS => ?_)
            rw [show (upd (taP ta (ta 3 + cS tr rc C k) (ta 4 + cC C k)) (3 : Int32).toNatClampNeg ((ta 3 + cS tr rc C k) + 1)) = (taP ta (ta 3 + cS tr rc C (k + 1)) (ta 4 + cC C k)) from by rw [show (3 : Int32).toNatClampNeg = 3 from rfl, taP_3, cS_yes hkC c_89]] at hP hD
            have hP : va_P D vwCl (wM cI m0 mS mC mT mR mA th (nI L) (nI C) (nI rl) (nI bg) (nI st) mk (zb on) (nI tp) (nI tl) (zb tb) (prG (8712 * q + 132 * i) (k + 1) tr rc sg) ch tr rc (taP ta (ta 3 + cS tr rc C (k + 1)) (ta 4 + cC C k))) H := hP
            have hD : va_D A (wM cI m0 mS mC mT mR mA th (nI L) (nI C) (nI rl) (nI bg) (nI st) mk (zb on) (nI tp) (nI tl) (zb tb) (prG (8712 * q + 132 * i) (k + 1) tr rc sg) ch tr rc (taP ta (ta 3 + cS tr rc C (k + 1)) (ta 4 + cC C k))) := hD
            rw [← cC_in hkC] at hP hD
            have hP : va_P D vwCl (wM cI m0 mS mC mT mR mA th (nI L) (nI C) (nI rl) (nI bg) (nI st) mk (zb on) (nI tp) (nI tl) (zb tb) (prG (8712 * q + 132 * i) (k + 1) tr rc sg) ch tr rc (taP ta (ta 3 + cS tr rc C (k + 1)) (ta 4 + cC C (k + 1)))) H := hP
            have hD : va_D A (wM cI m0 mS mC mT mR mA th (nI L) (nI C) (nI rl) (nI bg) (nI st) mk (zb on) (nI tp) (nI tl) (zb tb) (prG (8712 * q + 132 * i) (k + 1) tr rc sg) ch tr rc (taP ta (ta 3 + cS tr rc C (k + 1)) (ta 4 + cC C (k + 1)))) := hD
            refine lv_iinc (v := (nI (k + 1))) (lv' := [(3, .int (nI (k + 1))), (5, .int (nI (8712 * q + 132 * i + k))), (4, .int (tr ((rc k)).toNatClampNeg)), (0, .ref m0), (1, .int (nI q)), (2, .int (nI i))]) hx hb dX3_print_99 hl (k := 5) rfl (nI_1 k) (by decide) rfl (fun ls hl => ?_)
            refine lv_goto (tgt := 2) hx hb dX3_print_102 (by decide) ?_
            exact ih (k + 1) (k + 1) _ _ _ (by omega) (by omega) (by omega) hP hD hS (lv_sub hl [3, 4, 5, 0] rfl)
          ·
            refine lv_iconst (v := 0) hx hb dX3_print_92 (by decide +kernel) ?_
            refine lv_goto (tgt := 97) hx hb dX3_print_93 (by decide) ?_
            refine lv_iadd hx hb dX3_print_97 ?_
            refine va_iast hx hb hK.1 hP hD hS 5 0 rfl rfl (vp_in_iff.mpr (by decide +kernel)) dX3_print_98 (fun H locs hP hD hS => ?_)
            rw [show (upd (taP ta (ta 3 + cS tr rc C k) (ta 4 + cC C k)) (3 : Int32).toNatClampNeg ((ta 3 + cS tr rc C k) + 0)) = (taP ta (ta 3 + cS tr rc C (k + 1)) (ta 4 + cC C k)) from by rw [show (3 : Int32).toNatClampNeg = 3 from rfl, taP_3, cS_no hkC c_89]] at hP hD
            have hP : va_P D vwCl (wM cI m0 mS mC mT mR mA th (nI L) (nI C) (nI rl) (nI bg) (nI st) mk (zb on) (nI tp) (nI tl) (zb tb) (prG (8712 * q + 132 * i) (k + 1) tr rc sg) ch tr rc (taP ta (ta 3 + cS tr rc C (k + 1)) (ta 4 + cC C k))) H := hP
            have hD : va_D A (wM cI m0 mS mC mT mR mA th (nI L) (nI C) (nI rl) (nI bg) (nI st) mk (zb on) (nI tp) (nI tl) (zb tb) (prG (8712 * q + 132 * i) (k + 1) tr rc sg) ch tr rc (taP ta (ta 3 + cS tr rc C (k + 1)) (ta 4 + cC C k))) := hD
            rw [← cC_in hkC] at hP hD
            have hP : va_P D vwCl (wM cI m0 mS mC mT mR mA th (nI L) (nI C) (nI rl) (nI bg) (nI st) mk (zb on) (nI tp) (nI tl) (zb tb) (prG (8712 * q + 132 * i) (k + 1) tr rc sg) ch tr rc (taP ta (ta 3 + cS tr rc C (k + 1)) (ta 4 + cC C (k + 1)))) H := hP
            have hD : va_D A (wM cI m0 mS mC mT mR mA th (nI L) (nI C) (nI rl) (nI bg) (nI st) mk (zb on) (nI tp) (nI tl) (zb tb) (prG (8712 * q + 132 * i) (k + 1) tr rc sg) ch tr rc (taP ta (ta 3 + cS tr rc C (k + 1)) (ta 4 + cC C (k + 1)))) := hD
            refine lv_iinc (v := (nI (k + 1))) (lv' := [(3, .int (nI (k + 1))), (5, .int (nI (8712 * q + 132 * i + k))), (4, .int (tr ((rc k)).toNatClampNeg)), (0, .ref m0), (1, .int (nI q)), (2, .int (nI i))]) hx hb dX3_print_99 hl (k := 5) rfl (nI_1 k) (by decide) rfl (fun ls hl => ?_)
            refine lv_goto (tgt := 2) hx hb dX3_print_102 (by decide) ?_
            exact ih (k + 1) (k + 1) _ _ _ (by omega) (by omega) (by omega) hP hD hS (lv_sub hl [3, 4, 5, 0] rfl)
        ·
          have hCk : C ≤ k := Nat.le_of_not_lt (fun h9 => c_28 (nI_lt h9 (by omega)))
          refine lv_aload_n hx hb dX3_print_31 rfl (lv_at hl 1 rfl) ?_
          refine va_get (D := D) (ci := 4) (v := .ref mA) (C := RX3) (T := TX3) (N := 16) hx hb hts hinX3 hown hK.1 hP 0 rfl rfl 7 (by decide) (hts (.fieldLink RX3 23 "PrinterRowsModel" "tallies" "[I") (by decide +kernel)) (fun _ h9 => h9) rfl dX3_print_32 ?_
          refine lv_iconst (v := 4) hx hb dX3_print_35 (by decide +kernel) ?_
          refine lv_dup2_11 hx hb dX3_print_36 rfl rfl ?_
          refine va_iald hx hb hK.1 hP 5 0 rfl rfl (vp_in_iff.mpr (by decide +kernel)) dX3_print_37 ?_
          refine lv_topi (fun x_37 ex_37 => ?_)
          obtain rfl : x_37 = (ta 4 + cC C k) := ex_37
          refine lv_iconst (v := 1) hx hb dX3_print_38 (by decide +kernel) ?_
          refine lv_iadd hx hb dX3_print_39 ?_
          refine va_iast hx hb hK.1 hP hD hS 5 0 rfl rfl (vp_in_iff.mpr (by decide +kernel)) dX3_print_40 (fun H locs hP hD hS => ?_)
          rw [show (upd (taP ta (ta 3 + cS tr rc C k) (ta 4 + cC C k)) (4 : Int32).toNatClampNeg ((ta 4 + cC C k) + 1)) = (taP ta (ta 3 + cS tr rc C k) (ta 4 + cC C (k + 1))) from by rw [show (4 : Int32).toNatClampNeg = 4 from rfl, taP_4, cC_cut hCk]] at hP hD
          have hP : va_P D vwCl (wM cI m0 mS mC mT mR mA th (nI L) (nI C) (nI rl) (nI bg) (nI st) mk (zb on) (nI tp) (nI tl) (zb tb) (prG (8712 * q + 132 * i) n1 tr rc sg) ch tr rc (taP ta (ta 3 + cS tr rc C k) (ta 4 + cC C (k + 1)))) H := hP
          have hD : va_D A (wM cI m0 mS mC mT mR mA th (nI L) (nI C) (nI rl) (nI bg) (nI st) mk (zb on) (nI tp) (nI tl) (zb tb) (prG (8712 * q + 132 * i) n1 tr rc sg) ch tr rc (taP ta (ta 3 + cS tr rc C k) (ta 4 + cC C (k + 1)))) := hD
          rw [← cS_cut (tr := tr) (rc := rc) hCk] at hP hD
          have hP : va_P D vwCl (wM cI m0 mS mC mT mR mA th (nI L) (nI C) (nI rl) (nI bg) (nI st) mk (zb on) (nI tp) (nI tl) (zb tb) (prG (8712 * q + 132 * i) n1 tr rc sg) ch tr rc (taP ta (ta 3 + cS tr rc C (k + 1)) (ta 4 + cC C (k + 1)))) H := hP
          have hD : va_D A (wM cI m0 mS mC mT mR mA th (nI L) (nI C) (nI rl) (nI bg) (nI st) mk (zb on) (nI tp) (nI tl) (zb tb) (prG (8712 * q + 132 * i) n1 tr rc sg) ch tr rc (taP ta (ta 3 + cS tr rc C (k + 1)) (ta 4 + cC C (k + 1)))) := hD
          refine lv_goto (tgt := 99) hx hb dX3_print_41 (by decide) ?_
          refine lv_iinc (v := (nI (k + 1))) (lv' := [(3, .int (nI (k + 1))), (4, .int (tr ((rc k)).toNatClampNeg)), (0, .ref m0), (1, .int (nI q)), (2, .int (nI i))]) hx hb dX3_print_99 hl (k := 4) rfl (nI_1 k) (by decide) rfl (fun ls hl => ?_)
          refine lv_goto (tgt := 2) hx hb dX3_print_102 (by decide) ?_
          exact ih (k + 1) n1 _ _ _ (by omega) (by omega) (by omega) hP hD hS (lv_sub hl [2, 3, 4, 0] rfl)
  rw [← prG_0 (base := 8712 * q + 132 * i) (tr := tr) (rc := rc) (sg := sg), ← taP_0 (ta := ta)] at hP hD
  exact loop (rl + 1) 0 0 _ _ _ (Nat.zero_le _) (by omega) ((Nat.zero_min _).symm) hP hD hS (lv_sub hl [1, 2, 3, 0] rfl)

set_option maxHeartbeats 1000000 in
set_option maxRecDepth 100000 in
theorem c_X3_channel (l : Launch) {D : va_G} {cI cP cR cJ : ClassId} {m0 mS mC mT mR mA L C rl bg st tp tl : Nat} {on tb : Bool} {th mk : Int32} {sg ch tr rc ta : Nat → Int32} {sz : Nat} (c0 l0 : Int32) : Met l yX3_channel wsX3_channel ({ frames := 0, cells := 0, slots := 0, locals := 0 }) (mu [.ref m0, .int c0, .int l0] D cI cP cR cJ (wM cI m0 mS mC mT mR mA th (nI L) (nI C) (nI rl) (nI bg) (nI st) mk (zb on) (nI tp) (nI tl) (zb tb) sg ch tr rc ta) sz) (qi D (fun (r : Int32) (u : Nat → Int32) => r = chR L ch c0 l0 ∧ u = chN L ch c0 l0) (fun u : Nat → Int32 => wM cI m0 mS mC mT mR mA 0 (nI L) (nI C) (nI rl) (nI bg) (nI st) mk (zb on) (nI tp) (nI tl) (zb tb) sg u tr rc ta) (va_A (wM cI m0 mS mC mT mR mA th (nI L) (nI C) (nI rl) (nI bg) (nI st) mk (zb on) (nI tp) (nI tl) (zb tb) sg ch tr rc ta) sz)) 0 0 (va_A (wM cI m0 mS mC mT mR mA th (nI L) (nI C) (nI rl) (nI bg) (nI st) mk (zb on) (nI tp) (nI tl) (zb tb) sg ch tr rc ta) sz) := by
  refine Met.ofW (cc := cX3_channel) (maxL := 4) (ret := (some .int)) (by decide) rfl ?_
  intro p e s m args below meth c s₁ B hml hv
  obtain ⟨rfl, hsz, hP, hK, hD0⟩ := hv
  have hx := B.exec
  have hb := B.bytes
  have hr := B.returns
  have hts := atoms_spec (ws := wsX3_channel) B.pre
  have hown : s.vm.findClass RX3 = some m.cls := findClass_of_methodNamed B.named
  have hlocks := B.notSynchronized
  have hinX3 : ∀ w ∈ wsX30, w ∈ wsX3_channel := by decide +kernel
  subst hsz
  have hD := hD0.self (sz := s.heap.size)
  generalize hAe : va_A (wM cI m0 mS mC mT mR mA th (nI L) (nI C) (nI rl) (nI bg) (nI st) mk (zb on) (nI tp) (nI tl) (zb tb) sg ch tr rc ta) s.heap.size = A at hD ⊢
  have hA : ∀ q : Nat, s.heap.size ≤ q → A q := fun q h => by rw [← hAe]; exact Or.inr h
  have hS : va_S A s.heap s.heap [] := va_S.rf
  have hP : va_P D vwCl (wM cI m0 mS mC mT mR mA th (nI L) (nI C) (nI rl) (nI bg) (nI st) mk (zb on) (nI tp) (nI tl) (zb tb) sg ch tr rc ta) s.heap := hP
  have hl := lv_entry ([.ref m0, .int c0, .int l0]) (n := 4) (Nat.le_of_ble_eq_true rfl)
  rw [lg_entry_eq]
  generalize (lg_sl ([.ref m0, .int c0, .int l0]) ++ List.replicate (4 - (lg_sl ([.ref m0, .int c0, .int l0])).length) Slot.unset).toArray = ls at hl ⊢
  have hl : lv_has ls 4 [(0, .ref m0), (1, .int c0), (2, .int l0)] := hl
  refine lv_aload_n hx hb dX3_channel_0 rfl (lv_at hl 0 rfl) ?_
  refine lv_iconst (v := 0) hx hb dX3_channel_1 (by decide +kernel) ?_
  refine va_put (D := D) (ci := 4) (v := .int 0) (ty := .int) (C := RX3) (T := TX3) (N := 16) hx hb hts hinX3 tyX3 tyX3_ok nmX3 hown hK.1 hP hD hS 0 rfl rfl 0 (by decide) (hts (.fieldLink RX3 33 "PrinterRowsModel" "thrown" "I") (by decide +kernel)) (fun _ h9 => h9) rfl (by decide +kernel) rfl rfl (Nat.le_of_ble_eq_true rfl) dX3_channel_2 (fun H locs hP hD hS => ?_)
  have hP : va_P D vwCl (wM cI m0 mS mC mT mR mA 0 (nI L) (nI C) (nI rl) (nI bg) (nI st) mk (zb on) (nI tp) (nI tl) (zb tb) sg ch tr rc ta) H := hP
  have hD : va_D A (wM cI m0 mS mC mT mR mA 0 (nI L) (nI C) (nI rl) (nI bg) (nI st) mk (zb on) (nI tp) (nI tl) (zb tb) sg ch tr rc ta) := hD
  refine lv_iload_n hx hb dX3_channel_5 rfl (lv_at hl 1 rfl) ?_
  refine lv_iconst (v := 1) hx hb dX3_channel_6 (by decide +kernel) ?_
  refine lv_icmp_lt (tgt := 29) hx hb dX3_channel_7 (by decide) (fun c_7 => ?_) (fun c_7 => ?_)
  ·
    refine lv_bipush (v := (-2)) hx hb dX3_channel_29 (by decide +kernel) ?_
    exact W.iret (v := (-2)) hx hb hr (fun t ht hW => ⟨⟨_, ch, rfl, ⟨by simp [chR, okc, isCh, c_7, zb], by simp [chN, okc, isCh, c_7, zb]⟩, by rw [ht]; exact hP, hD⟩, hS.F ht⟩) hS.2.2 dX3_channel_31
  ·
    refine lv_iload_n hx hb dX3_channel_10 rfl (lv_at hl 1 rfl) ?_
    refine lv_bipush (v := 12) hx hb dX3_channel_11 (by decide +kernel) ?_
    refine lv_icmp_gt (tgt := 29) hx hb dX3_channel_13 (by decide) (fun c_13 => ?_) (fun c_13 => ?_)
    ·
      refine lv_bipush (v := (-2)) hx hb dX3_channel_29 (by decide +kernel) ?_
      exact W.iret (v := (-2)) hx hb hr (fun t ht hW => ⟨⟨_, ch, rfl, ⟨by simp [chR, okc, isCh, c_7, c_13, zb], by simp [chN, okc, isCh, c_7, c_13, zb]⟩, by rw [ht]; exact hP, hD⟩, hS.F ht⟩) hS.2.2 dX3_channel_31
    ·
      refine lv_iload_n hx hb dX3_channel_16 rfl (lv_at hl 2 rfl) ?_
      refine lv_iconst (v := (-1)) hx hb dX3_channel_17 (by decide +kernel) ?_
      refine lv_icmp_lt (tgt := 29) hx hb dX3_channel_18 (by decide) (fun c_18 => ?_) (fun c_18 => ?_)
      ·
        refine lv_bipush (v := (-2)) hx hb dX3_channel_29 (by decide +kernel) ?_
        exact W.iret (v := (-2)) hx hb hr (fun t ht hW => ⟨⟨_, ch, rfl, ⟨by simp [chR, okc, isCh, c_7, c_13, c_18, zb], by simp [chN, okc, isCh, c_7, c_13, c_18, zb]⟩, by rw [ht]; exact hP, hD⟩, hS.F ht⟩) hS.2.2 dX3_channel_31
      ·
        refine lv_iload_n hx hb dX3_channel_21 rfl (lv_at hl 2 rfl) ?_
        refine lv_aload_n hx hb dX3_channel_22 rfl (lv_at hl 0 rfl) ?_
        refine va_get (D := D) (ci := 4) (v := .int (nI L)) (C := RX3) (T := TX3) (N := 16) hx hb hts hinX3 hown hK.1 hP 0 rfl rfl 1 (by decide) (hts (.fieldLink RX3 26 "PrinterRowsModel" "lines" "I") (by decide +kernel)) (fun _ h9 => h9) rfl dX3_channel_23 ?_
        refine lv_icmp_lt (tgt := 32) hx hb dX3_channel_26 (by decide) (fun c_26 => ?_) (fun c_26 => ?_)
        ·
          have hch : ¬ zb (isCh c0) = 0 := by rw [isCh, if_neg c_7, if_neg c_13]; decide
          refine lv_aload_n hx hb dX3_channel_32 rfl (lv_at hl 0 rfl) ?_
          refine va_get (D := D) (ci := 4) (v := .ref mC) (C := RX3) (T := TX3) (N := 16) hx hb hts hinX3 hown hK.1 hP 0 rfl rfl 4 (by decide) (hts (.fieldLink RX3 14 "PrinterRowsModel" "channels" "[I") (by decide +kernel)) (fun _ h9 => h9) rfl dX3_channel_33 ?_
          refine lv_iload_n hx hb dX3_channel_36 rfl (lv_at hl 1 rfl) ?_
          refine va_iald hx hb hK.1 hP 2 0 rfl rfl (isCh_in hch) dX3_channel_37 ?_
          refine lv_istore_n (lv' := [(3, .int (ch (c0).toNatClampNeg)), (0, .ref m0), (1, .int c0), (2, .int l0)]) hx hb dX3_channel_38 rfl hl (by decide) rfl (fun ls hl => ?_)
          refine lv_aload_n hx hb dX3_channel_39 rfl (lv_at hl 1 rfl) ?_
          refine va_get (D := D) (ci := 4) (v := .ref mC) (C := RX3) (T := TX3) (N := 16) hx hb hts hinX3 hown hK.1 hP 0 rfl rfl 4 (by decide) (hts (.fieldLink RX3 14 "PrinterRowsModel" "channels" "[I") (by decide +kernel)) (fun _ h9 => h9) rfl dX3_channel_40 ?_
          refine lv_iload_n hx hb dX3_channel_43 rfl (lv_at hl 2 rfl) ?_
          refine lv_iload_n hx hb dX3_channel_44 rfl (lv_at hl 3 rfl) ?_
          refine va_iast hx hb hK.1 hP hD hS 2 0 rfl rfl (isCh_in hch) dX3_channel_45 (fun H locs hP hD hS => ?_)
          have hP : va_P D vwCl (wM cI m0 mS mC mT mR mA 0 (nI L) (nI C) (nI rl) (nI bg) (nI st) mk (zb on) (nI tp) (nI tl) (zb tb) sg (upd ch (c0).toNatClampNeg l0) tr rc ta) H := hP
          have hD : va_D A (wM cI m0 mS mC mT mR mA 0 (nI L) (nI C) (nI rl) (nI bg) (nI st) mk (zb on) (nI tp) (nI tl) (zb tb) sg (upd ch (c0).toNatClampNeg l0) tr rc ta) := hD
          refine lv_iload_n hx hb dX3_channel_46 rfl (lv_at hl 0 rfl) ?_
          exact W.iret (v := (ch (c0).toNatClampNeg)) hx hb hr (fun t ht hW => ⟨⟨_, _, rfl, ⟨by simp [chR, okc, isCh, c_7, c_13, c_18, c_26, zb], by simp [chN, okc, isCh, c_7, c_13, c_18, c_26, zb]⟩, by rw [ht]; exact hP, hD⟩, hS.F ht⟩) hS.2.2 dX3_channel_47
        ·
          refine lv_bipush (v := (-2)) hx hb dX3_channel_29 (by decide +kernel) ?_
          exact W.iret (v := (-2)) hx hb hr (fun t ht hW => ⟨⟨_, ch, rfl, ⟨by simp [chR, okc, isCh, c_7, c_13, c_18, c_26, zb], by simp [chN, okc, isCh, c_7, c_13, c_18, c_26, zb]⟩, by rw [ht]; exact hP, hD⟩, hS.F ht⟩) hS.2.2 dX3_channel_31

set_option maxHeartbeats 1000000 in
set_option maxRecDepth 100000 in
theorem c_X3_sign (l : Launch) {D : va_G} {cI cP cR cJ : ClassId} {m0 mS mC mT mR mA L C rl bg st tp tl : Nat} {on tb : Bool} {th mk : Int32} {sg ch tr rc ta : Nat → Int32} {sz : Nat} (hrl : rl ≤ 200) (c0 : Int32) : Met l yX3_sign wsX3_sign ({ frames := 0, cells := 0, slots := 0, locals := 0 }) (mu [.ref m0, .int c0] D cI cP cR cJ (wM cI m0 mS mC mT mR mA th (nI L) (nI C) (nI rl) (nI bg) (nI st) mk (zb on) (nI tp) (nI tl) (zb tb) sg ch tr rc ta) sz) (qv D (fun (u : (Nat → Int32) × Nat) => u = (sgC rl rc c0, sgL rl)) (fun u : (Nat → Int32) × Nat => wM cI m0 mS mC mT mR mA 0 (nI L) (nI C) (nI u.2) (nI bg) (nI st) mk (zb on) (nI tp) (nI tl) (zb tb) sg ch tr u.1 ta) (va_A (wM cI m0 mS mC mT mR mA th (nI L) (nI C) (nI rl) (nI bg) (nI st) mk (zb on) (nI tp) (nI tl) (zb tb) sg ch tr rc ta) sz)) 0 0 (va_A (wM cI m0 mS mC mT mR mA th (nI L) (nI C) (nI rl) (nI bg) (nI st) mk (zb on) (nI tp) (nI tl) (zb tb) sg ch tr rc ta) sz) := by
  refine Met.ofW (cc := cX3_sign) (maxL := 2) (ret := none) (by decide) rfl ?_
  intro p e s m args below meth c s₁ B hml hv
  obtain ⟨rfl, hsz, hP, hK, hD0⟩ := hv
  have hx := B.exec
  have hb := B.bytes
  have hr := B.returns
  have hts := atoms_spec (ws := wsX3_sign) B.pre
  have hown : s.vm.findClass RX3 = some m.cls := findClass_of_methodNamed B.named
  have hlocks := B.notSynchronized
  have hinX3 : ∀ w ∈ wsX30, w ∈ wsX3_sign := by decide +kernel
  subst hsz
  have hD := hD0.self (sz := s.heap.size)
  generalize hAe : va_A (wM cI m0 mS mC mT mR mA th (nI L) (nI C) (nI rl) (nI bg) (nI st) mk (zb on) (nI tp) (nI tl) (zb tb) sg ch tr rc ta) s.heap.size = A at hD ⊢
  have hA : ∀ q : Nat, s.heap.size ≤ q → A q := fun q h => by rw [← hAe]; exact Or.inr h
  have hS : va_S A s.heap s.heap [] := va_S.rf
  have hP : va_P D vwCl (wM cI m0 mS mC mT mR mA th (nI L) (nI C) (nI rl) (nI bg) (nI st) mk (zb on) (nI tp) (nI tl) (zb tb) sg ch tr rc ta) s.heap := hP
  have hl := lv_entry ([.ref m0, .int c0]) (n := 2) (Nat.le_of_ble_eq_true rfl)
  rw [lg_entry_eq]
  generalize (lg_sl ([.ref m0, .int c0]) ++ List.replicate (2 - (lg_sl ([.ref m0, .int c0])).length) Slot.unset).toArray = ls at hl ⊢
  have hl : lv_has ls 2 [(0, .ref m0), (1, .int c0)] := hl
  refine lv_aload_n hx hb dX3_sign_0 rfl (lv_at hl 0 rfl) ?_
  refine lv_iconst (v := 0) hx hb dX3_sign_1 (by decide +kernel) ?_
  refine va_put (D := D) (ci := 4) (v := .int 0) (ty := .int) (C := RX3) (T := TX3) (N := 16) hx hb hts hinX3 tyX3 tyX3_ok nmX3 hown hK.1 hP hD hS 0 rfl rfl 0 (by decide) (hts (.fieldLink RX3 33 "PrinterRowsModel" "thrown" "I") (by decide +kernel)) (fun _ h9 => h9) rfl (by decide +kernel) rfl rfl (Nat.le_of_ble_eq_true rfl) dX3_sign_2 (fun H locs hP hD hS => ?_)
  have hP : va_P D vwCl (wM cI m0 mS mC mT mR mA 0 (nI L) (nI C) (nI rl) (nI bg) (nI st) mk (zb on) (nI tp) (nI tl) (zb tb) sg ch tr rc ta) H := hP
  have hD : va_D A (wM cI m0 mS mC mT mR mA 0 (nI L) (nI C) (nI rl) (nI bg) (nI st) mk (zb on) (nI tp) (nI tl) (zb tb) sg ch tr rc ta) := hD
  refine lv_aload_n hx hb dX3_sign_5 rfl (lv_at hl 0 rfl) ?_
  refine va_get (D := D) (ci := 4) (v := .int (nI rl)) (C := RX3) (T := TX3) (N := 16) hx hb hts hinX3 hown hK.1 hP 0 rfl rfl 8 (by decide) (hts (.fieldLink RX3 36 "PrinterRowsModel" "length" "I") (by decide +kernel)) (fun _ h9 => h9) rfl dX3_sign_6 ?_
  refine lv_sipush (v := 200) hx hb dX3_sign_9 (by decide +kernel) ?_
  refine lv_icmp_ne (tgt := 16) hx hb dX3_sign_12 (by decide) (fun c_12 => ?_) (fun c_12 => ?_)
  ·
    have hlt : rl < 200 := by
      by_cases e : rl = 200
      · exact absurd (by rw [e]; rfl) c_12
      · omega
    refine lv_aload_n hx hb dX3_sign_16 rfl (lv_at hl 0 rfl) ?_
    refine va_get (D := D) (ci := 4) (v := .ref mR) (C := RX3) (T := TX3) (N := 16) hx hb hts hinX3 hown hK.1 hP 0 rfl rfl 6 (by decide) (hts (.fieldLink RX3 20 "PrinterRowsModel" "record" "[I") (by decide +kernel)) (fun _ h9 => h9) rfl dX3_sign_17 ?_
    refine lv_aload_n hx hb dX3_sign_20 rfl (lv_at hl 0 rfl) ?_
    refine va_get (D := D) (ci := 4) (v := .int (nI rl)) (C := RX3) (T := TX3) (N := 16) hx hb hts hinX3 hown hK.1 hP 0 rfl rfl 8 (by decide) (hts (.fieldLink RX3 36 "PrinterRowsModel" "length" "I") (by decide +kernel)) (fun _ h9 => h9) rfl dX3_sign_21 ?_
    refine lv_iload_n hx hb dX3_sign_24 rfl (lv_at hl 1 rfl) ?_
    refine lv_sipush (v := 255) hx hb dX3_sign_25 (by decide +kernel) ?_
    refine lv_iand hx hb dX3_sign_28 ?_
    refine lv_bipush (v := 32) hx hb dX3_sign_29 (by decide +kernel) ?_
    refine lv_icmp_ge (tgt := 39) hx hb dX3_sign_31 (by decide) (fun c_31 => ?_) (fun c_31 => ?_)
    ·
      refine lv_iload_n hx hb dX3_sign_39 rfl (lv_at hl 1 rfl) ?_
      refine lv_sipush (v := 255) hx hb dX3_sign_40 (by decide +kernel) ?_
      refine lv_iand hx hb dX3_sign_43 ?_
      refine va_iast hx hb hK.1 hP hD hS 4 0 rfl rfl (vp_in_nI hlt (by decide)) dX3_sign_44 (fun H locs hP hD hS => ?_)
      rw [show (upd rc ((nI rl)).toNatClampNeg (c0 &&& 255)) = (upd rc rl (sgV c0)) from by rw [nI_clamp (by omega), sgV_eq, if_pos c_31]] at hP hD
      have hP : va_P D vwCl (wM cI m0 mS mC mT mR mA 0 (nI L) (nI C) (nI rl) (nI bg) (nI st) mk (zb on) (nI tp) (nI tl) (zb tb) sg ch tr (upd rc rl (sgV c0)) ta) H := hP
      have hD : va_D A (wM cI m0 mS mC mT mR mA 0 (nI L) (nI C) (nI rl) (nI bg) (nI st) mk (zb on) (nI tp) (nI tl) (zb tb) sg ch tr (upd rc rl (sgV c0)) ta) := hD
      refine lv_aload_n hx hb dX3_sign_45 rfl (lv_at hl 0 rfl) ?_
      refine lv_dup hx hb dX3_sign_46 rfl ?_
      refine va_get (D := D) (ci := 4) (v := .int (nI rl)) (C := RX3) (T := TX3) (N := 16) hx hb hts hinX3 hown hK.1 hP 0 rfl rfl 8 (by decide) (hts (.fieldLink RX3 36 "PrinterRowsModel" "length" "I") (by decide +kernel)) (fun _ h9 => h9) rfl dX3_sign_47 ?_
      refine lv_iconst (v := 1) hx hb dX3_sign_50 (by decide +kernel) ?_
      refine lv_iadd hx hb dX3_sign_51 ?_
      refine lv_topi (fun x_51 ex_51 => ?_)
      obtain rfl : x_51 = nI (rl + 1) := ex_51.trans (nI_1 rl)
      refine va_put (D := D) (ci := 4) (v := .int (nI (rl + 1))) (ty := .int) (C := RX3) (T := TX3) (N := 16) hx hb hts hinX3 tyX3 tyX3_ok nmX3 hown hK.1 hP hD hS 0 rfl rfl 8 (by decide) (hts (.fieldLink RX3 36 "PrinterRowsModel" "length" "I") (by decide +kernel)) (fun _ h9 => h9) rfl (by decide +kernel) rfl rfl (Nat.le_of_ble_eq_true rfl) dX3_sign_52 (fun H locs hP hD hS => ?_)
      have hP : va_P D vwCl (wM cI m0 mS mC mT mR mA 0 (nI L) (nI C) (nI (rl + 1)) (nI bg) (nI st) mk (zb on) (nI tp) (nI tl) (zb tb) sg ch tr (upd rc rl (sgV c0)) ta) H := hP
      have hD : va_D A (wM cI m0 mS mC mT mR mA 0 (nI L) (nI C) (nI (rl + 1)) (nI bg) (nI st) mk (zb on) (nI tp) (nI tl) (zb tb) sg ch tr (upd rc rl (sgV c0)) ta) := hD
      exact W.vret hx hb hr (fun t ht hW => ⟨⟨(upd rc rl (sgV c0), rl + 1), rfl, by rw [sgC, sgL, if_pos hlt, if_pos hlt], by rw [ht]; exact hP, hD⟩, hS.F ht⟩) hS.2.2 dX3_sign_55
    ·
      refine lv_bipush (v := 32) hx hb dX3_sign_34 (by decide +kernel) ?_
      refine lv_goto (tgt := 44) hx hb dX3_sign_36 (by decide) ?_
      refine va_iast hx hb hK.1 hP hD hS 4 0 rfl rfl (vp_in_nI hlt (by decide)) dX3_sign_44 (fun H locs hP hD hS => ?_)
      rw [show (upd rc ((nI rl)).toNatClampNeg 32) = (upd rc rl (sgV c0)) from by rw [nI_clamp (by omega), sgV_eq, if_neg c_31]] at hP hD
      have hP : va_P D vwCl (wM cI m0 mS mC mT mR mA 0 (nI L) (nI C) (nI rl) (nI bg) (nI st) mk (zb on) (nI tp) (nI tl) (zb tb) sg ch tr (upd rc rl (sgV c0)) ta) H := hP
      have hD : va_D A (wM cI m0 mS mC mT mR mA 0 (nI L) (nI C) (nI rl) (nI bg) (nI st) mk (zb on) (nI tp) (nI tl) (zb tb) sg ch tr (upd rc rl (sgV c0)) ta) := hD
      refine lv_aload_n hx hb dX3_sign_45 rfl (lv_at hl 0 rfl) ?_
      refine lv_dup hx hb dX3_sign_46 rfl ?_
      refine va_get (D := D) (ci := 4) (v := .int (nI rl)) (C := RX3) (T := TX3) (N := 16) hx hb hts hinX3 hown hK.1 hP 0 rfl rfl 8 (by decide) (hts (.fieldLink RX3 36 "PrinterRowsModel" "length" "I") (by decide +kernel)) (fun _ h9 => h9) rfl dX3_sign_47 ?_
      refine lv_iconst (v := 1) hx hb dX3_sign_50 (by decide +kernel) ?_
      refine lv_iadd hx hb dX3_sign_51 ?_
      refine lv_topi (fun x_51 ex_51 => ?_)
      obtain rfl : x_51 = nI (rl + 1) := ex_51.trans (nI_1 rl)
      refine va_put (D := D) (ci := 4) (v := .int (nI (rl + 1))) (ty := .int) (C := RX3) (T := TX3) (N := 16) hx hb hts hinX3 tyX3 tyX3_ok nmX3 hown hK.1 hP hD hS 0 rfl rfl 8 (by decide) (hts (.fieldLink RX3 36 "PrinterRowsModel" "length" "I") (by decide +kernel)) (fun _ h9 => h9) rfl (by decide +kernel) rfl rfl (Nat.le_of_ble_eq_true rfl) dX3_sign_52 (fun H locs hP hD hS => ?_)
      have hP : va_P D vwCl (wM cI m0 mS mC mT mR mA 0 (nI L) (nI C) (nI (rl + 1)) (nI bg) (nI st) mk (zb on) (nI tp) (nI tl) (zb tb) sg ch tr (upd rc rl (sgV c0)) ta) H := hP
      have hD : va_D A (wM cI m0 mS mC mT mR mA 0 (nI L) (nI C) (nI (rl + 1)) (nI bg) (nI st) mk (zb on) (nI tp) (nI tl) (zb tb) sg ch tr (upd rc rl (sgV c0)) ta) := hD
      exact W.vret hx hb hr (fun t ht hW => ⟨⟨(upd rc rl (sgV c0), rl + 1), rfl, by rw [sgC, sgL, if_pos hlt, if_pos hlt], by rw [ht]; exact hP, hD⟩, hS.F ht⟩) hS.2.2 dX3_sign_55
  ·
    have hge : ¬ rl < 200 := fun h9 => by have := (nI_eq (a := rl) (b := 200) (by omega) (by decide)).mp c_12; omega
    exact W.vret hx hb hr (fun t ht hW => ⟨⟨(rc, rl), rfl, by rw [sgC, sgL, if_neg hge, if_neg hge], by rw [ht]; exact hP, hD⟩, hS.F ht⟩) hS.2.2 dX3_sign_15

set_option maxHeartbeats 1000000 in
set_option maxRecDepth 100000 in
theorem c_X3_over (l : Launch) {D : va_G} {cI cP cR cJ : ClassId} {m0 mS mC mT mR mA L C rl bg st tp tl : Nat} {on tb : Bool} {th mk : Int32} {sg ch tr rc ta : Nat → Int32} {sz : Nat} (a0 b0 : Int32) : Met l yX3_over wsX3_over ({ frames := 1, cells := 0, slots := 0, locals := 21 }) (mu [.ref m0, .int a0, .int b0] D cI cP cR cJ (wM cI m0 mS mC mT mR mA th (nI L) (nI C) (nI rl) (nI bg) (nI st) mk (zb on) (nI tp) (nI tl) (zb tb) sg ch tr rc ta) sz) (qi D (fun (r : Int32) (_ : Unit) => r = ovR a0 b0) (fun _ : Unit => wM cI m0 mS mC mT mR mA 0 (nI L) (nI C) (nI rl) (nI bg) (nI st) mk (zb on) (nI tp) (nI tl) (zb tb) sg ch tr rc ta) (va_A (wM cI m0 mS mC mT mR mA th (nI L) (nI C) (nI rl) (nI bg) (nI st) mk (zb on) (nI tp) (nI tl) (zb tb) sg ch tr rc ta) sz)) 0 0 (va_A (wM cI m0 mS mC mT mR mA th (nI L) (nI C) (nI rl) (nI bg) (nI st) mk (zb on) (nI tp) (nI tl) (zb tb) sg ch tr rc ta) sz) := by
  refine Met.ofW (cc := cX3_over) (maxL := 3) (ret := (some .int)) (by decide) rfl ?_
  intro p e s m args below meth c s₁ B hml hv
  obtain ⟨rfl, hsz, hP, hK, hD0⟩ := hv
  have hx := B.exec
  have hb := B.bytes
  have hr := B.returns
  have hts := atoms_spec (ws := wsX3_over) B.pre
  have hown : s.vm.findClass RX3 = some m.cls := findClass_of_methodNamed B.named
  have hlocks := B.notSynchronized
  have hinX3 : ∀ w ∈ wsX30, w ∈ wsX3_over := by decide +kernel
  subst hsz
  have hD := hD0.self (sz := s.heap.size)
  generalize hAe : va_A (wM cI m0 mS mC mT mR mA th (nI L) (nI C) (nI rl) (nI bg) (nI st) mk (zb on) (nI tp) (nI tl) (zb tb) sg ch tr rc ta) s.heap.size = A at hD ⊢
  have hA : ∀ q : Nat, s.heap.size ≤ q → A q := fun q h => by rw [← hAe]; exact Or.inr h
  have hS : va_S A s.heap s.heap [] := va_S.rf
  have hP : va_P D vwCl (wM cI m0 mS mC mT mR mA th (nI L) (nI C) (nI rl) (nI bg) (nI st) mk (zb on) (nI tp) (nI tl) (zb tb) sg ch tr rc ta) s.heap := hP
  have hl := lv_entry ([.ref m0, .int a0, .int b0]) (n := 3) (Nat.le_of_ble_eq_true rfl)
  rw [lg_entry_eq]
  generalize (lg_sl ([.ref m0, .int a0, .int b0]) ++ List.replicate (3 - (lg_sl ([.ref m0, .int a0, .int b0])).length) Slot.unset).toArray = ls at hl ⊢
  have hl : lv_has ls 3 [(0, .ref m0), (1, .int a0), (2, .int b0)] := hl
  refine lv_aload_n hx hb dX3_over_0 rfl (lv_at hl 0 rfl) ?_
  refine lv_iconst (v := 0) hx hb dX3_over_1 (by decide +kernel) ?_
  refine va_put (D := D) (ci := 4) (v := .int 0) (ty := .int) (C := RX3) (T := TX3) (N := 16) hx hb hts hinX3 tyX3 tyX3_ok nmX3 hown hK.1 hP hD hS 0 rfl rfl 0 (by decide) (hts (.fieldLink RX3 33 "PrinterRowsModel" "thrown" "I") (by decide +kernel)) (fun _ h9 => h9) rfl (by decide +kernel) rfl rfl (Nat.le_of_ble_eq_true rfl) dX3_over_2 (fun H locs hP hD hS => ?_)
  have hP : va_P D vwCl (wM cI m0 mS mC mT mR mA 0 (nI L) (nI C) (nI rl) (nI bg) (nI st) mk (zb on) (nI tp) (nI tl) (zb tb) sg ch tr rc ta) H := hP
  have hD : va_D A (wM cI m0 mS mC mT mR mA 0 (nI L) (nI C) (nI rl) (nI bg) (nI st) mk (zb on) (nI tp) (nI tl) (zb tb) sg ch tr rc ta) := hD
  refine lv_iload_n hx hb dX3_over_5 rfl (lv_at hl 1 rfl) ?_
  refine vp_callSi (W.runS (As := [.int a0]) (rest := []) ⟨hx, hb, hml, hown, hts⟩ (c_X3_isSign l (a0)) (va_cwS 1 hts gX3_over_X3_isSign rfl rfl rfl (by decide +kernel) ⟨(Nat.le_of_ble_eq_true rfl), (Nat.le_of_ble_eq_true rfl)⟩) pu_pre rfl rfl hl.1 rfl (lv_room (Nat.le_of_ble_eq_true rfl)) dX3_over_6 ⟨(Nat.le_of_ble_eq_true rfl), (Nat.le_of_ble_eq_true rfl)⟩) (fun r_6 w_6 => ?_)
  subst w_6
  refine lv_if_eq (tgt := 27) hx hb dX3_over_9 (by decide) (fun c_9 => ?_) (fun c_9 => ?_)
  ·
    refine lv_iconst (v := (-1)) hx hb dX3_over_27 (by decide +kernel) ?_
    exact W.iret (v := (-1)) hx hb hr (fun t ht hW => ⟨⟨_, (), rfl, by rw [ovR, if_pos c_9], by rw [ht]; exact hP, hD⟩, hS.F ht⟩) hS.2.2 dX3_over_28
  ·
    refine lv_iload_n hx hb dX3_over_12 rfl (lv_at hl 2 rfl) ?_
    refine vp_callSi (W.runS (As := [.int b0]) (rest := []) ⟨hx, hb, hml, hown, hts⟩ (c_X3_isSign l (b0)) (va_cwS 1 hts gX3_over_X3_isSign rfl rfl rfl (by decide +kernel) ⟨(Nat.le_of_ble_eq_true rfl), (Nat.le_of_ble_eq_true rfl)⟩) pu_pre rfl rfl hl.1 rfl (lv_room (Nat.le_of_ble_eq_true rfl)) dX3_over_13 ⟨(Nat.le_of_ble_eq_true rfl), (Nat.le_of_ble_eq_true rfl)⟩) (fun r_13 w_13 => ?_)
    subst w_13
    refine lv_if_eq (tgt := 27) hx hb dX3_over_16 (by decide) (fun c_16 => ?_) (fun c_16 => ?_)
    ·
      refine lv_iconst (v := (-1)) hx hb dX3_over_27 (by decide +kernel) ?_
      exact W.iret (v := (-1)) hx hb hr (fun t ht hW => ⟨⟨_, (), rfl, by rw [ovR, if_neg c_9, if_neg (fun h9 => h9 c_16)], by rw [ht]; exact hP, hD⟩, hS.F ht⟩) hS.2.2 dX3_over_28
    ·
      refine lv_iload_n hx hb dX3_over_19 rfl (lv_at hl 1 rfl) ?_
      refine lv_iload_n hx hb dX3_over_20 rfl (lv_at hl 2 rfl) ?_
      refine vp_callSi (W.runS (As := [.int a0, .int b0]) (rest := []) ⟨hx, hb, hml, hown, hts⟩ (c_X3_darker l (a0) (b0)) (va_cwS 2 hts gX3_over_X3_darker rfl rfl rfl (by decide +kernel) ⟨(Nat.le_of_ble_eq_true rfl), (Nat.le_of_ble_eq_true rfl)⟩) pu_pre rfl rfl hl.1 rfl (lv_room (Nat.le_of_ble_eq_true rfl)) dX3_over_21 ⟨(Nat.le_of_ble_eq_true rfl), (Nat.le_of_ble_eq_true rfl)⟩) (fun r_21 w_21 => ?_)
      subst w_21
      refine lv_goto (tgt := 28) hx hb dX3_over_24 (by decide) ?_
      exact W.iret (v := (mx a0 b0)) hx hb hr (fun t ht hW => ⟨⟨_, (), rfl, by rw [ovR, if_neg c_9, if_pos c_16], by rw [ht]; exact hP, hD⟩, hS.F ht⟩) hS.2.2 dX3_over_28

set_option maxHeartbeats 1000000 in
set_option maxRecDepth 100000 in
theorem c_X3_translate (l : Launch) {D : va_G} {cI cP cR cJ : ClassId} {m0 mS mC mT mR mA L C rl bg st tp tl : Nat} {on tb : Bool} {th mk : Int32} {sg ch tr rc ta : Nat → Int32} {sz : Nat} (c0 t0 : Int32) : Met l yX3_translate wsX3_translate ({ frames := 1, cells := 0, slots := 0, locals := 20 }) (mu [.ref m0, .int c0, .int t0] D cI cP cR cJ (wM cI m0 mS mC mT mR mA th (nI L) (nI C) (nI rl) (nI bg) (nI st) mk (zb on) (nI tp) (nI tl) (zb tb) sg ch tr rc ta) sz) (qi D (fun (r : Int32) (u : Nat → Int32) => r = trR tr c0 t0 ∧ u = trN tr c0 t0) (fun u : Nat → Int32 => wM cI m0 mS mC mT mR mA 0 (nI L) (nI C) (nI rl) (nI bg) (nI st) mk (zb on) (nI tp) (nI tl) (zb tb) sg ch u rc ta) (va_A (wM cI m0 mS mC mT mR mA th (nI L) (nI C) (nI rl) (nI bg) (nI st) mk (zb on) (nI tp) (nI tl) (zb tb) sg ch tr rc ta) sz)) 0 0 (va_A (wM cI m0 mS mC mT mR mA th (nI L) (nI C) (nI rl) (nI bg) (nI st) mk (zb on) (nI tp) (nI tl) (zb tb) sg ch tr rc ta) sz) := by
  refine Met.ofW (cc := cX3_translate) (maxL := 4) (ret := (some .int)) (by decide) rfl ?_
  intro p e s m args below meth c s₁ B hml hv
  obtain ⟨rfl, hsz, hP, hK, hD0⟩ := hv
  have hx := B.exec
  have hb := B.bytes
  have hr := B.returns
  have hts := atoms_spec (ws := wsX3_translate) B.pre
  have hown : s.vm.findClass RX3 = some m.cls := findClass_of_methodNamed B.named
  have hlocks := B.notSynchronized
  have hinX3 : ∀ w ∈ wsX30, w ∈ wsX3_translate := by decide +kernel
  subst hsz
  have hD := hD0.self (sz := s.heap.size)
  generalize hAe : va_A (wM cI m0 mS mC mT mR mA th (nI L) (nI C) (nI rl) (nI bg) (nI st) mk (zb on) (nI tp) (nI tl) (zb tb) sg ch tr rc ta) s.heap.size = A at hD ⊢
  have hA : ∀ q : Nat, s.heap.size ≤ q → A q := fun q h => by rw [← hAe]; exact Or.inr h
  have hS : va_S A s.heap s.heap [] := va_S.rf
  have hP : va_P D vwCl (wM cI m0 mS mC mT mR mA th (nI L) (nI C) (nI rl) (nI bg) (nI st) mk (zb on) (nI tp) (nI tl) (zb tb) sg ch tr rc ta) s.heap := hP
  have hl := lv_entry ([.ref m0, .int c0, .int t0]) (n := 4) (Nat.le_of_ble_eq_true rfl)
  rw [lg_entry_eq]
  generalize (lg_sl ([.ref m0, .int c0, .int t0]) ++ List.replicate (4 - (lg_sl ([.ref m0, .int c0, .int t0])).length) Slot.unset).toArray = ls at hl ⊢
  have hl : lv_has ls 4 [(0, .ref m0), (1, .int c0), (2, .int t0)] := hl
  refine lv_aload_n hx hb dX3_translate_0 rfl (lv_at hl 0 rfl) ?_
  refine lv_iconst (v := 0) hx hb dX3_translate_1 (by decide +kernel) ?_
  refine va_put (D := D) (ci := 4) (v := .int 0) (ty := .int) (C := RX3) (T := TX3) (N := 16) hx hb hts hinX3 tyX3 tyX3_ok nmX3 hown hK.1 hP hD hS 0 rfl rfl 0 (by decide) (hts (.fieldLink RX3 33 "PrinterRowsModel" "thrown" "I") (by decide +kernel)) (fun _ h9 => h9) rfl (by decide +kernel) rfl rfl (Nat.le_of_ble_eq_true rfl) dX3_translate_2 (fun H locs hP hD hS => ?_)
  have hP : va_P D vwCl (wM cI m0 mS mC mT mR mA 0 (nI L) (nI C) (nI rl) (nI bg) (nI st) mk (zb on) (nI tp) (nI tl) (zb tb) sg ch tr rc ta) H := hP
  have hD : va_D A (wM cI m0 mS mC mT mR mA 0 (nI L) (nI C) (nI rl) (nI bg) (nI st) mk (zb on) (nI tp) (nI tl) (zb tb) sg ch tr rc ta) := hD
  refine lv_iload_n hx hb dX3_translate_5 rfl (lv_at hl 1 rfl) ?_
  refine vp_callSi (W.runS (As := [.int c0]) (rest := []) ⟨hx, hb, hml, hown, hts⟩ (c_X3_isSign l (c0)) (va_cwS 1 hts gX3_translate_X3_isSign rfl rfl rfl (by decide +kernel) ⟨(Nat.le_of_ble_eq_true rfl), (Nat.le_of_ble_eq_true rfl)⟩) pu_pre rfl rfl hl.1 rfl (lv_room (Nat.le_of_ble_eq_true rfl)) dX3_translate_6 ⟨(Nat.le_of_ble_eq_true rfl), (Nat.le_of_ble_eq_true rfl)⟩) (fun r_6 w_6 => ?_)
  subst w_6
  refine lv_if_eq (tgt := 19) hx hb dX3_translate_9 (by decide) (fun c_9 => ?_) (fun c_9 => ?_)
  ·
    refine lv_iconst (v := (-1)) hx hb dX3_translate_19 (by decide +kernel) ?_
    exact W.iret (v := (-1)) hx hb hr (fun t ht hW => ⟨⟨_, tr, rfl, ⟨by simp [trR, okt, c_9], by simp [trN, okt, c_9]⟩, by rw [ht]; exact hP, hD⟩, hS.F ht⟩) hS.2.2 dX3_translate_20
  ·
    refine lv_iload_n hx hb dX3_translate_12 rfl (lv_at hl 2 rfl) ?_
    refine vp_callSi (W.runS (As := [.int t0]) (rest := []) ⟨hx, hb, hml, hown, hts⟩ (c_X3_isSign l (t0)) (va_cwS 1 hts gX3_translate_X3_isSign rfl rfl rfl (by decide +kernel) ⟨(Nat.le_of_ble_eq_true rfl), (Nat.le_of_ble_eq_true rfl)⟩) pu_pre rfl rfl hl.1 rfl (lv_room (Nat.le_of_ble_eq_true rfl)) dX3_translate_13 ⟨(Nat.le_of_ble_eq_true rfl), (Nat.le_of_ble_eq_true rfl)⟩) (fun r_13 w_13 => ?_)
    subst w_13
    refine lv_if_ne (tgt := 21) hx hb dX3_translate_16 (by decide) (fun c_16 => ?_) (fun c_16 => ?_)
    ·
      refine lv_aload_n hx hb dX3_translate_21 rfl (lv_at hl 0 rfl) ?_
      refine va_get (D := D) (ci := 4) (v := .ref mT) (C := RX3) (T := TX3) (N := 16) hx hb hts hinX3 hown hK.1 hP 0 rfl rfl 5 (by decide) (hts (.fieldLink RX3 17 "PrinterRowsModel" "table" "[I") (by decide +kernel)) (fun _ h9 => h9) rfl dX3_translate_22 ?_
      refine lv_iload_n hx hb dX3_translate_25 rfl (lv_at hl 1 rfl) ?_
      refine va_iald hx hb hK.1 hP 3 0 rfl rfl (isSg_in c_9) dX3_translate_26 ?_
      refine lv_istore_n (lv' := [(3, .int (tr (c0).toNatClampNeg)), (0, .ref m0), (1, .int c0), (2, .int t0)]) hx hb dX3_translate_27 rfl hl (by decide) rfl (fun ls hl => ?_)
      refine lv_aload_n hx hb dX3_translate_28 rfl (lv_at hl 1 rfl) ?_
      refine va_get (D := D) (ci := 4) (v := .ref mT) (C := RX3) (T := TX3) (N := 16) hx hb hts hinX3 hown hK.1 hP 0 rfl rfl 5 (by decide) (hts (.fieldLink RX3 17 "PrinterRowsModel" "table" "[I") (by decide +kernel)) (fun _ h9 => h9) rfl dX3_translate_29 ?_
      refine lv_iload_n hx hb dX3_translate_32 rfl (lv_at hl 2 rfl) ?_
      refine lv_iload_n hx hb dX3_translate_33 rfl (lv_at hl 3 rfl) ?_
      refine va_iast hx hb hK.1 hP hD hS 3 0 rfl rfl (isSg_in c_9) dX3_translate_34 (fun H locs hP hD hS => ?_)
      have hP : va_P D vwCl (wM cI m0 mS mC mT mR mA 0 (nI L) (nI C) (nI rl) (nI bg) (nI st) mk (zb on) (nI tp) (nI tl) (zb tb) sg ch (upd tr (c0).toNatClampNeg t0) rc ta) H := hP
      have hD : va_D A (wM cI m0 mS mC mT mR mA 0 (nI L) (nI C) (nI rl) (nI bg) (nI st) mk (zb on) (nI tp) (nI tl) (zb tb) sg ch (upd tr (c0).toNatClampNeg t0) rc ta) := hD
      refine lv_iload_n hx hb dX3_translate_35 rfl (lv_at hl 0 rfl) ?_
      exact W.iret (v := (tr (c0).toNatClampNeg)) hx hb hr (fun t ht hW => ⟨⟨_, _, rfl, ⟨by simp [trR, okt, c_9, c_16], by simp [trN, okt, c_9, c_16]⟩, by rw [ht]; exact hP, hD⟩, hS.F ht⟩) hS.2.2 dX3_translate_36
    ·
      refine lv_iconst (v := (-1)) hx hb dX3_translate_19 (by decide +kernel) ?_
      exact W.iret (v := (-1)) hx hb hr (fun t ht hW => ⟨⟨_, tr, rfl, ⟨by simp [trR, okt, c_9, c_16], by simp [trN, okt, c_9, c_16]⟩, by rw [ht]; exact hP, hD⟩, hS.F ht⟩) hS.2.2 dX3_translate_20

set_option maxHeartbeats 1000000 in
set_option maxRecDepth 100000 in
theorem c_X3_end (l : Launch) {D : va_G} {cI cP cR cJ : ClassId} {m0 mS mC mT mR mA L C rl bg st tp tl : Nat} {on tb : Bool} {th mk : Int32} {sg ch tr rc ta : Nat → Int32} {sz : Nat} : Met l yX3_end wsX3_end ({ frames := 1, cells := 0, slots := 0, locals := 20 }) (mu [.ref m0] D cI cP cR cJ (wM cI m0 mS mC mT mR mA th (nI L) (nI C) (nI rl) (nI bg) (nI st) mk (zb on) (nI tp) (nI tl) (zb tb) sg ch tr rc ta) sz) (qi D (fun (r : Int32) (_ : Unit) => r = nI bg) (fun _ : Unit => wM cI m0 mS mC mT mR mA 0 (nI L) (nI C) (nI rl) (nI bg) (nI 0) mk (zb false) (nI tp) (nI tl) (zb tb) sg ch tr rc ta) (va_A (wM cI m0 mS mC mT mR mA th (nI L) (nI C) (nI rl) (nI bg) (nI st) mk (zb on) (nI tp) (nI tl) (zb tb) sg ch tr rc ta) sz)) 0 0 (va_A (wM cI m0 mS mC mT mR mA th (nI L) (nI C) (nI rl) (nI bg) (nI st) mk (zb on) (nI tp) (nI tl) (zb tb) sg ch tr rc ta) sz) := by
  refine Met.ofW (cc := cX3_end) (maxL := 1) (ret := (some .int)) (by decide) rfl ?_
  intro p e s m args below meth c s₁ B hml hv
  obtain ⟨rfl, hsz, hP, hK, hD0⟩ := hv
  have hx := B.exec
  have hb := B.bytes
  have hr := B.returns
  have hts := atoms_spec (ws := wsX3_end) B.pre
  have hown : s.vm.findClass RX3 = some m.cls := findClass_of_methodNamed B.named
  have hlocks := B.notSynchronized
  have hinX3 : ∀ w ∈ wsX30, w ∈ wsX3_end := by decide +kernel
  subst hsz
  have hD := hD0.self (sz := s.heap.size)
  generalize hAe : va_A (wM cI m0 mS mC mT mR mA th (nI L) (nI C) (nI rl) (nI bg) (nI st) mk (zb on) (nI tp) (nI tl) (zb tb) sg ch tr rc ta) s.heap.size = A at hD ⊢
  have hA : ∀ q : Nat, s.heap.size ≤ q → A q := fun q h => by rw [← hAe]; exact Or.inr h
  have hS : va_S A s.heap s.heap [] := va_S.rf
  have hP : va_P D vwCl (wM cI m0 mS mC mT mR mA th (nI L) (nI C) (nI rl) (nI bg) (nI st) mk (zb on) (nI tp) (nI tl) (zb tb) sg ch tr rc ta) s.heap := hP
  have hl := lv_entry ([.ref m0]) (n := 1) (Nat.le_of_ble_eq_true rfl)
  rw [lg_entry_eq]
  generalize (lg_sl ([.ref m0]) ++ List.replicate (1 - (lg_sl ([.ref m0])).length) Slot.unset).toArray = ls at hl ⊢
  have hl : lv_has ls 1 [(0, .ref m0)] := hl
  refine lv_aload_n hx hb dX3_end_0 rfl (lv_at hl 0 rfl) ?_
  refine lv_iconst (v := 0) hx hb dX3_end_1 (by decide +kernel) ?_
  refine va_put (D := D) (ci := 4) (v := .int 0) (ty := .int) (C := RX3) (T := TX3) (N := 16) hx hb hts hinX3 tyX3 tyX3_ok nmX3 hown hK.1 hP hD hS 0 rfl rfl 0 (by decide) (hts (.fieldLink RX3 33 "PrinterRowsModel" "thrown" "I") (by decide +kernel)) (fun _ h9 => h9) rfl (by decide +kernel) rfl rfl (Nat.le_of_ble_eq_true rfl) dX3_end_2 (fun H locs hP hD hS => ?_)
  have hP : va_P D vwCl (wM cI m0 mS mC mT mR mA 0 (nI L) (nI C) (nI rl) (nI bg) (nI st) mk (zb on) (nI tp) (nI tl) (zb tb) sg ch tr rc ta) H := hP
  have hD : va_D A (wM cI m0 mS mC mT mR mA 0 (nI L) (nI C) (nI rl) (nI bg) (nI st) mk (zb on) (nI tp) (nI tl) (zb tb) sg ch tr rc ta) := hD
  refine lv_aload_n hx hb dX3_end_5 rfl (lv_at hl 0 rfl) ?_
  refine callQv (va_runV (As := []) (rest := []) ⟨hx, hb, hml, hown, hts⟩ (c_X3_pass l) (cwV 0 hts gX3_end_X3_pass rfl rfl rfl (by decide +kernel) ⟨(Nat.le_of_ble_eq_true rfl), (Nat.le_of_ble_eq_true rfl)⟩) (mu_pre hK hP hD rfl 0 rfl) rfl rfl hl.1 rfl (lv_room (Nat.le_of_ble_eq_true rfl)) dX3_end_6 ⟨(Nat.le_of_ble_eq_true rfl), (Nat.le_of_ble_eq_true rfl)⟩) hD hS hA (fun u_6 H locs w_6 hP hD hS => ?_)
  have hP : va_P D vwCl (wM cI m0 mS mC mT mR mA 0 (nI L) (nI C) (nI rl) (nI bg) (nI 0) mk (zb false) (nI tp) (nI tl) (zb tb) sg ch tr rc ta) H := hP
  have hD : va_D A (wM cI m0 mS mC mT mR mA 0 (nI L) (nI C) (nI rl) (nI bg) (nI 0) mk (zb false) (nI tp) (nI tl) (zb tb) sg ch tr rc ta) := hD
  refine lv_aload_n hx hb dX3_end_9 rfl (lv_at hl 0 rfl) ?_
  refine va_get (D := D) (ci := 4) (v := .int (nI bg)) (C := RX3) (T := TX3) (N := 16) hx hb hts hinX3 hown hK.1 hP 0 rfl rfl 9 (by decide) (hts (.fieldLink RX3 39 "PrinterRowsModel" "pages" "I") (by decide +kernel)) (fun _ h9 => h9) rfl dX3_end_10 ?_
  exact W.iret (v := (nI bg)) hx hb hr (fun t ht hW => ⟨⟨_, (), rfl, rfl, by rw [ht]; exact hP, hD⟩, hS.F ht⟩) hS.2.2 dX3_end_13

set_option maxHeartbeats 1000000 in
set_option maxRecDepth 100000 in
theorem c_X3_back (l : Launch) {D : va_G} {cI cP cR cJ : ClassId} {m0 mS mC mT mR mA L C rl bg st tp tl : Nat} {on tb : Bool} {th mk : Int32} {sg ch tr rc ta : Nat → Int32} {sz : Nat} (hbg : bg ≤ 40) (n0 : Int32) : Met l yX3_back wsX3_back ({ frames := 1, cells := 0, slots := 0, locals := 20 }) (mu [.ref m0, .int n0] D cI cP cR cJ (wM cI m0 mS mC mT mR mA th (nI L) (nI C) (nI rl) (nI bg) (nI st) mk (zb on) (nI tp) (nI tl) (zb tb) sg ch tr rc ta) sz) (qi D (fun (r : Int32) (u : Nat × Bool × Nat) => r = bkR bg n0 ∧ u.1 = bkB bg n0 ∧ (u.2.1, u.2.2) = (if bkO bg n0 then (false, 0) else (on, st))) (fun u : Nat × Bool × Nat => wM cI m0 mS mC mT mR mA 0 (nI L) (nI C) (nI rl) (nI u.1) (nI u.2.2) mk (zb u.2.1) (nI tp) (nI tl) (zb tb) sg ch tr rc ta) (va_A (wM cI m0 mS mC mT mR mA th (nI L) (nI C) (nI rl) (nI bg) (nI st) mk (zb on) (nI tp) (nI tl) (zb tb) sg ch tr rc ta) sz)) 0 0 (va_A (wM cI m0 mS mC mT mR mA th (nI L) (nI C) (nI rl) (nI bg) (nI st) mk (zb on) (nI tp) (nI tl) (zb tb) sg ch tr rc ta) sz) := by
  refine Met.ofW (cc := cX3_back) (maxL := 2) (ret := (some .int)) (by decide) rfl ?_
  intro p e s m args below meth c s₁ B hml hv
  obtain ⟨rfl, hsz, hP, hK, hD0⟩ := hv
  have hx := B.exec
  have hb := B.bytes
  have hr := B.returns
  have hts := atoms_spec (ws := wsX3_back) B.pre
  have hown : s.vm.findClass RX3 = some m.cls := findClass_of_methodNamed B.named
  have hlocks := B.notSynchronized
  have hinX3 : ∀ w ∈ wsX30, w ∈ wsX3_back := by decide +kernel
  subst hsz
  have hD := hD0.self (sz := s.heap.size)
  generalize hAe : va_A (wM cI m0 mS mC mT mR mA th (nI L) (nI C) (nI rl) (nI bg) (nI st) mk (zb on) (nI tp) (nI tl) (zb tb) sg ch tr rc ta) s.heap.size = A at hD ⊢
  have hA : ∀ q : Nat, s.heap.size ≤ q → A q := fun q h => by rw [← hAe]; exact Or.inr h
  have hS : va_S A s.heap s.heap [] := va_S.rf
  have hP : va_P D vwCl (wM cI m0 mS mC mT mR mA th (nI L) (nI C) (nI rl) (nI bg) (nI st) mk (zb on) (nI tp) (nI tl) (zb tb) sg ch tr rc ta) s.heap := hP
  have hl := lv_entry ([.ref m0, .int n0]) (n := 2) (Nat.le_of_ble_eq_true rfl)
  rw [lg_entry_eq]
  generalize (lg_sl ([.ref m0, .int n0]) ++ List.replicate (2 - (lg_sl ([.ref m0, .int n0])).length) Slot.unset).toArray = ls at hl ⊢
  have hl : lv_has ls 2 [(0, .ref m0), (1, .int n0)] := hl
  refine lv_aload_n hx hb dX3_back_0 rfl (lv_at hl 0 rfl) ?_
  refine lv_iconst (v := 0) hx hb dX3_back_1 (by decide +kernel) ?_
  refine va_put (D := D) (ci := 4) (v := .int 0) (ty := .int) (C := RX3) (T := TX3) (N := 16) hx hb hts hinX3 tyX3 tyX3_ok nmX3 hown hK.1 hP hD hS 0 rfl rfl 0 (by decide) (hts (.fieldLink RX3 33 "PrinterRowsModel" "thrown" "I") (by decide +kernel)) (fun _ h9 => h9) rfl (by decide +kernel) rfl rfl (Nat.le_of_ble_eq_true rfl) dX3_back_2 (fun H locs hP hD hS => ?_)
  have hP : va_P D vwCl (wM cI m0 mS mC mT mR mA 0 (nI L) (nI C) (nI rl) (nI bg) (nI st) mk (zb on) (nI tp) (nI tl) (zb tb) sg ch tr rc ta) H := hP
  have hD : va_D A (wM cI m0 mS mC mT mR mA 0 (nI L) (nI C) (nI rl) (nI bg) (nI st) mk (zb on) (nI tp) (nI tl) (zb tb) sg ch tr rc ta) := hD
  refine lv_iload_n hx hb dX3_back_5 rfl (lv_at hl 1 rfl) ?_
  refine lv_if_lt (tgt := 17) hx hb dX3_back_6 (by decide) (fun c_6 => ?_) (fun c_6 => ?_)
  ·
    refine lv_bipush (v := (-2)) hx hb dX3_back_17 (by decide +kernel) ?_
    exact W.iret (v := (-2)) hx hb hr (fun t ht hW => ⟨⟨_, (bg, on, st), rfl, ⟨by rw [bkR, bkO, if_pos c_6]; rfl, by rw [bkB, bkO, if_pos c_6]; rfl, by rw [bkO, if_pos c_6]; rfl⟩, by rw [ht]; exact hP, hD⟩, hS.F ht⟩) hS.2.2 dX3_back_19
  ·
    refine lv_iload_n hx hb dX3_back_9 rfl (lv_at hl 1 rfl) ?_
    refine lv_aload_n hx hb dX3_back_10 rfl (lv_at hl 0 rfl) ?_
    refine va_get (D := D) (ci := 4) (v := .int (nI bg)) (C := RX3) (T := TX3) (N := 16) hx hb hts hinX3 hown hK.1 hP 0 rfl rfl 9 (by decide) (hts (.fieldLink RX3 39 "PrinterRowsModel" "pages" "I") (by decide +kernel)) (fun _ h9 => h9) rfl dX3_back_11 ?_
    refine lv_icmp_le (tgt := 20) hx hb dX3_back_14 (by decide) (fun c_14 => ?_) (fun c_14 => ?_)
    ·
      obtain ⟨nn, hnn, hn0⟩ := nI_of (x := n0) c_6
      have hnb : nn ≤ bg := by rw [hn0] at c_14; exact (nI_leI (by omega) (by omega)).mp c_14
      have hok : bkO bg n0 = true := by rw [bkO, if_neg c_6, if_pos c_14]
      have hcl : n0.toNatClampNeg = nn := by rw [hn0, nI_clamp (by omega)]
      refine lv_aload_n hx hb dX3_back_20 rfl (lv_at hl 0 rfl) ?_
      refine lv_dup hx hb dX3_back_21 rfl ?_
      refine va_get (D := D) (ci := 4) (v := .int (nI bg)) (C := RX3) (T := TX3) (N := 16) hx hb hts hinX3 hown hK.1 hP 0 rfl rfl 9 (by decide) (hts (.fieldLink RX3 39 "PrinterRowsModel" "pages" "I") (by decide +kernel)) (fun _ h9 => h9) rfl dX3_back_22 ?_
      refine lv_iload_n hx hb dX3_back_25 rfl (lv_at hl 1 rfl) ?_
      refine lv_isub hx hb dX3_back_26 ?_
      refine lv_topi (fun x_26 ex_26 => ?_)
      obtain rfl : x_26 = nI (bg - nn) := ex_26.trans (by rw [hn0]; exact pk_sub hnb)
      refine va_put (D := D) (ci := 4) (v := .int (nI (bg - nn))) (ty := .int) (C := RX3) (T := TX3) (N := 16) hx hb hts hinX3 tyX3 tyX3_ok nmX3 hown hK.1 hP hD hS 0 rfl rfl 9 (by decide) (hts (.fieldLink RX3 39 "PrinterRowsModel" "pages" "I") (by decide +kernel)) (fun _ h9 => h9) rfl (by decide +kernel) rfl rfl (Nat.le_of_ble_eq_true rfl) dX3_back_27 (fun H locs hP hD hS => ?_)
      have hP : va_P D vwCl (wM cI m0 mS mC mT mR mA 0 (nI L) (nI C) (nI rl) (nI (bg - nn)) (nI st) mk (zb on) (nI tp) (nI tl) (zb tb) sg ch tr rc ta) H := hP
      have hD : va_D A (wM cI m0 mS mC mT mR mA 0 (nI L) (nI C) (nI rl) (nI (bg - nn)) (nI st) mk (zb on) (nI tp) (nI tl) (zb tb) sg ch tr rc ta) := hD
      refine lv_aload_n hx hb dX3_back_30 rfl (lv_at hl 0 rfl) ?_
      refine callQv (va_runV (As := []) (rest := []) ⟨hx, hb, hml, hown, hts⟩ (c_X3_pass l) (cwV 0 hts gX3_back_X3_pass rfl rfl rfl (by decide +kernel) ⟨(Nat.le_of_ble_eq_true rfl), (Nat.le_of_ble_eq_true rfl)⟩) (mu_pre hK hP hD rfl 0 rfl) rfl rfl hl.1 rfl (lv_room (Nat.le_of_ble_eq_true rfl)) dX3_back_31 ⟨(Nat.le_of_ble_eq_true rfl), (Nat.le_of_ble_eq_true rfl)⟩) hD hS hA (fun u_31 H locs w_31 hP hD hS => ?_)
      have hP : va_P D vwCl (wM cI m0 mS mC mT mR mA 0 (nI L) (nI C) (nI rl) (nI (bg - nn)) (nI 0) mk (zb false) (nI tp) (nI tl) (zb tb) sg ch tr rc ta) H := hP
      have hD : va_D A (wM cI m0 mS mC mT mR mA 0 (nI L) (nI C) (nI rl) (nI (bg - nn)) (nI 0) mk (zb false) (nI tp) (nI tl) (zb tb) sg ch tr rc ta) := hD
      refine lv_aload_n hx hb dX3_back_34 rfl (lv_at hl 0 rfl) ?_
      refine va_get (D := D) (ci := 4) (v := .int (nI (bg - nn))) (C := RX3) (T := TX3) (N := 16) hx hb hts hinX3 hown hK.1 hP 0 rfl rfl 9 (by decide) (hts (.fieldLink RX3 39 "PrinterRowsModel" "pages" "I") (by decide +kernel)) (fun _ h9 => h9) rfl dX3_back_35 ?_
      exact W.iret (v := (nI (bg - nn))) hx hb hr (fun t ht hW => ⟨⟨_, (bg - nn, false, 0), rfl, ⟨by rw [bkR, hok, hcl]; rfl, by rw [bkB, hok, hcl]; rfl, by rw [hok]; rfl⟩, by rw [ht]; exact hP, hD⟩, hS.F ht⟩) hS.2.2 dX3_back_38
    ·
      refine lv_bipush (v := (-2)) hx hb dX3_back_17 (by decide +kernel) ?_
      exact W.iret (v := (-2)) hx hb hr (fun t ht hW => ⟨⟨_, (bg, on, st), rfl, ⟨by rw [bkR, bkO, if_neg c_6, if_neg c_14]; rfl, by rw [bkB, bkO, if_neg c_6, if_neg c_14]; rfl, by rw [bkO, if_neg c_6, if_neg c_14]; rfl⟩, by rw [ht]; exact hP, hD⟩, hS.F ht⟩) hS.2.2 dX3_back_19

set_option maxHeartbeats 1000000 in
set_option maxRecDepth 100000 in
theorem c_X3_forms (l : Launch) {D : va_G} {cI cP cR cJ : ClassId} {m0 mS mC mT mR mA L C rl bg st tp tl : Nat} {on tb : Bool} {th mk : Int32} {sg ch tr rc ta : Nat → Int32} {sz : Nat} (k0 : Int32) : Met l yX3_forms wsX3_forms ({ frames := 1, cells := 0, slots := 0, locals := 20 }) (mu [.ref m0, .int k0] D cI cP cR cJ (wM cI m0 mS mC mT mR mA th (nI L) (nI C) (nI rl) (nI bg) (nI st) mk (zb on) (nI tp) (nI tl) (zb tb) sg ch tr rc ta) sz) (qi D (fun (r : Int32) (u : Int32 × (Nat → Int32) × Bool × Nat) => r = fmR mk k0 ∧ u = if fmD mk k0 then (k0, upd ta 6 (ta 6 + 1), false, 0) else (mk, ta, on, st)) (fun u : Int32 × (Nat → Int32) × Bool × Nat => wM cI m0 mS mC mT mR mA 0 (nI L) (nI C) (nI rl) (nI bg) (nI u.2.2.2) u.1 (zb u.2.2.1) (nI tp) (nI tl) (zb tb) sg ch tr rc u.2.1) (va_A (wM cI m0 mS mC mT mR mA th (nI L) (nI C) (nI rl) (nI bg) (nI st) mk (zb on) (nI tp) (nI tl) (zb tb) sg ch tr rc ta) sz)) 0 0 (va_A (wM cI m0 mS mC mT mR mA th (nI L) (nI C) (nI rl) (nI bg) (nI st) mk (zb on) (nI tp) (nI tl) (zb tb) sg ch tr rc ta) sz) := by
  refine Met.ofW (cc := cX3_forms) (maxL := 2) (ret := (some .int)) (by decide) rfl ?_
  intro p e s m args below meth c s₁ B hml hv
  obtain ⟨rfl, hsz, hP, hK, hD0⟩ := hv
  have hx := B.exec
  have hb := B.bytes
  have hr := B.returns
  have hts := atoms_spec (ws := wsX3_forms) B.pre
  have hown : s.vm.findClass RX3 = some m.cls := findClass_of_methodNamed B.named
  have hlocks := B.notSynchronized
  have hinX3 : ∀ w ∈ wsX30, w ∈ wsX3_forms := by decide +kernel
  subst hsz
  have hD := hD0.self (sz := s.heap.size)
  generalize hAe : va_A (wM cI m0 mS mC mT mR mA th (nI L) (nI C) (nI rl) (nI bg) (nI st) mk (zb on) (nI tp) (nI tl) (zb tb) sg ch tr rc ta) s.heap.size = A at hD ⊢
  have hA : ∀ q : Nat, s.heap.size ≤ q → A q := fun q h => by rw [← hAe]; exact Or.inr h
  have hS : va_S A s.heap s.heap [] := va_S.rf
  have hP : va_P D vwCl (wM cI m0 mS mC mT mR mA th (nI L) (nI C) (nI rl) (nI bg) (nI st) mk (zb on) (nI tp) (nI tl) (zb tb) sg ch tr rc ta) s.heap := hP
  have hl := lv_entry ([.ref m0, .int k0]) (n := 2) (Nat.le_of_ble_eq_true rfl)
  rw [lg_entry_eq]
  generalize (lg_sl ([.ref m0, .int k0]) ++ List.replicate (2 - (lg_sl ([.ref m0, .int k0])).length) Slot.unset).toArray = ls at hl ⊢
  have hl : lv_has ls 2 [(0, .ref m0), (1, .int k0)] := hl
  refine lv_aload_n hx hb dX3_forms_0 rfl (lv_at hl 0 rfl) ?_
  refine lv_iconst (v := 0) hx hb dX3_forms_1 (by decide +kernel) ?_
  refine va_put (D := D) (ci := 4) (v := .int 0) (ty := .int) (C := RX3) (T := TX3) (N := 16) hx hb hts hinX3 tyX3 tyX3_ok nmX3 hown hK.1 hP hD hS 0 rfl rfl 0 (by decide) (hts (.fieldLink RX3 33 "PrinterRowsModel" "thrown" "I") (by decide +kernel)) (fun _ h9 => h9) rfl (by decide +kernel) rfl rfl (Nat.le_of_ble_eq_true rfl) dX3_forms_2 (fun H locs hP hD hS => ?_)
  have hP : va_P D vwCl (wM cI m0 mS mC mT mR mA 0 (nI L) (nI C) (nI rl) (nI bg) (nI st) mk (zb on) (nI tp) (nI tl) (zb tb) sg ch tr rc ta) H := hP
  have hD : va_D A (wM cI m0 mS mC mT mR mA 0 (nI L) (nI C) (nI rl) (nI bg) (nI st) mk (zb on) (nI tp) (nI tl) (zb tb) sg ch tr rc ta) := hD
  refine lv_iload_n hx hb dX3_forms_5 rfl (lv_at hl 1 rfl) ?_
  refine lv_if_ge (tgt := 12) hx hb dX3_forms_6 (by decide) (fun c_6 => ?_) (fun c_6 => ?_)
  ·
    refine lv_iload_n hx hb dX3_forms_12 rfl (lv_at hl 1 rfl) ?_
    refine lv_aload_n hx hb dX3_forms_13 rfl (lv_at hl 0 rfl) ?_
    refine va_get (D := D) (ci := 4) (v := .int mk) (C := RX3) (T := TX3) (N := 16) hx hb hts hinX3 hown hK.1 hP 0 rfl rfl 11 (by decide) (hts (.fieldLink RX3 96 "PrinterRowsModel" "mounted" "I") (by decide +kernel)) (fun _ h9 => h9) rfl dX3_forms_14 ?_
    refine lv_icmp_ne (tgt := 22) hx hb dX3_forms_17 (by decide) (fun c_17 => ?_) (fun c_17 => ?_)
    ·
      refine lv_aload_n hx hb dX3_forms_22 rfl (lv_at hl 0 rfl) ?_
      refine lv_iload_n hx hb dX3_forms_23 rfl (lv_at hl 1 rfl) ?_
      refine va_put (D := D) (ci := 4) (v := .int k0) (ty := .int) (C := RX3) (T := TX3) (N := 16) hx hb hts hinX3 tyX3 tyX3_ok nmX3 hown hK.1 hP hD hS 0 rfl rfl 11 (by decide) (hts (.fieldLink RX3 96 "PrinterRowsModel" "mounted" "I") (by decide +kernel)) (fun _ h9 => h9) rfl (by decide +kernel) rfl rfl (Nat.le_of_ble_eq_true rfl) dX3_forms_24 (fun H locs hP hD hS => ?_)
      have hP : va_P D vwCl (wM cI m0 mS mC mT mR mA 0 (nI L) (nI C) (nI rl) (nI bg) (nI st) k0 (zb on) (nI tp) (nI tl) (zb tb) sg ch tr rc ta) H := hP
      have hD : va_D A (wM cI m0 mS mC mT mR mA 0 (nI L) (nI C) (nI rl) (nI bg) (nI st) k0 (zb on) (nI tp) (nI tl) (zb tb) sg ch tr rc ta) := hD
      refine lv_aload_n hx hb dX3_forms_27 rfl (lv_at hl 0 rfl) ?_
      refine va_get (D := D) (ci := 4) (v := .ref mA) (C := RX3) (T := TX3) (N := 16) hx hb hts hinX3 hown hK.1 hP 0 rfl rfl 7 (by decide) (hts (.fieldLink RX3 23 "PrinterRowsModel" "tallies" "[I") (by decide +kernel)) (fun _ h9 => h9) rfl dX3_forms_28 ?_
      refine lv_bipush (v := 6) hx hb dX3_forms_31 (by decide +kernel) ?_
      refine lv_dup2_11 hx hb dX3_forms_33 rfl rfl ?_
      refine va_iald hx hb hK.1 hP 5 0 rfl rfl (vp_in_iff.mpr (by decide +kernel)) dX3_forms_34 ?_
      refine lv_topi (fun x_34 ex_34 => ?_)
      obtain rfl : x_34 = (ta 6) := ex_34
      refine lv_iconst (v := 1) hx hb dX3_forms_35 (by decide +kernel) ?_
      refine lv_iadd hx hb dX3_forms_36 ?_
      refine va_iast hx hb hK.1 hP hD hS 5 0 rfl rfl (vp_in_iff.mpr (by decide +kernel)) dX3_forms_37 (fun H locs hP hD hS => ?_)
      rw [show (upd ta (6 : Int32).toNatClampNeg ((ta 6) + 1)) = (upd ta 6 (ta 6 + 1)) from rfl] at hP hD
      have hP : va_P D vwCl (wM cI m0 mS mC mT mR mA 0 (nI L) (nI C) (nI rl) (nI bg) (nI st) k0 (zb on) (nI tp) (nI tl) (zb tb) sg ch tr rc (upd ta 6 (ta 6 + 1))) H := hP
      have hD : va_D A (wM cI m0 mS mC mT mR mA 0 (nI L) (nI C) (nI rl) (nI bg) (nI st) k0 (zb on) (nI tp) (nI tl) (zb tb) sg ch tr rc (upd ta 6 (ta 6 + 1))) := hD
      refine lv_aload_n hx hb dX3_forms_38 rfl (lv_at hl 0 rfl) ?_
      refine callQv (va_runV (As := []) (rest := []) ⟨hx, hb, hml, hown, hts⟩ (c_X3_pass l) (cwV 0 hts gX3_forms_X3_pass rfl rfl rfl (by decide +kernel) ⟨(Nat.le_of_ble_eq_true rfl), (Nat.le_of_ble_eq_true rfl)⟩) (mu_pre hK hP hD rfl 0 rfl) rfl rfl hl.1 rfl (lv_room (Nat.le_of_ble_eq_true rfl)) dX3_forms_39 ⟨(Nat.le_of_ble_eq_true rfl), (Nat.le_of_ble_eq_true rfl)⟩) hD hS hA (fun u_39 H locs w_39 hP hD hS => ?_)
      have hP : va_P D vwCl (wM cI m0 mS mC mT mR mA 0 (nI L) (nI C) (nI rl) (nI bg) (nI 0) k0 (zb false) (nI tp) (nI tl) (zb tb) sg ch tr rc (upd ta 6 (ta 6 + 1))) H := hP
      have hD : va_D A (wM cI m0 mS mC mT mR mA 0 (nI L) (nI C) (nI rl) (nI bg) (nI 0) k0 (zb false) (nI tp) (nI tl) (zb tb) sg ch tr rc (upd ta 6 (ta 6 + 1))) := hD
      refine lv_iconst (v := 2) hx hb dX3_forms_42 (by decide +kernel) ?_
      exact W.iret (v := 2) hx hb hr (fun t ht hW => ⟨⟨_, (k0, upd ta 6 (ta 6 + 1), false, 0), rfl, ⟨by rw [fmR, if_pos c_6, if_neg c_17], by rw [fmD, if_pos c_6, if_neg c_17]; rfl⟩, by rw [ht]; exact hP, hD⟩, hS.F ht⟩) hS.2.2 dX3_forms_43
    ·
      refine lv_iconst (v := 1) hx hb dX3_forms_20 (by decide +kernel) ?_
      exact W.iret (v := 1) hx hb hr (fun t ht hW => ⟨⟨_, (mk, ta, on, st), rfl, ⟨by rw [fmR, if_pos c_6, if_pos c_17], by rw [fmD, if_pos c_6, if_pos c_17]; rfl⟩, by rw [ht]; exact hP, hD⟩, hS.F ht⟩) hS.2.2 dX3_forms_21
  ·
    refine lv_bipush (v := (-2)) hx hb dX3_forms_9 (by decide +kernel) ?_
    exact W.iret (v := (-2)) hx hb hr (fun t ht hW => ⟨⟨_, (mk, ta, on, st), rfl, ⟨by rw [fmR, if_neg c_6], by rw [fmD, if_neg c_6]; rfl⟩, by rw [ht]; exact hP, hD⟩, hS.F ht⟩) hS.2.2 dX3_forms_11

set_option maxHeartbeats 1000000 in
set_option maxRecDepth 100000 in
theorem c_X3_tally (l : Launch) {D : va_G} {cI cP cR cJ : ClassId} {m0 mS mC mT mR mA L C rl bg st tp tl : Nat} {on tb : Bool} {th mk : Int32} {sg ch tr rc ta : Nat → Int32} {sz : Nat} (w0 : Int32) : Met l yX3_tally wsX3_tally ({ frames := 0, cells := 0, slots := 0, locals := 0 }) (mu [.ref m0, .int w0] D cI cP cR cJ (wM cI m0 mS mC mT mR mA th (nI L) (nI C) (nI rl) (nI bg) (nI st) mk (zb on) (nI tp) (nI tl) (zb tb) sg ch tr rc ta) sz) (qi D (fun (r : Int32) (_ : Unit) => r = tlR bg st (ta 2) (ta 3) (ta 4) (ta 5) (ta 6) rl w0) (fun _ : Unit => wM cI m0 mS mC mT mR mA 0 (nI L) (nI C) (nI rl) (nI bg) (nI st) mk (zb on) (nI tp) (nI tl) (zb tb) sg ch tr rc ta) (va_A (wM cI m0 mS mC mT mR mA th (nI L) (nI C) (nI rl) (nI bg) (nI st) mk (zb on) (nI tp) (nI tl) (zb tb) sg ch tr rc ta) sz)) 0 0 (va_A (wM cI m0 mS mC mT mR mA th (nI L) (nI C) (nI rl) (nI bg) (nI st) mk (zb on) (nI tp) (nI tl) (zb tb) sg ch tr rc ta) sz) := by
  refine Met.ofW (cc := cX3_tally) (maxL := 2) (ret := (some .int)) (by decide) rfl ?_
  intro p e s m args below meth c s₁ B hml hv
  obtain ⟨rfl, hsz, hP, hK, hD0⟩ := hv
  have hx := B.exec
  have hb := B.bytes
  have hr := B.returns
  have hts := atoms_spec (ws := wsX3_tally) B.pre
  have hown : s.vm.findClass RX3 = some m.cls := findClass_of_methodNamed B.named
  have hlocks := B.notSynchronized
  have hinX3 : ∀ w ∈ wsX30, w ∈ wsX3_tally := by decide +kernel
  subst hsz
  have hD := hD0.self (sz := s.heap.size)
  generalize hAe : va_A (wM cI m0 mS mC mT mR mA th (nI L) (nI C) (nI rl) (nI bg) (nI st) mk (zb on) (nI tp) (nI tl) (zb tb) sg ch tr rc ta) s.heap.size = A at hD ⊢
  have hA : ∀ q : Nat, s.heap.size ≤ q → A q := fun q h => by rw [← hAe]; exact Or.inr h
  have hS : va_S A s.heap s.heap [] := va_S.rf
  have hP : va_P D vwCl (wM cI m0 mS mC mT mR mA th (nI L) (nI C) (nI rl) (nI bg) (nI st) mk (zb on) (nI tp) (nI tl) (zb tb) sg ch tr rc ta) s.heap := hP
  have hl := lv_entry ([.ref m0, .int w0]) (n := 2) (Nat.le_of_ble_eq_true rfl)
  rw [lg_entry_eq]
  generalize (lg_sl ([.ref m0, .int w0]) ++ List.replicate (2 - (lg_sl ([.ref m0, .int w0])).length) Slot.unset).toArray = ls at hl ⊢
  have hl : lv_has ls 2 [(0, .ref m0), (1, .int w0)] := hl
  refine lv_aload_n hx hb dX3_tally_0 rfl (lv_at hl 0 rfl) ?_
  refine lv_iconst (v := 0) hx hb dX3_tally_1 (by decide +kernel) ?_
  refine va_put (D := D) (ci := 4) (v := .int 0) (ty := .int) (C := RX3) (T := TX3) (N := 16) hx hb hts hinX3 tyX3 tyX3_ok nmX3 hown hK.1 hP hD hS 0 rfl rfl 0 (by decide) (hts (.fieldLink RX3 33 "PrinterRowsModel" "thrown" "I") (by decide +kernel)) (fun _ h9 => h9) rfl (by decide +kernel) rfl rfl (Nat.le_of_ble_eq_true rfl) dX3_tally_2 (fun H locs hP hD hS => ?_)
  have hP : va_P D vwCl (wM cI m0 mS mC mT mR mA 0 (nI L) (nI C) (nI rl) (nI bg) (nI st) mk (zb on) (nI tp) (nI tl) (zb tb) sg ch tr rc ta) H := hP
  have hD : va_D A (wM cI m0 mS mC mT mR mA 0 (nI L) (nI C) (nI rl) (nI bg) (nI st) mk (zb on) (nI tp) (nI tl) (zb tb) sg ch tr rc ta) := hD
  refine lv_iload_n hx hb dX3_tally_5 rfl (lv_at hl 1 rfl) ?_
  by_cases k_0 : w0 = 0
  ·
    refine lv_tableIn (off := 46) (tgt := 52) hx hb dX3_tally_6 (by rw [k_0]; decide +kernel) (by rw [k_0]; decide +kernel) (by rw [k_0]; decide +kernel) (by decide) ?_
    refine lv_aload_n hx hb dX3_tally_52 rfl (lv_at hl 0 rfl) ?_
    refine va_get (D := D) (ci := 4) (v := .int (nI bg)) (C := RX3) (T := TX3) (N := 16) hx hb hts hinX3 hown hK.1 hP 0 rfl rfl 9 (by decide) (hts (.fieldLink RX3 39 "PrinterRowsModel" "pages" "I") (by decide +kernel)) (fun _ h9 => h9) rfl dX3_tally_53 ?_
    exact W.iret (v := (nI bg)) hx hb hr (fun t ht hW => ⟨⟨_, (), rfl, by rw [tlR, if_pos k_0], by rw [ht]; exact hP, hD⟩, hS.F ht⟩) hS.2.2 dX3_tally_56
  by_cases k_1 : w0 = 1
  ·
    refine lv_tableIn (off := 51) (tgt := 57) hx hb dX3_tally_6 (by rw [k_1]; decide +kernel) (by rw [k_1]; decide +kernel) (by rw [k_1]; decide +kernel) (by decide) ?_
    refine lv_aload_n hx hb dX3_tally_57 rfl (lv_at hl 0 rfl) ?_
    refine va_get (D := D) (ci := 4) (v := .int (nI st)) (C := RX3) (T := TX3) (N := 16) hx hb hts hinX3 hown hK.1 hP 0 rfl rfl 10 (by decide) (hts (.fieldLink RX3 45 "PrinterRowsModel" "at" "I") (by decide +kernel)) (fun _ h9 => h9) rfl dX3_tally_58 ?_
    exact W.iret (v := (nI st)) hx hb hr (fun t ht hW => ⟨⟨_, (), rfl, by rw [tlR, if_neg k_0, if_pos k_1], by rw [ht]; exact hP, hD⟩, hS.F ht⟩) hS.2.2 dX3_tally_61
  by_cases k_2 : w0 = 2
  ·
    refine lv_tableIn (off := 56) (tgt := 62) hx hb dX3_tally_6 (by rw [k_2]; decide +kernel) (by rw [k_2]; decide +kernel) (by rw [k_2]; decide +kernel) (by decide) ?_
    refine lv_aload_n hx hb dX3_tally_62 rfl (lv_at hl 0 rfl) ?_
    refine va_get (D := D) (ci := 4) (v := .ref mA) (C := RX3) (T := TX3) (N := 16) hx hb hts hinX3 hown hK.1 hP 0 rfl rfl 7 (by decide) (hts (.fieldLink RX3 23 "PrinterRowsModel" "tallies" "[I") (by decide +kernel)) (fun _ h9 => h9) rfl dX3_tally_63 ?_
    refine lv_iload_n hx hb dX3_tally_66 rfl (lv_at hl 1 rfl) ?_
    refine va_iald hx hb hK.1 hP 5 0 rfl rfl (by rw [k_2, vp_in_iff]; decide +kernel) dX3_tally_67 ?_
    refine lv_topi (fun x_67 ex_67 => ?_)
    obtain rfl : x_67 = ta 2 := ex_67.trans (by rw [k_2]; rfl)
    exact W.iret (v := (ta 2)) hx hb hr (fun t ht hW => ⟨⟨_, (), rfl, by rw [tlR, if_neg k_0, if_neg k_1, if_pos k_2], by rw [ht]; exact hP, hD⟩, hS.F ht⟩) hS.2.2 dX3_tally_68
  by_cases k_3 : w0 = 3
  ·
    refine lv_tableIn (off := 56) (tgt := 62) hx hb dX3_tally_6 (by rw [k_3]; decide +kernel) (by rw [k_3]; decide +kernel) (by rw [k_3]; decide +kernel) (by decide) ?_
    refine lv_aload_n hx hb dX3_tally_62 rfl (lv_at hl 0 rfl) ?_
    refine va_get (D := D) (ci := 4) (v := .ref mA) (C := RX3) (T := TX3) (N := 16) hx hb hts hinX3 hown hK.1 hP 0 rfl rfl 7 (by decide) (hts (.fieldLink RX3 23 "PrinterRowsModel" "tallies" "[I") (by decide +kernel)) (fun _ h9 => h9) rfl dX3_tally_63 ?_
    refine lv_iload_n hx hb dX3_tally_66 rfl (lv_at hl 1 rfl) ?_
    refine va_iald hx hb hK.1 hP 5 0 rfl rfl (by rw [k_3, vp_in_iff]; decide +kernel) dX3_tally_67 ?_
    refine lv_topi (fun x_67 ex_67 => ?_)
    obtain rfl : x_67 = ta 3 := ex_67.trans (by rw [k_3]; rfl)
    exact W.iret (v := (ta 3)) hx hb hr (fun t ht hW => ⟨⟨_, (), rfl, by rw [tlR, if_neg k_0, if_neg k_1, if_neg k_2, if_pos k_3], by rw [ht]; exact hP, hD⟩, hS.F ht⟩) hS.2.2 dX3_tally_68
  by_cases k_4 : w0 = 4
  ·
    refine lv_tableIn (off := 56) (tgt := 62) hx hb dX3_tally_6 (by rw [k_4]; decide +kernel) (by rw [k_4]; decide +kernel) (by rw [k_4]; decide +kernel) (by decide) ?_
    refine lv_aload_n hx hb dX3_tally_62 rfl (lv_at hl 0 rfl) ?_
    refine va_get (D := D) (ci := 4) (v := .ref mA) (C := RX3) (T := TX3) (N := 16) hx hb hts hinX3 hown hK.1 hP 0 rfl rfl 7 (by decide) (hts (.fieldLink RX3 23 "PrinterRowsModel" "tallies" "[I") (by decide +kernel)) (fun _ h9 => h9) rfl dX3_tally_63 ?_
    refine lv_iload_n hx hb dX3_tally_66 rfl (lv_at hl 1 rfl) ?_
    refine va_iald hx hb hK.1 hP 5 0 rfl rfl (by rw [k_4, vp_in_iff]; decide +kernel) dX3_tally_67 ?_
    refine lv_topi (fun x_67 ex_67 => ?_)
    obtain rfl : x_67 = ta 4 := ex_67.trans (by rw [k_4]; rfl)
    exact W.iret (v := (ta 4)) hx hb hr (fun t ht hW => ⟨⟨_, (), rfl, by rw [tlR, if_neg k_0, if_neg k_1, if_neg k_2, if_neg k_3, if_pos k_4], by rw [ht]; exact hP, hD⟩, hS.F ht⟩) hS.2.2 dX3_tally_68
  by_cases k_5 : w0 = 5
  ·
    refine lv_tableIn (off := 56) (tgt := 62) hx hb dX3_tally_6 (by rw [k_5]; decide +kernel) (by rw [k_5]; decide +kernel) (by rw [k_5]; decide +kernel) (by decide) ?_
    refine lv_aload_n hx hb dX3_tally_62 rfl (lv_at hl 0 rfl) ?_
    refine va_get (D := D) (ci := 4) (v := .ref mA) (C := RX3) (T := TX3) (N := 16) hx hb hts hinX3 hown hK.1 hP 0 rfl rfl 7 (by decide) (hts (.fieldLink RX3 23 "PrinterRowsModel" "tallies" "[I") (by decide +kernel)) (fun _ h9 => h9) rfl dX3_tally_63 ?_
    refine lv_iload_n hx hb dX3_tally_66 rfl (lv_at hl 1 rfl) ?_
    refine va_iald hx hb hK.1 hP 5 0 rfl rfl (by rw [k_5, vp_in_iff]; decide +kernel) dX3_tally_67 ?_
    refine lv_topi (fun x_67 ex_67 => ?_)
    obtain rfl : x_67 = ta 5 := ex_67.trans (by rw [k_5]; rfl)
    exact W.iret (v := (ta 5)) hx hb hr (fun t ht hW => ⟨⟨_, (), rfl, by rw [tlR, if_neg k_0, if_neg k_1, if_neg k_2, if_neg k_3, if_neg k_4, if_pos k_5], by rw [ht]; exact hP, hD⟩, hS.F ht⟩) hS.2.2 dX3_tally_68
  by_cases k_6 : w0 = 6
  ·
    refine lv_tableIn (off := 56) (tgt := 62) hx hb dX3_tally_6 (by rw [k_6]; decide +kernel) (by rw [k_6]; decide +kernel) (by rw [k_6]; decide +kernel) (by decide) ?_
    refine lv_aload_n hx hb dX3_tally_62 rfl (lv_at hl 0 rfl) ?_
    refine va_get (D := D) (ci := 4) (v := .ref mA) (C := RX3) (T := TX3) (N := 16) hx hb hts hinX3 hown hK.1 hP 0 rfl rfl 7 (by decide) (hts (.fieldLink RX3 23 "PrinterRowsModel" "tallies" "[I") (by decide +kernel)) (fun _ h9 => h9) rfl dX3_tally_63 ?_
    refine lv_iload_n hx hb dX3_tally_66 rfl (lv_at hl 1 rfl) ?_
    refine va_iald hx hb hK.1 hP 5 0 rfl rfl (by rw [k_6, vp_in_iff]; decide +kernel) dX3_tally_67 ?_
    refine lv_topi (fun x_67 ex_67 => ?_)
    obtain rfl : x_67 = ta 6 := ex_67.trans (by rw [k_6]; rfl)
    exact W.iret (v := (ta 6)) hx hb hr (fun t ht hW => ⟨⟨_, (), rfl, by rw [tlR, if_neg k_0, if_neg k_1, if_neg k_2, if_neg k_3, if_neg k_4, if_neg k_5, if_pos k_6], by rw [ht]; exact hP, hD⟩, hS.F ht⟩) hS.2.2 dX3_tally_68
  by_cases k_7 : w0 = 7
  ·
    refine lv_tableIn (off := 63) (tgt := 69) hx hb dX3_tally_6 (by rw [k_7]; decide +kernel) (by rw [k_7]; decide +kernel) (by rw [k_7]; decide +kernel) (by decide) ?_
    refine lv_aload_n hx hb dX3_tally_69 rfl (lv_at hl 0 rfl) ?_
    refine va_get (D := D) (ci := 4) (v := .int (nI rl)) (C := RX3) (T := TX3) (N := 16) hx hb hts hinX3 hown hK.1 hP 0 rfl rfl 8 (by decide) (hts (.fieldLink RX3 36 "PrinterRowsModel" "length" "I") (by decide +kernel)) (fun _ h9 => h9) rfl dX3_tally_70 ?_
    exact W.iret (v := (nI rl)) hx hb hr (fun t ht hW => ⟨⟨_, (), rfl, by rw [tlR, if_neg k_0, if_neg k_1, if_neg k_2, if_neg k_3, if_neg k_4, if_neg k_5, if_neg k_6, if_pos k_7], by rw [ht]; exact hP, hD⟩, hS.F ht⟩) hS.2.2 dX3_tally_73
  refine lv_tableOut (tgt := 74) hx hb dX3_tally_6 (by have q_k_0 := lv_neT (a := 0) k_0 (by decide +kernel); have q_k_1 := lv_neT (a := 1) k_1 (by decide +kernel); have q_k_2 := lv_neT (a := 2) k_2 (by decide +kernel); have q_k_3 := lv_neT (a := 3) k_3 (by decide +kernel); have q_k_4 := lv_neT (a := 4) k_4 (by decide +kernel); have q_k_5 := lv_neT (a := 5) k_5 (by decide +kernel); have q_k_6 := lv_neT (a := 6) k_6 (by decide +kernel); have q_k_7 := lv_neT (a := 7) k_7 (by decide +kernel); omega) (by decide) ?_
  refine lv_iconst (v := (-1)) hx hb dX3_tally_74 (by decide +kernel) ?_
  exact W.iret (v := (-1)) hx hb hr (fun t ht hW => ⟨⟨_, (), rfl, by rw [tlR, if_neg k_0, if_neg k_1, if_neg k_2, if_neg k_3, if_neg k_4, if_neg k_5, if_neg k_6, if_neg k_7], by rw [ht]; exact hP, hD⟩, hS.F ht⟩) hS.2.2 dX3_tally_75
end
section
/-! the reference: skip and line -/
theorem upd_id {f : Nat → Int32} {k : Nat} {x : Int32} (h : f k = x) : upd f k x = f := by
  funext j
  unfold upd
  by_cases e : j = k
  · rw [if_pos e, e, h]
  · rw [if_neg e]
theorem isSk_iff {c : Int32} : isSk c = true ↔ (256 ≤ c.toInt ∧ c.toInt ≤ 259) ∨ (273 ≤ c.toInt ∧ c.toInt ≤ 284) := by
  have e256 : (256 : Int32).toInt = 256 := rfl
  have e259 : (259 : Int32).toInt = 259 := rfl
  have e272 : (272 : Int32).toInt = 272 := rfl
  have hc := i32 c
  have hp : isPl c = true ↔ 256 ≤ c.toInt ∧ c.toInt ≤ 259 := by
    unfold isPl
    by_cases h1 : c < 256
    · rw [if_pos h1]; have := i32_lt.mp h1; exact ⟨fun h => (by cases h), fun h => (by omega)⟩
    · rw [if_neg h1]
      have h1' := i32_nlt h1
      by_cases h2 : 259 < c
      · rw [if_pos h2]; have := i32_lt.mp h2; exact ⟨fun h => (by cases h), fun h => (by omega)⟩
      · rw [if_neg h2]; have h2' := i32_nlt h2; exact ⟨fun _ => by omega, fun _ => rfl⟩
  have hh : isCh (c - 272) = true ↔ 273 ≤ c.toInt ∧ c.toInt ≤ 284 := by
    rw [isCh_iff]
    have h9 := i32 (c - 272)
    constructor <;> intro h <;> rcases i32_sub c 272 with e | e | e <;> rw [e272] at e <;> omega
  unfold isSk
  by_cases q : zb (isPl c) = 0
  · rw [if_pos q, hh]
    have q2 : ¬ (256 ≤ c.toInt ∧ c.toInt ≤ 259) := fun z => by have := hp.mpr z; rw [zb0.mp q] at this; cases this
    exact ⟨fun h => Or.inr h, fun h => h.elim (fun z => absurd z q2) id⟩
  · rw [if_neg q]
    exact ⟨fun _ => Or.inl (hp.mp (zb1.mp q)), fun _ => rfl⟩
theorem isPl_iff {c : Int32} : isPl c = true ↔ 256 ≤ c.toInt ∧ c.toInt ≤ 259 := by
  have e256 : (256 : Int32).toInt = 256 := rfl
  have e259 : (259 : Int32).toInt = 259 := rfl
  unfold isPl
  by_cases h1 : c < 256
  · rw [if_pos h1]; have := i32_lt.mp h1; exact ⟨fun h => (by cases h), fun h => (by omega)⟩
  · rw [if_neg h1]
    have h1' := i32_nlt h1
    by_cases h2 : 259 < c
    · rw [if_pos h2]; have := i32_lt.mp h2; exact ⟨fun h => (by cases h), fun h => (by omega)⟩
    · rw [if_neg h2]; have h2' := i32_nlt h2; exact ⟨fun _ => by omega, fun _ => rfl⟩
theorem isSk_no {c : Int32} (h : ¬ ((256 ≤ c.toInt ∧ c.toInt ≤ 259) ∨ (273 ≤ c.toInt ∧ c.toInt ≤ 284))) : isSk c = false := by
  cases h9 : isSk c with
  | false => rfl
  | true => exact absurd (isSk_iff.mp h9) h
theorem isSk_first {c : Int32} (h : isSk c = false) : zb (isPl c) = 0 ∧ ¬ (273 ≤ c.toInt ∧ c.toInt ≤ 284) := by
  refine ⟨?_, fun z => by rw [isSk_iff.mpr (Or.inr z)] at h; cases h⟩
  cases h9 : isPl c with
  | false => rfl
  | true => rw [isSk_iff.mpr (Or.inl (isPl_iff.mp h9))] at h; cases h
theorem coN_le {c : Int32} (h : coN c ≤ 0) : zb (isCh (chOf c)) = 0 := by
  by_cases q : zb (isCh (chOf c)) = 0
  · exact q
  · exfalso
    have h1 := isCh_iff.mp (zb1.mp q)
    unfold coN at h
    rw [if_neg q, i32_le] at h
    have : (0 : Int32).toInt = 0 := rfl
    omega
theorem coN_gt {c : Int32} (h : ¬ coN c ≤ 0) : ¬ zb (isCh (chOf c)) = 0 ∧ coN c = chOf c := by
  by_cases q : zb (isCh (chOf c)) = 0
  · exfalso
    unfold coN at h
    rw [if_pos q] at h
    exact h (by decide)
  · exact ⟨q, by unfold coN; rw [if_neg q]⟩
theorem bgB_pos {bg : Nat} {on : Bool} (h : on = true → 0 < bg) : 0 < bgB bg on := by
  cases on
  · exact Nat.succ_pos _
  · exact h rfl
theorem bgB_ge (bg : Nat) (on : Bool) : bg ≤ bgB bg on := by
  cases on
  · exact Nat.le_succ _
  · exact Nat.le_refl _
theorem bgB_up (bg : Nat) (on : Bool) : bgB bg on ≤ bg + 1 := by
  cases on
  · exact Nat.le_refl _
  · exact Nat.le_succ _

set_option maxHeartbeats 1000000 in
set_option maxRecDepth 100000 in
theorem c_X3_skip (l : Launch) {D : va_G} {cI cP cR cJ : ClassId} {m0 mS mC mT mR mA L C rl bg st tp tl : Nat} {on tb : Bool} {th mk : Int32} {sg ch tr rc ta : Nat → Int32} {sz : Nat} (hL0 : 0 < L) (hL : L ≤ 66) (hC : C ≤ 132) (hst : st < L) (hbg : bg ≤ 40) (hon : on = true → 0 < bg) (hch : ∀ k, 1 ≤ k → k ≤ 12 → chOK L (ch k)) (c0 : Int32) : Met l yX3_skip wsX3_skip ({ frames := 1, cells := 0, slots := 0, locals := 22 }) (mu [.ref m0, .int c0] D cI cP cR cJ (wM cI m0 mS mC mT mR mA th (nI L) (nI C) (nI rl) (nI bg) (nI st) mk (zb on) (nI tp) (nI tl) (zb tb) sg ch tr rc ta) sz) (qi D (fun (r : Int32) (u : (Nat → Int32) × (Nat → Int32) × (Nat × Nat × Bool) × (Nat × Nat × Bool)) => r = skR L st ch bg on c0 ∧ u.2.2.1 = (if skO L st ch bg on c0 then skT L st ch bg on c0 else (bg, st, on)) ∧ u.2.1 = (if skO L st ch bg on c0 then upd ta 5 (skN ch (ta 5) c0) else ta) ∧ u.1 = (if skO L st ch bg on c0 then stG bg (skT L st ch bg on c0).1 sg else sg)) (fun u : (Nat → Int32) × (Nat → Int32) × (Nat × Nat × Bool) × (Nat × Nat × Bool) => wM cI m0 mS mC mT mR mA 0 (nI L) (nI C) (nI rl) (nI u.2.2.1.1) (nI u.2.2.1.2.1) mk (zb u.2.2.1.2.2) (nI u.2.2.2.1) (nI u.2.2.2.2.1) (zb u.2.2.2.2.2) u.1 ch tr rc u.2.1) (va_A (wM cI m0 mS mC mT mR mA th (nI L) (nI C) (nI rl) (nI bg) (nI st) mk (zb on) (nI tp) (nI tl) (zb tb) sg ch tr rc ta) sz)) 0 0 (va_A (wM cI m0 mS mC mT mR mA th (nI L) (nI C) (nI rl) (nI bg) (nI st) mk (zb on) (nI tp) (nI tl) (zb tb) sg ch tr rc ta) sz) := by
  refine Met.ofW (cc := cX3_skip) (maxL := 3) (ret := (some .int)) (by decide) rfl ?_
  intro p e s m args below meth c s₁ B hml hv
  obtain ⟨rfl, hsz, hP, hK, hD0⟩ := hv
  have hx := B.exec
  have hb := B.bytes
  have hr := B.returns
  have hts := atoms_spec (ws := wsX3_skip) B.pre
  have hown : s.vm.findClass RX3 = some m.cls := findClass_of_methodNamed B.named
  have hlocks := B.notSynchronized
  have hinX3 : ∀ w ∈ wsX30, w ∈ wsX3_skip := by decide +kernel
  subst hsz
  have hD := hD0.self (sz := s.heap.size)
  generalize hAe : va_A (wM cI m0 mS mC mT mR mA th (nI L) (nI C) (nI rl) (nI bg) (nI st) mk (zb on) (nI tp) (nI tl) (zb tb) sg ch tr rc ta) s.heap.size = A at hD ⊢
  have hA : ∀ q : Nat, s.heap.size ≤ q → A q := fun q h => by rw [← hAe]; exact Or.inr h
  have hS : va_S A s.heap s.heap [] := va_S.rf
  have hP : va_P D vwCl (wM cI m0 mS mC mT mR mA th (nI L) (nI C) (nI rl) (nI bg) (nI st) mk (zb on) (nI tp) (nI tl) (zb tb) sg ch tr rc ta) s.heap := hP
  have hl := lv_entry ([.ref m0, .int c0]) (n := 3) (Nat.le_of_ble_eq_true rfl)
  rw [lg_entry_eq]
  generalize (lg_sl ([.ref m0, .int c0]) ++ List.replicate (3 - (lg_sl ([.ref m0, .int c0])).length) Slot.unset).toArray = ls at hl ⊢
  have hl : lv_has ls 3 [(0, .ref m0), (1, .int c0)] := hl
  refine lv_aload_n hx hb dX3_skip_0 rfl (lv_at hl 0 rfl) ?_
  refine lv_iconst (v := 0) hx hb dX3_skip_1 (by decide +kernel) ?_
  refine va_put (D := D) (ci := 4) (v := .int 0) (ty := .int) (C := RX3) (T := TX3) (N := 16) hx hb hts hinX3 tyX3 tyX3_ok nmX3 hown hK.1 hP hD hS 0 rfl rfl 0 (by decide) (hts (.fieldLink RX3 33 "PrinterRowsModel" "thrown" "I") (by decide +kernel)) (fun _ h9 => h9) rfl (by decide +kernel) rfl rfl (Nat.le_of_ble_eq_true rfl) dX3_skip_2 (fun H locs hP hD hS => ?_)
  have hP : va_P D vwCl (wM cI m0 mS mC mT mR mA 0 (nI L) (nI C) (nI rl) (nI bg) (nI st) mk (zb on) (nI tp) (nI tl) (zb tb) sg ch tr rc ta) H := hP
  have hD : va_D A (wM cI m0 mS mC mT mR mA 0 (nI L) (nI C) (nI rl) (nI bg) (nI st) mk (zb on) (nI tp) (nI tl) (zb tb) sg ch tr rc ta) := hD
  refine lv_iload_n hx hb dX3_skip_5 rfl (lv_at hl 1 rfl) ?_
  refine lv_iconst (v := 1) hx hb dX3_skip_6 (by decide +kernel) ?_
  refine lv_icmp_lt (tgt := 16) hx hb dX3_skip_7 (by decide) (fun c_7 => ?_) (fun c_7 => ?_)
  ·
    refine lv_iconst (v := 0) hx hb dX3_skip_16 (by decide +kernel) ?_
    exact W.iret (v := 0) hx hb hr (fun t ht hW => ⟨⟨_, (sg, ta, (bg, st, on), (tp, tl, tb)), rfl, ⟨by rw [skR, isCh, if_pos c_7]; rfl, by rw [skO, isCh, if_pos c_7]; rfl, by rw [skO, isCh, if_pos c_7]; rfl, by rw [skO, isCh, if_pos c_7]; rfl⟩, by rw [ht]; exact hP, hD⟩, hS.F ht⟩) hS.2.2 dX3_skip_17
  ·
    refine lv_iload_n hx hb dX3_skip_10 rfl (lv_at hl 1 rfl) ?_
    refine lv_bipush (v := 12) hx hb dX3_skip_11 (by decide +kernel) ?_
    refine lv_icmp_le (tgt := 18) hx hb dX3_skip_13 (by decide) (fun c_13 => ?_) (fun c_13 => ?_)
    ·
      have hic : ¬ zb (isCh c0) = 0 := by rw [isCh, if_neg c_7, if_neg (fun h9 => by have h8 := i32_lt.mp h9; have h7 := i32_le.mp c_13; omega)]; decide
      have hwl : (wyN L st (ch c0.toNatClampNeg)) ≤ 66 := by
        obtain ⟨k9, h7, h8, h9⟩ := isCh_nI (zb1.mp hic)
        rw [h9, nI_clamp (by omega)]
        exact Nat.le_trans (wyN_le hst hL (hch k9 h7 h8)) hL
      refine lv_aload_n hx hb dX3_skip_18 rfl (lv_at hl 0 rfl) ?_
      refine callQv (va_runV (As := []) (rest := []) ⟨hx, hb, hml, hown, hts⟩ (c_X3_tries l) (cwV 0 hts gX3_skip_X3_tries rfl rfl rfl (by decide +kernel) ⟨(Nat.le_of_ble_eq_true rfl), (Nat.le_of_ble_eq_true rfl)⟩) (mu_pre hK hP hD rfl 0 rfl) rfl rfl hl.1 rfl (lv_room (Nat.le_of_ble_eq_true rfl)) dX3_skip_19 ⟨(Nat.le_of_ble_eq_true rfl), (Nat.le_of_ble_eq_true rfl)⟩) hD hS hA (fun u_19 H locs w_19 hP hD hS => ?_)
      have hP : va_P D vwCl (wM cI m0 mS mC mT mR mA 0 (nI L) (nI C) (nI rl) (nI bg) (nI st) mk (zb on) (nI bg) (nI st) (zb on) sg ch tr rc ta) H := hP
      have hD : va_D A (wM cI m0 mS mC mT mR mA 0 (nI L) (nI C) (nI rl) (nI bg) (nI st) mk (zb on) (nI bg) (nI st) (zb on) sg ch tr rc ta) := hD
      refine lv_aload_n hx hb dX3_skip_22 rfl (lv_at hl 0 rfl) ?_
      refine lv_iload_n hx hb dX3_skip_23 rfl (lv_at hl 1 rfl) ?_
      refine vp_callSi (W.runV (As := [.int c0]) (rest := []) ⟨hx, hb, hml, hown, hts⟩ (c_X3_wayI l hL0 hL hst hch c0 (zb1.mp hic)) (cwV 1 hts gX3_skip_X3_way rfl rfl rfl (by decide +kernel) ⟨(Nat.le_of_ble_eq_true rfl), (Nat.le_of_ble_eq_true rfl)⟩) (ro_pre hK hP rfl 0 rfl) rfl rfl hl.1 rfl (lv_room (Nat.le_of_ble_eq_true rfl)) dX3_skip_24 ⟨(Nat.le_of_ble_eq_true rfl), (Nat.le_of_ble_eq_true rfl)⟩) (fun r_24 w_24 => ?_)
      subst w_24
      refine lv_istore_n (lv' := [(2, .int (nI (wyN L st (ch c0.toNatClampNeg)))), (0, .ref m0), (1, .int c0)]) hx hb dX3_skip_27 rfl hl (by decide) rfl (fun ls hl => ?_)
      refine lv_aload_n hx hb dX3_skip_28 rfl (lv_at hl 1 rfl) ?_
      refine lv_iload_n hx hb dX3_skip_29 rfl (lv_at hl 0 rfl) ?_
      refine callQv (va_runV (As := [.int (nI (wyN L st (ch c0.toNatClampNeg)))]) (rest := []) ⟨hx, hb, hml, hown, hts⟩ (c_X3_move l hL0 hL hst (by omega) (wyN L st (ch c0.toNatClampNeg)) hwl) (cwV 1 hts gX3_skip_X3_move rfl rfl rfl (by decide +kernel) ⟨(Nat.le_of_ble_eq_true rfl), (Nat.le_of_ble_eq_true rfl)⟩) (mu_pre hK hP hD rfl 0 rfl) rfl rfl hl.1 rfl (lv_room (Nat.le_of_ble_eq_true rfl)) dX3_skip_30 ⟨(Nat.le_of_ble_eq_true rfl), (Nat.le_of_ble_eq_true rfl)⟩) hD hS hA (fun u_30 H locs w_30 hP hD hS => ?_)
      obtain ⟨t1, t2, t3⟩ := u_30
      have hT : (t1, t2, t3) = skT L st ch bg on c0 := w_30
      have hP : va_P D vwCl (wM cI m0 mS mC mT mR mA 0 (nI L) (nI C) (nI rl) (nI bg) (nI st) mk (zb on) (nI t1) (nI t2) (zb t3) sg ch tr rc ta) H := hP
      have hD : va_D A (wM cI m0 mS mC mT mR mA 0 (nI L) (nI C) (nI rl) (nI bg) (nI st) mk (zb on) (nI t1) (nI t2) (zb t3) sg ch tr rc ta) := hD
      have hT1 : (skT L st ch bg on c0).1 = t1 := by rw [← hT]
      have ht1 : bg ≤ t1 ∧ t1 ≤ 106 := by
        have h8 := mvn_le (L := L) (Nat.zero_le (wyN L st (ch c0.toNatClampNeg))) (bg, st, on)
        have h9 := mvn_up (L := L) (wyN L st (ch c0.toNatClampNeg)) (bg, st, on)
        rw [show mvn L (wyN L st (ch c0.toNatClampNeg)) (bg, st, on) = (t1, t2, t3) from hT.symm] at h8 h9
        dsimp only [mvn] at h8 h9
        omega
      refine lv_aload_n hx hb dX3_skip_33 rfl (lv_at hl 1 rfl) ?_
      refine va_get (D := D) (ci := 4) (v := .int (nI t1)) (C := RX3) (T := TX3) (N := 16) hx hb hts hinX3 hown hK.1 hP 0 rfl rfl 13 (by decide) (hts (.fieldLink RX3 42 "PrinterRowsModel" "trialPages" "I") (by decide +kernel)) (fun _ h9 => h9) rfl dX3_skip_34 ?_
      refine lv_bipush (v := 40) hx hb dX3_skip_37 (by decide +kernel) ?_
      refine lv_icmp_le (tgt := 45) hx hb dX3_skip_39 (by decide) (fun c_39 => ?_) (fun c_39 => ?_)
      ·
        have hfit : t1 ≤ 40 := (nI_leI (b := 40) (by omega) (by decide)).mp c_39
        have hok : skO L st ch bg on c0 = true := by rw [skO, if_neg hic, hT1, decide_eq_true hfit]
        refine lv_aload_n hx hb dX3_skip_45 rfl (lv_at hl 1 rfl) ?_
        refine callQv (va_runV (As := []) (rest := []) ⟨hx, hb, hml, hown, hts⟩ (c_X3_settle l ht1.1 hfit) (cwV 0 hts gX3_skip_X3_settle rfl rfl rfl (by decide +kernel) ⟨(Nat.le_of_ble_eq_true rfl), (Nat.le_of_ble_eq_true rfl)⟩) (mu_pre hK hP hD rfl 0 rfl) rfl rfl hl.1 rfl (lv_room (Nat.le_of_ble_eq_true rfl)) dX3_skip_46 ⟨(Nat.le_of_ble_eq_true rfl), (Nat.le_of_ble_eq_true rfl)⟩) hD hS hA (fun u_46 H locs w_46 hP hD hS => ?_)
        subst w_46
        have hP : va_P D vwCl (wM cI m0 mS mC mT mR mA 0 (nI L) (nI C) (nI rl) (nI t1) (nI t2) mk (zb t3) (nI t1) (nI t2) (zb t3) (stG bg t1 sg) ch tr rc ta) H := hP
        have hD : va_D A (wM cI m0 mS mC mT mR mA 0 (nI L) (nI C) (nI rl) (nI t1) (nI t2) mk (zb t3) (nI t1) (nI t2) (zb t3) (stG bg t1 sg) ch tr rc ta) := hD
        refine lv_aload_n hx hb dX3_skip_49 rfl (lv_at hl 1 rfl) ?_
        refine va_get (D := D) (ci := 4) (v := .ref mC) (C := RX3) (T := TX3) (N := 16) hx hb hts hinX3 hown hK.1 hP 0 rfl rfl 4 (by decide) (hts (.fieldLink RX3 14 "PrinterRowsModel" "channels" "[I") (by decide +kernel)) (fun _ h9 => h9) rfl dX3_skip_50 ?_
        refine lv_iload_n hx hb dX3_skip_53 rfl (lv_at hl 2 rfl) ?_
        refine va_iald hx hb hK.1 hP 2 0 rfl rfl (isCh_in hic) dX3_skip_54 ?_
        refine lv_iconst (v := (-1)) hx hb dX3_skip_55 (by decide +kernel) ?_
        refine lv_icmp_eq (tgt := 61) hx hb dX3_skip_56 (by decide) (fun c_56 => ?_) (fun c_56 => ?_)
        ·
          refine lv_aload_n hx hb dX3_skip_61 rfl (lv_at hl 1 rfl) ?_
          refine va_get (D := D) (ci := 4) (v := .ref mA) (C := RX3) (T := TX3) (N := 16) hx hb hts hinX3 hown hK.1 hP 0 rfl rfl 7 (by decide) (hts (.fieldLink RX3 23 "PrinterRowsModel" "tallies" "[I") (by decide +kernel)) (fun _ h9 => h9) rfl dX3_skip_62 ?_
          refine lv_iconst (v := 5) hx hb dX3_skip_65 (by decide +kernel) ?_
          refine lv_dup2_11 hx hb dX3_skip_66 rfl rfl ?_
          refine va_iald hx hb hK.1 hP 5 0 rfl rfl (vp_in_iff.mpr (by decide +kernel)) dX3_skip_67 ?_
          refine lv_topi (fun x_67 ex_67 => ?_)
          obtain rfl : x_67 = (ta 5) := ex_67
          refine lv_iconst (v := 1) hx hb dX3_skip_68 (by decide +kernel) ?_
          refine lv_iadd hx hb dX3_skip_69 ?_
          refine va_iast hx hb hK.1 hP hD hS 5 0 rfl rfl (vp_in_iff.mpr (by decide +kernel)) dX3_skip_70 (fun H locs hP hD hS => ?_)
          rw [show (upd ta (5 : Int32).toNatClampNeg ((ta 5) + 1)) = (upd ta 5 (ta 5 + 1)) from rfl] at hP hD
          have hP : va_P D vwCl (wM cI m0 mS mC mT mR mA 0 (nI L) (nI C) (nI rl) (nI t1) (nI t2) mk (zb t3) (nI t1) (nI t2) (zb t3) (stG bg t1 sg) ch tr rc (upd ta 5 (ta 5 + 1))) H := hP
          have hD : va_D A (wM cI m0 mS mC mT mR mA 0 (nI L) (nI C) (nI rl) (nI t1) (nI t2) mk (zb t3) (nI t1) (nI t2) (zb t3) (stG bg t1 sg) ch tr rc (upd ta 5 (ta 5 + 1))) := hD
          refine lv_iconst (v := (-1)) hx hb dX3_skip_71 (by decide +kernel) ?_
          exact W.iret (v := (-1)) hx hb hr (fun t ht hW => ⟨⟨_, (stG bg t1 sg, upd ta 5 (ta 5 + 1), (t1, t2, t3), (t1, t2, t3)), rfl, ⟨by rw [skR, if_neg hic, hT1, if_pos hfit, if_neg (fun h9 => h9 c_56)], by rw [hok]; exact hT, by rw [hok, if_pos rfl, skN, if_neg hic, if_neg (fun h9 => h9 c_56)], by rw [hok, hT1]; rfl⟩, by rw [ht]; exact hP, hD⟩, hS.F ht⟩) hS.2.2 dX3_skip_72
        ·
          refine lv_iload_n hx hb dX3_skip_59 rfl (lv_at hl 0 rfl) ?_
          exact W.iret (v := (nI (wyN L st (ch c0.toNatClampNeg)))) hx hb hr (fun t ht hW => ⟨⟨_, (stG bg t1 sg, ta, (t1, t2, t3), (t1, t2, t3)), rfl, ⟨by rw [skR, if_neg hic, hT1, if_pos hfit, if_pos c_56], by rw [hok]; exact hT, by rw [hok, if_pos rfl, skN, if_neg hic, if_pos c_56, upd_id rfl], by rw [hok, hT1]; rfl⟩, by rw [ht]; exact hP, hD⟩, hS.F ht⟩) hS.2.2 dX3_skip_60
      ·
        have hfit : ¬ t1 ≤ 40 := fun h9 => c_39 (nI_le (b := 40) h9 (by decide))
        have hok : skO L st ch bg on c0 = false := by rw [skO, if_neg hic, hT1, decide_eq_false hfit]
        refine lv_bipush (v := (-6)) hx hb dX3_skip_42 (by decide +kernel) ?_
        exact W.iret (v := (-6)) hx hb hr (fun t ht hW => ⟨⟨_, (sg, ta, (bg, st, on), (t1, t2, t3)), rfl, ⟨by rw [skR, if_neg hic, hT1, if_neg hfit], by rw [hok]; rfl, by rw [hok]; rfl, by rw [hok]; rfl⟩, by rw [ht]; exact hP, hD⟩, hS.F ht⟩) hS.2.2 dX3_skip_44
    ·
      have hnc : zb (isCh c0) = 0 := by rw [isCh, if_neg c_7, if_pos (i32_lt.mpr (by have := i32_nle c_13; omega))]; rfl
      refine lv_iconst (v := 0) hx hb dX3_skip_16 (by decide +kernel) ?_
      exact W.iret (v := 0) hx hb hr (fun t ht hW => ⟨⟨_, (sg, ta, (bg, st, on), (tp, tl, tb)), rfl, ⟨by rw [skR, hnc]; rfl, by rw [skO, hnc]; rfl, by rw [skO, hnc]; rfl, by rw [skO, hnc]; rfl⟩, by rw [ht]; exact hP, hD⟩, hS.F ht⟩) hS.2.2 dX3_skip_17

theorem mvn_on {L : Nat} (n : Nat) (t : Nat × Nat × Bool) (h : (mvn L n t).2.2 = true) : t.2.2 = true := by
  induction n with
  | zero => exact h
  | succ n ih =>
    refine ih ?_
    have h' : (mv1 L (mvn L n t)).2.2 = true := h
    unfold mv1 at h'
    by_cases q : (mvn L n t).2.1 + 1 < L
    · rw [if_pos q] at h'; exact h'
    · rw [if_neg q] at h'; cases h'

set_option maxHeartbeats 1000000 in
set_option maxRecDepth 100000 in
theorem c_X3_line (l : Launch) {D : va_G} {cI cP cR cJ : ClassId} {m0 mS mC mT mR mA L C rl bg st tp tl : Nat} {on tb : Bool} {th mk : Int32} {sg ch tr rc ta : Nat → Int32} {sz : Nat} (hL0 : 0 < L) (hL : L ≤ 66) (hC : C ≤ 132) (hst : st < L) (hbg : bg ≤ 40) (hon : on = true → 0 < bg) (hch : ∀ k, 1 ≤ k → k ≤ 12 → chOK L (ch k)) (hrl : rl ≤ 200) (hrc : ∀ j, j < rl → isSg (rc j) = true) (c0 : Int32) (w : Nat) (hw : w = lwy L st ch c0) : Met l yX3_line wsX3_line ({ frames := 2, cells := 0, slots := 0, locals := 46 }) (mu [.ref m0, .int c0] D cI cP cR cJ (wM cI m0 mS mC mT mR mA th (nI L) (nI C) (nI rl) (nI bg) (nI st) mk (zb on) (nI tp) (nI tl) (zb tb) sg ch tr rc ta) sz) (qi D (fun (r : Int32) (u : (Nat → Int32) × (Nat → Int32) × (Nat × Nat × Bool) × Nat × (Nat × Nat × Bool)) => ((lnT L bg st on (isSk c0) w).1 ≤ 40 ∧ r = nI (lnT L bg st on (isSk c0) w).1 ∧ u.2.2.1 = (lnT L bg st on (isSk c0) w) ∧ u.2.2.2.1 = 0 ∧ u.1 = prG (8712 * lnQ L bg st on (isSk c0) w + 132 * lnI L bg st on (isSk c0) w) (min rl C) tr rc (stG bg (lnT L bg st on (isSk c0) w).1 sg) ∧ u.2.1 = upd (taP (upd ta 5 (skN ch (ta 5) (chOf c0))) (ta 3 + cS tr rc C rl) (ta 4 + cC C rl)) 2 (ta 2 + 1)) ∨ (¬ (lnT L bg st on (isSk c0) w).1 ≤ 40 ∧ r = -6 ∧ (u.1, u.2.1, u.2.2.1, u.2.2.2.1) = (sg, ta, (bg, st, on), rl))) (fun u : (Nat → Int32) × (Nat → Int32) × (Nat × Nat × Bool) × Nat × (Nat × Nat × Bool) => wM cI m0 mS mC mT mR mA 0 (nI L) (nI C) (nI u.2.2.2.1) (nI u.2.2.1.1) (nI u.2.2.1.2.1) mk (zb u.2.2.1.2.2) (nI u.2.2.2.2.1) (nI u.2.2.2.2.2.1) (zb u.2.2.2.2.2.2) u.1 ch tr rc u.2.1) (va_A (wM cI m0 mS mC mT mR mA th (nI L) (nI C) (nI rl) (nI bg) (nI st) mk (zb on) (nI tp) (nI tl) (zb tb) sg ch tr rc ta) sz)) 0 0 (va_A (wM cI m0 mS mC mT mR mA th (nI L) (nI C) (nI rl) (nI bg) (nI st) mk (zb on) (nI tp) (nI tl) (zb tb) sg ch tr rc ta) sz) := by
  refine Met.ofW (cc := cX3_line) (maxL := 6) (ret := (some .int)) (by decide) rfl ?_
  intro p e s m args below meth c s₁ B hml hv
  obtain ⟨rfl, hsz, hP, hK, hD0⟩ := hv
  have hx := B.exec
  have hb := B.bytes
  have hr := B.returns
  have hts := atoms_spec (ws := wsX3_line) B.pre
  have hown : s.vm.findClass RX3 = some m.cls := findClass_of_methodNamed B.named
  have hlocks := B.notSynchronized
  have hinX3 : ∀ w ∈ wsX30, w ∈ wsX3_line := by decide +kernel
  subst hsz
  have hD := hD0.self (sz := s.heap.size)
  generalize hAe : va_A (wM cI m0 mS mC mT mR mA th (nI L) (nI C) (nI rl) (nI bg) (nI st) mk (zb on) (nI tp) (nI tl) (zb tb) sg ch tr rc ta) s.heap.size = A at hD ⊢
  have hA : ∀ q : Nat, s.heap.size ≤ q → A q := fun q h => by rw [← hAe]; exact Or.inr h
  have hS : va_S A s.heap s.heap [] := va_S.rf
  have hP : va_P D vwCl (wM cI m0 mS mC mT mR mA th (nI L) (nI C) (nI rl) (nI bg) (nI st) mk (zb on) (nI tp) (nI tl) (zb tb) sg ch tr rc ta) s.heap := hP
  have hl := lv_entry ([.ref m0, .int c0]) (n := 6) (Nat.le_of_ble_eq_true rfl)
  rw [lg_entry_eq]
  generalize (lg_sl ([.ref m0, .int c0]) ++ List.replicate (6 - (lg_sl ([.ref m0, .int c0])).length) Slot.unset).toArray = ls at hl ⊢
  have hl : lv_has ls 6 [(0, .ref m0), (1, .int c0)] := hl
  have e256 : (256 : Int32).toInt = 256 := rfl
  have e259 : (259 : Int32).toInt = 259 := rfl
  have e273 : (273 : Int32).toInt = 273 := rfl
  have e284 : (284 : Int32).toInt = 284 := rfl
  have e260 : (260 : Int32).toInt = 260 := rfl
  have hwl : w ≤ 66 := by rw [hw]; exact lwy_le hst hL hch c0
  refine lv_aload_n hx hb dX3_line_0 rfl (lv_at hl 0 rfl) ?_
  refine lv_iconst (v := 0) hx hb dX3_line_1 (by decide +kernel) ?_
  refine va_put (D := D) (ci := 4) (v := .int 0) (ty := .int) (C := RX3) (T := TX3) (N := 16) hx hb hts hinX3 tyX3 tyX3_ok nmX3 hown hK.1 hP hD hS 0 rfl rfl 0 (by decide) (hts (.fieldLink RX3 33 "PrinterRowsModel" "thrown" "I") (by decide +kernel)) (fun _ h9 => h9) rfl (by decide +kernel) rfl rfl (Nat.le_of_ble_eq_true rfl) dX3_line_2 (fun H locs hP hD hS => ?_)
  have hP : va_P D vwCl (wM cI m0 mS mC mT mR mA 0 (nI L) (nI C) (nI rl) (nI bg) (nI st) mk (zb on) (nI tp) (nI tl) (zb tb) sg ch tr rc ta) H := hP
  have hD : va_D A (wM cI m0 mS mC mT mR mA 0 (nI L) (nI C) (nI rl) (nI bg) (nI st) mk (zb on) (nI tp) (nI tl) (zb tb) sg ch tr rc ta) := hD
  have k1 : ∀ (H : Heap) (locs : List Loc) (ls : Array Slot), (isSk c0 = true) → va_P D vwCl (wM cI m0 mS mC mT mR mA 0 (nI L) (nI C) (nI rl) (nI bg) (nI st) mk (zb on) (nI tp) (nI tl) (zb tb) sg ch tr rc ta) H → va_D A (wM cI m0 mS mC mT mR mA 0 (nI L) (nI C) (nI rl) (nI bg) (nI st) mk (zb on) (nI tp) (nI tl) (zb tb) sg ch tr rc ta) → va_S A s.heap H locs → lv_has ls 6 [(0, .ref m0), (1, .int c0), (2, .int 1)] → W p l e (headSpec wsX3_line ({ frames := 2, cells := 0, slots := 0, locals := 46 })).room s m (([.ref m0, .int c0] : List Value).toArray) below meth c H locs 0 0 (MQ below (qi D (fun (r : Int32) (u : (Nat → Int32) × (Nat → Int32) × (Nat × Nat × Bool) × Nat × (Nat × Nat × Bool)) => ((lnT L bg st on (isSk c0) w).1 ≤ 40 ∧ r = nI (lnT L bg st on (isSk c0) w).1 ∧ u.2.2.1 = (lnT L bg st on (isSk c0) w) ∧ u.2.2.2.1 = 0 ∧ u.1 = prG (8712 * lnQ L bg st on (isSk c0) w + 132 * lnI L bg st on (isSk c0) w) (min rl C) tr rc (stG bg (lnT L bg st on (isSk c0) w).1 sg) ∧ u.2.1 = upd (taP (upd ta 5 (skN ch (ta 5) (chOf c0))) (ta 3 + cS tr rc C rl) (ta 4 + cC C rl)) 2 (ta 2 + 1)) ∨ (¬ (lnT L bg st on (isSk c0) w).1 ≤ 40 ∧ r = -6 ∧ (u.1, u.2.1, u.2.2.1, u.2.2.2.1) = (sg, ta, (bg, st, on), rl))) (fun u : (Nat → Int32) × (Nat → Int32) × (Nat × Nat × Bool) × Nat × (Nat × Nat × Bool) => wM cI m0 mS mC mT mR mA 0 (nI L) (nI C) (nI u.2.2.2.1) (nI u.2.2.1.1) (nI u.2.2.1.2.1) mk (zb u.2.2.1.2.2) (nI u.2.2.2.2.1) (nI u.2.2.2.2.2.1) (zb u.2.2.2.2.2.2) u.1 ch tr rc u.2.1) (A)) (([.ref m0, .int c0] : List Value).toArray) s 0 0 A) (F0 m 39 ls []) := by
    intro H locs ls hsk hP hD hS hl
    refine lv_aload_n hx hb dX3_line_39 rfl (lv_at hl 0 rfl) ?_
    refine callQv (va_runV (As := []) (rest := []) ⟨hx, hb, hml, hown, hts⟩ (c_X3_tries l) (cwV 0 hts gX3_line_X3_tries rfl rfl rfl (by decide +kernel) ⟨(Nat.le_of_ble_eq_true rfl), (Nat.le_of_ble_eq_true rfl)⟩) (mu_pre hK hP hD rfl 0 rfl) rfl rfl hl.1 rfl (lv_room (Nat.le_of_ble_eq_true rfl)) dX3_line_40 ⟨(Nat.le_of_ble_eq_true rfl), (Nat.le_of_ble_eq_true rfl)⟩) hD hS hA (fun u_40 H locs w_40 hP hD hS => ?_)
    have hP : va_P D vwCl (wM cI m0 mS mC mT mR mA 0 (nI L) (nI C) (nI rl) (nI bg) (nI st) mk (zb on) (nI bg) (nI st) (zb on) sg ch tr rc ta) H := hP
    have hD : va_D A (wM cI m0 mS mC mT mR mA 0 (nI L) (nI C) (nI rl) (nI bg) (nI st) mk (zb on) (nI bg) (nI st) (zb on) sg ch tr rc ta) := hD
    refine lv_iload_n hx hb dX3_line_43 rfl (lv_at hl 2 rfl) ?_
    refine lv_if_ne (tgt := 56) hx hb dX3_line_44 (by decide) (fun c_44 => ?_) (fun c_44 => absurd c_44 (by decide))
    refine lv_aload_n hx hb dX3_line_56 rfl (lv_at hl 0 rfl) ?_
    refine callQv (va_runV (As := []) (rest := []) ⟨hx, hb, hml, hown, hts⟩ (c_X3_begin l) (cwV 0 hts gX3_line_X3_begin rfl rfl rfl (by decide +kernel) ⟨(Nat.le_of_ble_eq_true rfl), (Nat.le_of_ble_eq_true rfl)⟩) (mu_pre hK hP hD rfl 0 rfl) rfl rfl hl.1 rfl (lv_room (Nat.le_of_ble_eq_true rfl)) dX3_line_57 ⟨(Nat.le_of_ble_eq_true rfl), (Nat.le_of_ble_eq_true rfl)⟩) hD hS hA (fun u_57 H locs w_57 hP hD hS => ?_)
    have hP : va_P D vwCl (wM cI m0 mS mC mT mR mA 0 (nI L) (nI C) (nI rl) (nI bg) (nI st) mk (zb on) (nI (bgB bg on)) (nI st) (zb true) sg ch tr rc ta) H := hP
    have hD : va_D A (wM cI m0 mS mC mT mR mA 0 (nI L) (nI C) (nI rl) (nI bg) (nI st) mk (zb on) (nI (bgB bg on)) (nI st) (zb true) sg ch tr rc ta) := hD
    have hpp : 0 < bgB bg on := bgB_pos hon
    have hup : bgB bg on ≤ 41 := Nat.le_trans (bgB_up bg on) (by omega)
    refine lv_aload_n hx hb dX3_line_60 rfl (lv_at hl 0 rfl) ?_
    refine va_get (D := D) (ci := 4) (v := .int (nI (bgB bg on))) (C := RX3) (T := TX3) (N := 16) hx hb hts hinX3 hown hK.1 hP 0 rfl rfl 13 (by decide) (hts (.fieldLink RX3 42 "PrinterRowsModel" "trialPages" "I") (by decide +kernel)) (fun _ h9 => h9) rfl dX3_line_61 ?_
    refine lv_iconst (v := 1) hx hb dX3_line_64 (by decide +kernel) ?_
    refine lv_isub hx hb dX3_line_65 ?_
    refine lv_topi (fun x_65 ex_65 => ?_)
    obtain rfl : x_65 = nI ((bgB bg on) - 1) := ex_65.trans (sub1 hpp)
    refine lv_istore_n (lv' := [(3, .int (nI ((bgB bg on) - 1))), (0, .ref m0), (1, .int c0), (2, .int 1)]) hx hb dX3_line_66 rfl hl (by decide) rfl (fun ls hl => ?_)
    refine lv_aload_n hx hb dX3_line_67 rfl (lv_at hl 1 rfl) ?_
    refine va_get (D := D) (ci := 4) (v := .int (nI st)) (C := RX3) (T := TX3) (N := 16) hx hb hts hinX3 hown hK.1 hP 0 rfl rfl 14 (by decide) (hts (.fieldLink RX3 48 "PrinterRowsModel" "trialLine" "I") (by decide +kernel)) (fun _ h9 => h9) rfl dX3_line_68 ?_
    refine lv_istore (lv' := [(4, .int (nI st)), (3, .int (nI ((bgB bg on) - 1))), (0, .ref m0), (1, .int c0), (2, .int 1)]) hx hb dX3_line_71 hl (by decide) rfl (fun ls hl => ?_)
    refine lv_iload_n hx hb dX3_line_73 rfl (lv_at hl 4 rfl) ?_
    refine lv_if_eq (tgt := 105) hx hb dX3_line_74 (by decide) (fun c_74 => absurd c_74 (by decide)) (fun c_74 => ?_)
    refine lv_aload_n hx hb dX3_line_77 rfl (lv_at hl 2 rfl) ?_
    refine lv_iload_n hx hb dX3_line_78 rfl (lv_at hl 3 rfl) ?_
    refine lv_sipush (v := 260) hx hb dX3_line_79 (by decide +kernel) ?_
    refine lv_icmp_ge (tgt := 93) hx hb dX3_line_82 (by decide) (fun c_82 => ?_) (fun c_82 => ?_)
    ·
      refine lv_aload_n hx hb dX3_line_93 rfl (lv_at hl 2 rfl) ?_
      refine lv_iload_n hx hb dX3_line_94 rfl (lv_at hl 3 rfl) ?_
      refine lv_sipush (v := 272) hx hb dX3_line_95 (by decide +kernel) ?_
      refine lv_isub hx hb dX3_line_98 ?_
      have f_82 := i32_le.mp c_82
      have hcc : chOf c0 = c0 - 272 ∧ isCh (chOf c0) = true := by
        have h0 := isSk_iff.mp hsk
        rcases chOf_cases c0 with ⟨h1, h2, h3⟩ | ⟨h1, h2, h3⟩ | ⟨h1, h2, h3⟩ | ⟨h1, h2⟩
        · exfalso; omega
        · exfalso; omega
        · exact ⟨h2, isCh_iff.mpr (by omega)⟩
        · exfalso; omega
      rw [← hcc.1]
      refine vp_callSi (W.runV (As := [.int (chOf c0)]) (rest := [.ref m0]) ⟨hx, hb, hml, hown, hts⟩ (c_X3_wayI l hL0 hL hst hch (chOf c0) hcc.2) (cwV 1 hts gX3_line_X3_way rfl rfl rfl (by decide +kernel) ⟨(Nat.le_of_ble_eq_true rfl), (Nat.le_of_ble_eq_true rfl)⟩) (ro_pre hK hP rfl 0 rfl) rfl rfl hl.1 rfl (lv_room (Nat.le_of_ble_eq_true rfl)) dX3_line_99 ⟨(Nat.le_of_ble_eq_true rfl), (Nat.le_of_ble_eq_true rfl)⟩) (fun r_99 w_99 => ?_)
      subst w_99
      refine lv_topi (fun x_99 ex_99 => ?_)
      obtain rfl : x_99 = nI w := ex_99.trans (by rw [hw, lwy, if_neg (zb1.mpr hcc.2)])
      refine callQv (va_runV (As := [.int (nI w)]) (rest := []) ⟨hx, hb, hml, hown, hts⟩ (c_X3_move l hL0 hL hst (by omega) w hwl) (cwV 1 hts gX3_line_X3_move rfl rfl rfl (by decide +kernel) ⟨(Nat.le_of_ble_eq_true rfl), (Nat.le_of_ble_eq_true rfl)⟩) (mu_pre hK hP hD rfl 0 rfl) rfl rfl hl.1 rfl (lv_room (Nat.le_of_ble_eq_true rfl)) dX3_line_102 ⟨(Nat.le_of_ble_eq_true rfl), (Nat.le_of_ble_eq_true rfl)⟩) hD hS hA (fun u_102 H locs w_102 hP hD hS => ?_)
      obtain ⟨t1, t2, t3⟩ := u_102
      have hmv : (t1, t2, t3) = mvn L w (bgB bg on, st, true) := w_102
      have hP : va_P D vwCl (wM cI m0 mS mC mT mR mA 0 (nI L) (nI C) (nI rl) (nI bg) (nI st) mk (zb on) (nI t1) (nI t2) (zb t3) sg ch tr rc ta) H := hP
      have hD : va_D A (wM cI m0 mS mC mT mR mA 0 (nI L) (nI C) (nI rl) (nI bg) (nI st) mk (zb on) (nI t1) (nI t2) (zb t3) sg ch tr rc ta) := hD
      have ht1 : bgB bg on ≤ t1 ∧ t1 ≤ 107 := by
        have h8 := mvn_le (L := L) (Nat.zero_le w) (bgB bg on, st, true)
        have h9 := mvn_up (L := L) w (bgB bg on, st, true)
        rw [← hmv] at h8 h9
        dsimp only [mvn] at h8 h9
        omega
      have hT : (t1, t2, t3) = (lnT L bg st on (isSk c0) w) := by rw [lnT, hsk, if_pos rfl]; exact hmv
      have hT1 : (lnT L bg st on (isSk c0) w).1 = t1 := by rw [← hT]
      have hbt : bg ≤ t1 := Nat.le_trans (bgB_ge bg on) ht1.1
      refine lv_aload_n hx hb dX3_line_105 rfl (lv_at hl 2 rfl) ?_
      refine va_get (D := D) (ci := 4) (v := .int (nI t1)) (C := RX3) (T := TX3) (N := 16) hx hb hts hinX3 hown hK.1 hP 0 rfl rfl 13 (by decide) (hts (.fieldLink RX3 42 "PrinterRowsModel" "trialPages" "I") (by decide +kernel)) (fun _ h9 => h9) rfl dX3_line_106 ?_
      refine lv_bipush (v := 40) hx hb dX3_line_109 (by decide +kernel) ?_
      refine lv_icmp_le (tgt := 117) hx hb dX3_line_111 (by decide) (fun c_111 => ?_) (fun c_111 => ?_)
      ·
        have hfit : t1 ≤ 40 := (nI_leI (b := 40) (by omega) (by decide)).mp c_111
        refine lv_iload_n hx hb dX3_line_117 rfl (lv_at hl 3 rfl) ?_
        refine vp_callSi (W.runS (As := [.int c0]) (rest := []) ⟨hx, hb, hml, hown, hts⟩ (c_X3_channelOf l (c0)) (va_cwS 1 hts gX3_line_X3_channelOf rfl rfl rfl (by decide +kernel) ⟨(Nat.le_of_ble_eq_true rfl), (Nat.le_of_ble_eq_true rfl)⟩) pu_pre rfl rfl hl.1 rfl (lv_room (Nat.le_of_ble_eq_true rfl)) dX3_line_118 ⟨(Nat.le_of_ble_eq_true rfl), (Nat.le_of_ble_eq_true rfl)⟩) (fun r_118 w_118 => ?_)
        subst w_118
        refine lv_istore (lv' := [(5, .int (coN c0)), (4, .int (nI st)), (3, .int (nI ((bgB bg on) - 1))), (0, .ref m0), (1, .int c0), (2, .int 1)]) hx hb dX3_line_121 hl (by decide) rfl (fun ls hl => ?_)
        refine lv_aload_n hx hb dX3_line_123 rfl (lv_at hl 3 rfl) ?_
        refine va_get (D := D) (ci := 4) (v := .ref mA) (C := RX3) (T := TX3) (N := 16) hx hb hts hinX3 hown hK.1 hP 0 rfl rfl 7 (by decide) (hts (.fieldLink RX3 23 "PrinterRowsModel" "tallies" "[I") (by decide +kernel)) (fun _ h9 => h9) rfl dX3_line_124 ?_
        refine lv_iconst (v := 5) hx hb dX3_line_127 (by decide +kernel) ?_
        refine lv_dup2_11 hx hb dX3_line_128 rfl rfl ?_
        refine va_iald hx hb hK.1 hP 5 0 rfl rfl (vp_in_iff.mpr (by decide +kernel)) dX3_line_129 ?_
        refine lv_topi (fun x_129 ex_129 => ?_)
        obtain rfl : x_129 = (ta 5) := ex_129
        refine lv_iload hx hb dX3_line_130 (lv_at hl 0 rfl) ?_
        refine lv_if_le (tgt := 150) hx hb dX3_line_132 (by decide) (fun c_132 => ?_) (fun c_132 => ?_)
        ·
          refine lv_iconst (v := 0) hx hb dX3_line_150 (by decide +kernel) ?_
          refine lv_iadd hx hb dX3_line_151 ?_
          refine va_iast hx hb hK.1 hP hD hS 5 0 rfl rfl (vp_in_iff.mpr (by decide +kernel)) dX3_line_152 (fun H locs hP hD hS => ?_)
          rw [show (upd ta (5 : Int32).toNatClampNeg ((ta 5) + 0)) = (upd ta 5 (skN ch (ta 5) (chOf c0))) from by rw [show (5 : Int32).toNatClampNeg = 5 from rfl, skN, if_pos (coN_le c_132), Int32.add_zero]] at hP hD
          have hP : va_P D vwCl (wM cI m0 mS mC mT mR mA 0 (nI L) (nI C) (nI rl) (nI bg) (nI st) mk (zb on) (nI t1) (nI t2) (zb t3) sg ch tr rc (upd ta 5 (skN ch (ta 5) (chOf c0)))) H := hP
          have hD : va_D A (wM cI m0 mS mC mT mR mA 0 (nI L) (nI C) (nI rl) (nI bg) (nI st) mk (zb on) (nI t1) (nI t2) (zb t3) sg ch tr rc (upd ta 5 (skN ch (ta 5) (chOf c0)))) := hD
          refine lv_aload_n hx hb dX3_line_153 rfl (lv_at hl 3 rfl) ?_
          refine callQv (va_runV (As := []) (rest := []) ⟨hx, hb, hml, hown, hts⟩ (c_X3_settle l hbt hfit) (cwV 0 hts gX3_line_X3_settle rfl rfl rfl (by decide +kernel) ⟨(Nat.le_of_ble_eq_true rfl), (Nat.le_of_ble_eq_true rfl)⟩) (mu_pre hK hP hD rfl 0 rfl) rfl rfl hl.1 rfl (lv_room (Nat.le_of_ble_eq_true rfl)) dX3_line_154 ⟨(Nat.le_of_ble_eq_true rfl), (Nat.le_of_ble_eq_true rfl)⟩) hD hS hA (fun u_154 H locs w_154 hP hD hS => ?_)
          subst w_154
          have hP : va_P D vwCl (wM cI m0 mS mC mT mR mA 0 (nI L) (nI C) (nI rl) (nI t1) (nI t2) mk (zb t3) (nI t1) (nI t2) (zb t3) (stG bg t1 sg) ch tr rc (upd ta 5 (skN ch (ta 5) (chOf c0)))) H := hP
          have hD : va_D A (wM cI m0 mS mC mT mR mA 0 (nI L) (nI C) (nI rl) (nI t1) (nI t2) mk (zb t3) (nI t1) (nI t2) (zb t3) (stG bg t1 sg) ch tr rc (upd ta 5 (skN ch (ta 5) (chOf c0)))) := hD
          refine lv_aload_n hx hb dX3_line_157 rfl (lv_at hl 3 rfl) ?_
          refine lv_iload_n hx hb dX3_line_158 rfl (lv_at hl 2 rfl) ?_
          refine lv_iload hx hb dX3_line_159 (lv_at hl 1 rfl) ?_
          refine callQv (va_runV (As := [.int (nI ((bgB bg on) - 1)), .int (nI st)]) (rest := []) ⟨hx, hb, hml, hown, hts⟩ (c_X3_print l hC hrl hrc (bgB bg on - 1) st (by omega) (by omega)) (cwV 2 hts gX3_line_X3_print rfl rfl rfl (by decide +kernel) ⟨(Nat.le_of_ble_eq_true rfl), (Nat.le_of_ble_eq_true rfl)⟩) (mu_pre hK hP hD rfl 0 rfl) rfl rfl hl.1 rfl (lv_room (Nat.le_of_ble_eq_true rfl)) dX3_line_161 ⟨(Nat.le_of_ble_eq_true rfl), (Nat.le_of_ble_eq_true rfl)⟩) hD hS hA (fun u_161 H locs w_161 hP hD hS => ?_)
          have hP : va_P D vwCl (wM cI m0 mS mC mT mR mA 0 (nI L) (nI C) (nI 0) (nI t1) (nI t2) mk (zb t3) (nI t1) (nI t2) (zb t3) (prG (8712 * (bgB bg on - 1) + 132 * st) (min rl C) tr rc (stG bg t1 sg)) ch tr rc (upd (taP (upd ta 5 (skN ch (ta 5) (chOf c0))) (ta 3 + cS tr rc C rl) (ta 4 + cC C rl)) 2 (ta 2 + 1))) H := hP
          have hD : va_D A (wM cI m0 mS mC mT mR mA 0 (nI L) (nI C) (nI 0) (nI t1) (nI t2) mk (zb t3) (nI t1) (nI t2) (zb t3) (prG (8712 * (bgB bg on - 1) + 132 * st) (min rl C) tr rc (stG bg t1 sg)) ch tr rc (upd (taP (upd ta 5 (skN ch (ta 5) (chOf c0))) (ta 3 + cS tr rc C rl) (ta 4 + cC C rl)) 2 (ta 2 + 1))) := hD
          refine lv_aload_n hx hb dX3_line_164 rfl (lv_at hl 3 rfl) ?_
          refine va_get (D := D) (ci := 4) (v := .int (nI t1)) (C := RX3) (T := TX3) (N := 16) hx hb hts hinX3 hown hK.1 hP 0 rfl rfl 9 (by decide) (hts (.fieldLink RX3 39 "PrinterRowsModel" "pages" "I") (by decide +kernel)) (fun _ h9 => h9) rfl dX3_line_165 ?_
          exact W.iret (v := (nI t1)) hx hb hr (fun t ht hW => ⟨⟨_, ((prG (8712 * (bgB bg on - 1) + 132 * st) (min rl C) tr rc (stG bg t1 sg)), (upd (taP (upd ta 5 (skN ch (ta 5) (chOf c0))) (ta 3 + cS tr rc C rl) (ta 4 + cC C rl)) 2 (ta 2 + 1)), (t1, t2, t3), 0, (t1, t2, t3)), rfl, Or.inl ⟨by rw [hT1]; exact hfit, by rw [hT1], hT, rfl, by rw [hT1, lnQ, lnI, hsk, if_pos rfl, if_pos rfl], rfl⟩, by rw [ht]; exact hP, hD⟩, hS.F ht⟩) hS.2.2 dX3_line_168
        ·
          refine lv_aload_n hx hb dX3_line_135 rfl (lv_at hl 3 rfl) ?_
          refine va_get (D := D) (ci := 4) (v := .ref mC) (C := RX3) (T := TX3) (N := 16) hx hb hts hinX3 hown hK.1 hP 0 rfl rfl 4 (by decide) (hts (.fieldLink RX3 14 "PrinterRowsModel" "channels" "[I") (by decide +kernel)) (fun _ h9 => h9) rfl dX3_line_136 ?_
          refine lv_iload hx hb dX3_line_139 (lv_at hl 0 rfl) ?_
          refine va_iald hx hb hK.1 hP 2 0 rfl rfl (by rw [(coN_gt c_132).2]; exact isCh_in (coN_gt c_132).1) dX3_line_141 ?_
          refine lv_iconst (v := (-1)) hx hb dX3_line_142 (by decide +kernel) ?_
          refine lv_icmp_ne (tgt := 150) hx hb dX3_line_143 (by decide) (fun c_143 => ?_) (fun c_143 => ?_)
          ·
            refine lv_iconst (v := 0) hx hb dX3_line_150 (by decide +kernel) ?_
            refine lv_iadd hx hb dX3_line_151 ?_
            refine va_iast hx hb hK.1 hP hD hS 5 0 rfl rfl (vp_in_iff.mpr (by decide +kernel)) dX3_line_152 (fun H locs hP hD hS => ?_)
            rw [show (upd ta (5 : Int32).toNatClampNeg ((ta 5) + 0)) = (upd ta 5 (skN ch (ta 5) (chOf c0))) from by rw [show (5 : Int32).toNatClampNeg = 5 from rfl, skN, if_neg (coN_gt c_132).1, if_pos (by rw [← (coN_gt c_132).2]; exact c_143), Int32.add_zero]] at hP hD
            have hP : va_P D vwCl (wM cI m0 mS mC mT mR mA 0 (nI L) (nI C) (nI rl) (nI bg) (nI st) mk (zb on) (nI t1) (nI t2) (zb t3) sg ch tr rc (upd ta 5 (skN ch (ta 5) (chOf c0)))) H := hP
            have hD : va_D A (wM cI m0 mS mC mT mR mA 0 (nI L) (nI C) (nI rl) (nI bg) (nI st) mk (zb on) (nI t1) (nI t2) (zb t3) sg ch tr rc (upd ta 5 (skN ch (ta 5) (chOf c0)))) := hD
            refine lv_aload_n hx hb dX3_line_153 rfl (lv_at hl 3 rfl) ?_
            refine callQv (va_runV (As := []) (rest := []) ⟨hx, hb, hml, hown, hts⟩ (c_X3_settle l hbt hfit) (cwV 0 hts gX3_line_X3_settle rfl rfl rfl (by decide +kernel) ⟨(Nat.le_of_ble_eq_true rfl), (Nat.le_of_ble_eq_true rfl)⟩) (mu_pre hK hP hD rfl 0 rfl) rfl rfl hl.1 rfl (lv_room (Nat.le_of_ble_eq_true rfl)) dX3_line_154 ⟨(Nat.le_of_ble_eq_true rfl), (Nat.le_of_ble_eq_true rfl)⟩) hD hS hA (fun u_154 H locs w_154 hP hD hS => ?_)
            subst w_154
            have hP : va_P D vwCl (wM cI m0 mS mC mT mR mA 0 (nI L) (nI C) (nI rl) (nI t1) (nI t2) mk (zb t3) (nI t1) (nI t2) (zb t3) (stG bg t1 sg) ch tr rc (upd ta 5 (skN ch (ta 5) (chOf c0)))) H := hP
            have hD : va_D A (wM cI m0 mS mC mT mR mA 0 (nI L) (nI C) (nI rl) (nI t1) (nI t2) mk (zb t3) (nI t1) (nI t2) (zb t3) (stG bg t1 sg) ch tr rc (upd ta 5 (skN ch (ta 5) (chOf c0)))) := hD
            refine lv_aload_n hx hb dX3_line_157 rfl (lv_at hl 3 rfl) ?_
            refine lv_iload_n hx hb dX3_line_158 rfl (lv_at hl 2 rfl) ?_
            refine lv_iload hx hb dX3_line_159 (lv_at hl 1 rfl) ?_
            refine callQv (va_runV (As := [.int (nI ((bgB bg on) - 1)), .int (nI st)]) (rest := []) ⟨hx, hb, hml, hown, hts⟩ (c_X3_print l hC hrl hrc (bgB bg on - 1) st (by omega) (by omega)) (cwV 2 hts gX3_line_X3_print rfl rfl rfl (by decide +kernel) ⟨(Nat.le_of_ble_eq_true rfl), (Nat.le_of_ble_eq_true rfl)⟩) (mu_pre hK hP hD rfl 0 rfl) rfl rfl hl.1 rfl (lv_room (Nat.le_of_ble_eq_true rfl)) dX3_line_161 ⟨(Nat.le_of_ble_eq_true rfl), (Nat.le_of_ble_eq_true rfl)⟩) hD hS hA (fun u_161 H locs w_161 hP hD hS => ?_)
            have hP : va_P D vwCl (wM cI m0 mS mC mT mR mA 0 (nI L) (nI C) (nI 0) (nI t1) (nI t2) mk (zb t3) (nI t1) (nI t2) (zb t3) (prG (8712 * (bgB bg on - 1) + 132 * st) (min rl C) tr rc (stG bg t1 sg)) ch tr rc (upd (taP (upd ta 5 (skN ch (ta 5) (chOf c0))) (ta 3 + cS tr rc C rl) (ta 4 + cC C rl)) 2 (ta 2 + 1))) H := hP
            have hD : va_D A (wM cI m0 mS mC mT mR mA 0 (nI L) (nI C) (nI 0) (nI t1) (nI t2) mk (zb t3) (nI t1) (nI t2) (zb t3) (prG (8712 * (bgB bg on - 1) + 132 * st) (min rl C) tr rc (stG bg t1 sg)) ch tr rc (upd (taP (upd ta 5 (skN ch (ta 5) (chOf c0))) (ta 3 + cS tr rc C rl) (ta 4 + cC C rl)) 2 (ta 2 + 1))) := hD
            refine lv_aload_n hx hb dX3_line_164 rfl (lv_at hl 3 rfl) ?_
            refine va_get (D := D) (ci := 4) (v := .int (nI t1)) (C := RX3) (T := TX3) (N := 16) hx hb hts hinX3 hown hK.1 hP 0 rfl rfl 9 (by decide) (hts (.fieldLink RX3 39 "PrinterRowsModel" "pages" "I") (by decide +kernel)) (fun _ h9 => h9) rfl dX3_line_165 ?_
            exact W.iret (v := (nI t1)) hx hb hr (fun t ht hW => ⟨⟨_, ((prG (8712 * (bgB bg on - 1) + 132 * st) (min rl C) tr rc (stG bg t1 sg)), (upd (taP (upd ta 5 (skN ch (ta 5) (chOf c0))) (ta 3 + cS tr rc C rl) (ta 4 + cC C rl)) 2 (ta 2 + 1)), (t1, t2, t3), 0, (t1, t2, t3)), rfl, Or.inl ⟨by rw [hT1]; exact hfit, by rw [hT1], hT, rfl, by rw [hT1, lnQ, lnI, hsk, if_pos rfl, if_pos rfl], rfl⟩, by rw [ht]; exact hP, hD⟩, hS.F ht⟩) hS.2.2 dX3_line_168
          ·
            refine lv_iconst (v := 1) hx hb dX3_line_146 (by decide +kernel) ?_
            refine lv_goto (tgt := 151) hx hb dX3_line_147 (by decide) ?_
            refine lv_iadd hx hb dX3_line_151 ?_
            refine va_iast hx hb hK.1 hP hD hS 5 0 rfl rfl (vp_in_iff.mpr (by decide +kernel)) dX3_line_152 (fun H locs hP hD hS => ?_)
            rw [show (upd ta (5 : Int32).toNatClampNeg ((ta 5) + 1)) = (upd ta 5 (skN ch (ta 5) (chOf c0))) from by rw [show (5 : Int32).toNatClampNeg = 5 from rfl, skN, if_neg (coN_gt c_132).1, if_neg (fun h9 => h9 (by rw [← (coN_gt c_132).2]; exact c_143))]] at hP hD
            have hP : va_P D vwCl (wM cI m0 mS mC mT mR mA 0 (nI L) (nI C) (nI rl) (nI bg) (nI st) mk (zb on) (nI t1) (nI t2) (zb t3) sg ch tr rc (upd ta 5 (skN ch (ta 5) (chOf c0)))) H := hP
            have hD : va_D A (wM cI m0 mS mC mT mR mA 0 (nI L) (nI C) (nI rl) (nI bg) (nI st) mk (zb on) (nI t1) (nI t2) (zb t3) sg ch tr rc (upd ta 5 (skN ch (ta 5) (chOf c0)))) := hD
            refine lv_aload_n hx hb dX3_line_153 rfl (lv_at hl 3 rfl) ?_
            refine callQv (va_runV (As := []) (rest := []) ⟨hx, hb, hml, hown, hts⟩ (c_X3_settle l hbt hfit) (cwV 0 hts gX3_line_X3_settle rfl rfl rfl (by decide +kernel) ⟨(Nat.le_of_ble_eq_true rfl), (Nat.le_of_ble_eq_true rfl)⟩) (mu_pre hK hP hD rfl 0 rfl) rfl rfl hl.1 rfl (lv_room (Nat.le_of_ble_eq_true rfl)) dX3_line_154 ⟨(Nat.le_of_ble_eq_true rfl), (Nat.le_of_ble_eq_true rfl)⟩) hD hS hA (fun u_154 H locs w_154 hP hD hS => ?_)
            subst w_154
            have hP : va_P D vwCl (wM cI m0 mS mC mT mR mA 0 (nI L) (nI C) (nI rl) (nI t1) (nI t2) mk (zb t3) (nI t1) (nI t2) (zb t3) (stG bg t1 sg) ch tr rc (upd ta 5 (skN ch (ta 5) (chOf c0)))) H := hP
            have hD : va_D A (wM cI m0 mS mC mT mR mA 0 (nI L) (nI C) (nI rl) (nI t1) (nI t2) mk (zb t3) (nI t1) (nI t2) (zb t3) (stG bg t1 sg) ch tr rc (upd ta 5 (skN ch (ta 5) (chOf c0)))) := hD
            refine lv_aload_n hx hb dX3_line_157 rfl (lv_at hl 3 rfl) ?_
            refine lv_iload_n hx hb dX3_line_158 rfl (lv_at hl 2 rfl) ?_
            refine lv_iload hx hb dX3_line_159 (lv_at hl 1 rfl) ?_
            refine callQv (va_runV (As := [.int (nI ((bgB bg on) - 1)), .int (nI st)]) (rest := []) ⟨hx, hb, hml, hown, hts⟩ (c_X3_print l hC hrl hrc (bgB bg on - 1) st (by omega) (by omega)) (cwV 2 hts gX3_line_X3_print rfl rfl rfl (by decide +kernel) ⟨(Nat.le_of_ble_eq_true rfl), (Nat.le_of_ble_eq_true rfl)⟩) (mu_pre hK hP hD rfl 0 rfl) rfl rfl hl.1 rfl (lv_room (Nat.le_of_ble_eq_true rfl)) dX3_line_161 ⟨(Nat.le_of_ble_eq_true rfl), (Nat.le_of_ble_eq_true rfl)⟩) hD hS hA (fun u_161 H locs w_161 hP hD hS => ?_)
            have hP : va_P D vwCl (wM cI m0 mS mC mT mR mA 0 (nI L) (nI C) (nI 0) (nI t1) (nI t2) mk (zb t3) (nI t1) (nI t2) (zb t3) (prG (8712 * (bgB bg on - 1) + 132 * st) (min rl C) tr rc (stG bg t1 sg)) ch tr rc (upd (taP (upd ta 5 (skN ch (ta 5) (chOf c0))) (ta 3 + cS tr rc C rl) (ta 4 + cC C rl)) 2 (ta 2 + 1))) H := hP
            have hD : va_D A (wM cI m0 mS mC mT mR mA 0 (nI L) (nI C) (nI 0) (nI t1) (nI t2) mk (zb t3) (nI t1) (nI t2) (zb t3) (prG (8712 * (bgB bg on - 1) + 132 * st) (min rl C) tr rc (stG bg t1 sg)) ch tr rc (upd (taP (upd ta 5 (skN ch (ta 5) (chOf c0))) (ta 3 + cS tr rc C rl) (ta 4 + cC C rl)) 2 (ta 2 + 1))) := hD
            refine lv_aload_n hx hb dX3_line_164 rfl (lv_at hl 3 rfl) ?_
            refine va_get (D := D) (ci := 4) (v := .int (nI t1)) (C := RX3) (T := TX3) (N := 16) hx hb hts hinX3 hown hK.1 hP 0 rfl rfl 9 (by decide) (hts (.fieldLink RX3 39 "PrinterRowsModel" "pages" "I") (by decide +kernel)) (fun _ h9 => h9) rfl dX3_line_165 ?_
            exact W.iret (v := (nI t1)) hx hb hr (fun t ht hW => ⟨⟨_, ((prG (8712 * (bgB bg on - 1) + 132 * st) (min rl C) tr rc (stG bg t1 sg)), (upd (taP (upd ta 5 (skN ch (ta 5) (chOf c0))) (ta 3 + cS tr rc C rl) (ta 4 + cC C rl)) 2 (ta 2 + 1)), (t1, t2, t3), 0, (t1, t2, t3)), rfl, Or.inl ⟨by rw [hT1]; exact hfit, by rw [hT1], hT, rfl, by rw [hT1, lnQ, lnI, hsk, if_pos rfl, if_pos rfl], rfl⟩, by rw [ht]; exact hP, hD⟩, hS.F ht⟩) hS.2.2 dX3_line_168
      ·
        have hfit : ¬ t1 ≤ 40 := fun h9 => c_111 (nI_le (b := 40) h9 (by decide))
        refine lv_bipush (v := (-6)) hx hb dX3_line_114 (by decide +kernel) ?_
        exact W.iret (v := (-6)) hx hb hr (fun t ht hW => ⟨⟨_, (sg, ta, (bg, st, on), rl, (t1, t2, t3)), rfl, Or.inr ⟨by rw [hT1]; exact hfit, rfl, rfl⟩, by rw [ht]; exact hP, hD⟩, hS.F ht⟩) hS.2.2 dX3_line_116
    ·
      refine lv_iload_n hx hb dX3_line_85 rfl (lv_at hl 3 rfl) ?_
      refine lv_sipush (v := 256) hx hb dX3_line_86 (by decide +kernel) ?_
      refine lv_isub hx hb dX3_line_89 ?_
      have f_82 := i32_nle c_82
      have hpl : isPl c0 = true := isPl_iff.mpr (by have h0 := isSk_iff.mp hsk; omega)
      have hno : zb (isCh (chOf c0)) = 0 := by
        have h0 := isPl_iff.mp hpl
        rcases chOf_cases c0 with ⟨h1, h2, h3⟩ | ⟨h1, h2, h3⟩ | ⟨h1, h2, h3⟩ | ⟨h1, h2⟩
        · exfalso; omega
        · exfalso; omega
        · exfalso; omega
        · rw [h2]; decide +kernel
      have hlw : c0 - 256 = nI w := by
        rw [hw, lwy, if_pos hno]
        obtain ⟨k9, h8, h9⟩ := lnOf_nI c0
        rw [h9, nI_clamp (by omega), ← h9, lnOf, if_neg (zb1.mpr hpl)]
      refine lv_topi (fun x_89 ex_89 => ?_)
      obtain rfl : x_89 = nI w := ex_89.trans hlw
      refine lv_goto (tgt := 102) hx hb dX3_line_90 (by decide) ?_
      refine callQv (va_runV (As := [.int (nI w)]) (rest := []) ⟨hx, hb, hml, hown, hts⟩ (c_X3_move l hL0 hL hst (by omega) w hwl) (cwV 1 hts gX3_line_X3_move rfl rfl rfl (by decide +kernel) ⟨(Nat.le_of_ble_eq_true rfl), (Nat.le_of_ble_eq_true rfl)⟩) (mu_pre hK hP hD rfl 0 rfl) rfl rfl hl.1 rfl (lv_room (Nat.le_of_ble_eq_true rfl)) dX3_line_102 ⟨(Nat.le_of_ble_eq_true rfl), (Nat.le_of_ble_eq_true rfl)⟩) hD hS hA (fun u_102 H locs w_102 hP hD hS => ?_)
      obtain ⟨t1, t2, t3⟩ := u_102
      have hmv : (t1, t2, t3) = mvn L w (bgB bg on, st, true) := w_102
      have hP : va_P D vwCl (wM cI m0 mS mC mT mR mA 0 (nI L) (nI C) (nI rl) (nI bg) (nI st) mk (zb on) (nI t1) (nI t2) (zb t3) sg ch tr rc ta) H := hP
      have hD : va_D A (wM cI m0 mS mC mT mR mA 0 (nI L) (nI C) (nI rl) (nI bg) (nI st) mk (zb on) (nI t1) (nI t2) (zb t3) sg ch tr rc ta) := hD
      have ht1 : bgB bg on ≤ t1 ∧ t1 ≤ 107 := by
        have h8 := mvn_le (L := L) (Nat.zero_le w) (bgB bg on, st, true)
        have h9 := mvn_up (L := L) w (bgB bg on, st, true)
        rw [← hmv] at h8 h9
        dsimp only [mvn] at h8 h9
        omega
      have hT : (t1, t2, t3) = (lnT L bg st on (isSk c0) w) := by rw [lnT, hsk, if_pos rfl]; exact hmv
      have hT1 : (lnT L bg st on (isSk c0) w).1 = t1 := by rw [← hT]
      have hbt : bg ≤ t1 := Nat.le_trans (bgB_ge bg on) ht1.1
      refine lv_aload_n hx hb dX3_line_105 rfl (lv_at hl 2 rfl) ?_
      refine va_get (D := D) (ci := 4) (v := .int (nI t1)) (C := RX3) (T := TX3) (N := 16) hx hb hts hinX3 hown hK.1 hP 0 rfl rfl 13 (by decide) (hts (.fieldLink RX3 42 "PrinterRowsModel" "trialPages" "I") (by decide +kernel)) (fun _ h9 => h9) rfl dX3_line_106 ?_
      refine lv_bipush (v := 40) hx hb dX3_line_109 (by decide +kernel) ?_
      refine lv_icmp_le (tgt := 117) hx hb dX3_line_111 (by decide) (fun c_111 => ?_) (fun c_111 => ?_)
      ·
        have hfit : t1 ≤ 40 := (nI_leI (b := 40) (by omega) (by decide)).mp c_111
        refine lv_iload_n hx hb dX3_line_117 rfl (lv_at hl 3 rfl) ?_
        refine vp_callSi (W.runS (As := [.int c0]) (rest := []) ⟨hx, hb, hml, hown, hts⟩ (c_X3_channelOf l (c0)) (va_cwS 1 hts gX3_line_X3_channelOf rfl rfl rfl (by decide +kernel) ⟨(Nat.le_of_ble_eq_true rfl), (Nat.le_of_ble_eq_true rfl)⟩) pu_pre rfl rfl hl.1 rfl (lv_room (Nat.le_of_ble_eq_true rfl)) dX3_line_118 ⟨(Nat.le_of_ble_eq_true rfl), (Nat.le_of_ble_eq_true rfl)⟩) (fun r_118 w_118 => ?_)
        subst w_118
        refine lv_istore (lv' := [(5, .int (coN c0)), (4, .int (nI st)), (3, .int (nI ((bgB bg on) - 1))), (0, .ref m0), (1, .int c0), (2, .int 1)]) hx hb dX3_line_121 hl (by decide) rfl (fun ls hl => ?_)
        refine lv_aload_n hx hb dX3_line_123 rfl (lv_at hl 3 rfl) ?_
        refine va_get (D := D) (ci := 4) (v := .ref mA) (C := RX3) (T := TX3) (N := 16) hx hb hts hinX3 hown hK.1 hP 0 rfl rfl 7 (by decide) (hts (.fieldLink RX3 23 "PrinterRowsModel" "tallies" "[I") (by decide +kernel)) (fun _ h9 => h9) rfl dX3_line_124 ?_
        refine lv_iconst (v := 5) hx hb dX3_line_127 (by decide +kernel) ?_
        refine lv_dup2_11 hx hb dX3_line_128 rfl rfl ?_
        refine va_iald hx hb hK.1 hP 5 0 rfl rfl (vp_in_iff.mpr (by decide +kernel)) dX3_line_129 ?_
        refine lv_topi (fun x_129 ex_129 => ?_)
        obtain rfl : x_129 = (ta 5) := ex_129
        refine lv_iload hx hb dX3_line_130 (lv_at hl 0 rfl) ?_
        refine lv_if_le (tgt := 150) hx hb dX3_line_132 (by decide) (fun c_132 => ?_) (fun c_132 => ?_)
        ·
          refine lv_iconst (v := 0) hx hb dX3_line_150 (by decide +kernel) ?_
          refine lv_iadd hx hb dX3_line_151 ?_
          refine va_iast hx hb hK.1 hP hD hS 5 0 rfl rfl (vp_in_iff.mpr (by decide +kernel)) dX3_line_152 (fun H locs hP hD hS => ?_)
          rw [show (upd ta (5 : Int32).toNatClampNeg ((ta 5) + 0)) = (upd ta 5 (skN ch (ta 5) (chOf c0))) from by rw [show (5 : Int32).toNatClampNeg = 5 from rfl, skN, if_pos (coN_le c_132), Int32.add_zero]] at hP hD
          have hP : va_P D vwCl (wM cI m0 mS mC mT mR mA 0 (nI L) (nI C) (nI rl) (nI bg) (nI st) mk (zb on) (nI t1) (nI t2) (zb t3) sg ch tr rc (upd ta 5 (skN ch (ta 5) (chOf c0)))) H := hP
          have hD : va_D A (wM cI m0 mS mC mT mR mA 0 (nI L) (nI C) (nI rl) (nI bg) (nI st) mk (zb on) (nI t1) (nI t2) (zb t3) sg ch tr rc (upd ta 5 (skN ch (ta 5) (chOf c0)))) := hD
          refine lv_aload_n hx hb dX3_line_153 rfl (lv_at hl 3 rfl) ?_
          refine callQv (va_runV (As := []) (rest := []) ⟨hx, hb, hml, hown, hts⟩ (c_X3_settle l hbt hfit) (cwV 0 hts gX3_line_X3_settle rfl rfl rfl (by decide +kernel) ⟨(Nat.le_of_ble_eq_true rfl), (Nat.le_of_ble_eq_true rfl)⟩) (mu_pre hK hP hD rfl 0 rfl) rfl rfl hl.1 rfl (lv_room (Nat.le_of_ble_eq_true rfl)) dX3_line_154 ⟨(Nat.le_of_ble_eq_true rfl), (Nat.le_of_ble_eq_true rfl)⟩) hD hS hA (fun u_154 H locs w_154 hP hD hS => ?_)
          subst w_154
          have hP : va_P D vwCl (wM cI m0 mS mC mT mR mA 0 (nI L) (nI C) (nI rl) (nI t1) (nI t2) mk (zb t3) (nI t1) (nI t2) (zb t3) (stG bg t1 sg) ch tr rc (upd ta 5 (skN ch (ta 5) (chOf c0)))) H := hP
          have hD : va_D A (wM cI m0 mS mC mT mR mA 0 (nI L) (nI C) (nI rl) (nI t1) (nI t2) mk (zb t3) (nI t1) (nI t2) (zb t3) (stG bg t1 sg) ch tr rc (upd ta 5 (skN ch (ta 5) (chOf c0)))) := hD
          refine lv_aload_n hx hb dX3_line_157 rfl (lv_at hl 3 rfl) ?_
          refine lv_iload_n hx hb dX3_line_158 rfl (lv_at hl 2 rfl) ?_
          refine lv_iload hx hb dX3_line_159 (lv_at hl 1 rfl) ?_
          refine callQv (va_runV (As := [.int (nI ((bgB bg on) - 1)), .int (nI st)]) (rest := []) ⟨hx, hb, hml, hown, hts⟩ (c_X3_print l hC hrl hrc (bgB bg on - 1) st (by omega) (by omega)) (cwV 2 hts gX3_line_X3_print rfl rfl rfl (by decide +kernel) ⟨(Nat.le_of_ble_eq_true rfl), (Nat.le_of_ble_eq_true rfl)⟩) (mu_pre hK hP hD rfl 0 rfl) rfl rfl hl.1 rfl (lv_room (Nat.le_of_ble_eq_true rfl)) dX3_line_161 ⟨(Nat.le_of_ble_eq_true rfl), (Nat.le_of_ble_eq_true rfl)⟩) hD hS hA (fun u_161 H locs w_161 hP hD hS => ?_)
          have hP : va_P D vwCl (wM cI m0 mS mC mT mR mA 0 (nI L) (nI C) (nI 0) (nI t1) (nI t2) mk (zb t3) (nI t1) (nI t2) (zb t3) (prG (8712 * (bgB bg on - 1) + 132 * st) (min rl C) tr rc (stG bg t1 sg)) ch tr rc (upd (taP (upd ta 5 (skN ch (ta 5) (chOf c0))) (ta 3 + cS tr rc C rl) (ta 4 + cC C rl)) 2 (ta 2 + 1))) H := hP
          have hD : va_D A (wM cI m0 mS mC mT mR mA 0 (nI L) (nI C) (nI 0) (nI t1) (nI t2) mk (zb t3) (nI t1) (nI t2) (zb t3) (prG (8712 * (bgB bg on - 1) + 132 * st) (min rl C) tr rc (stG bg t1 sg)) ch tr rc (upd (taP (upd ta 5 (skN ch (ta 5) (chOf c0))) (ta 3 + cS tr rc C rl) (ta 4 + cC C rl)) 2 (ta 2 + 1))) := hD
          refine lv_aload_n hx hb dX3_line_164 rfl (lv_at hl 3 rfl) ?_
          refine va_get (D := D) (ci := 4) (v := .int (nI t1)) (C := RX3) (T := TX3) (N := 16) hx hb hts hinX3 hown hK.1 hP 0 rfl rfl 9 (by decide) (hts (.fieldLink RX3 39 "PrinterRowsModel" "pages" "I") (by decide +kernel)) (fun _ h9 => h9) rfl dX3_line_165 ?_
          exact W.iret (v := (nI t1)) hx hb hr (fun t ht hW => ⟨⟨_, ((prG (8712 * (bgB bg on - 1) + 132 * st) (min rl C) tr rc (stG bg t1 sg)), (upd (taP (upd ta 5 (skN ch (ta 5) (chOf c0))) (ta 3 + cS tr rc C rl) (ta 4 + cC C rl)) 2 (ta 2 + 1)), (t1, t2, t3), 0, (t1, t2, t3)), rfl, Or.inl ⟨by rw [hT1]; exact hfit, by rw [hT1], hT, rfl, by rw [hT1, lnQ, lnI, hsk, if_pos rfl, if_pos rfl], rfl⟩, by rw [ht]; exact hP, hD⟩, hS.F ht⟩) hS.2.2 dX3_line_168
        ·
          refine lv_aload_n hx hb dX3_line_135 rfl (lv_at hl 3 rfl) ?_
          refine va_get (D := D) (ci := 4) (v := .ref mC) (C := RX3) (T := TX3) (N := 16) hx hb hts hinX3 hown hK.1 hP 0 rfl rfl 4 (by decide) (hts (.fieldLink RX3 14 "PrinterRowsModel" "channels" "[I") (by decide +kernel)) (fun _ h9 => h9) rfl dX3_line_136 ?_
          refine lv_iload hx hb dX3_line_139 (lv_at hl 0 rfl) ?_
          refine va_iald hx hb hK.1 hP 2 0 rfl rfl (by rw [(coN_gt c_132).2]; exact isCh_in (coN_gt c_132).1) dX3_line_141 ?_
          refine lv_iconst (v := (-1)) hx hb dX3_line_142 (by decide +kernel) ?_
          refine lv_icmp_ne (tgt := 150) hx hb dX3_line_143 (by decide) (fun c_143 => ?_) (fun c_143 => ?_)
          ·
            refine lv_iconst (v := 0) hx hb dX3_line_150 (by decide +kernel) ?_
            refine lv_iadd hx hb dX3_line_151 ?_
            refine va_iast hx hb hK.1 hP hD hS 5 0 rfl rfl (vp_in_iff.mpr (by decide +kernel)) dX3_line_152 (fun H locs hP hD hS => ?_)
            rw [show (upd ta (5 : Int32).toNatClampNeg ((ta 5) + 0)) = (upd ta 5 (skN ch (ta 5) (chOf c0))) from by rw [show (5 : Int32).toNatClampNeg = 5 from rfl, skN, if_neg (coN_gt c_132).1, if_pos (by rw [← (coN_gt c_132).2]; exact c_143), Int32.add_zero]] at hP hD
            have hP : va_P D vwCl (wM cI m0 mS mC mT mR mA 0 (nI L) (nI C) (nI rl) (nI bg) (nI st) mk (zb on) (nI t1) (nI t2) (zb t3) sg ch tr rc (upd ta 5 (skN ch (ta 5) (chOf c0)))) H := hP
            have hD : va_D A (wM cI m0 mS mC mT mR mA 0 (nI L) (nI C) (nI rl) (nI bg) (nI st) mk (zb on) (nI t1) (nI t2) (zb t3) sg ch tr rc (upd ta 5 (skN ch (ta 5) (chOf c0)))) := hD
            refine lv_aload_n hx hb dX3_line_153 rfl (lv_at hl 3 rfl) ?_
            refine callQv (va_runV (As := []) (rest := []) ⟨hx, hb, hml, hown, hts⟩ (c_X3_settle l hbt hfit) (cwV 0 hts gX3_line_X3_settle rfl rfl rfl (by decide +kernel) ⟨(Nat.le_of_ble_eq_true rfl), (Nat.le_of_ble_eq_true rfl)⟩) (mu_pre hK hP hD rfl 0 rfl) rfl rfl hl.1 rfl (lv_room (Nat.le_of_ble_eq_true rfl)) dX3_line_154 ⟨(Nat.le_of_ble_eq_true rfl), (Nat.le_of_ble_eq_true rfl)⟩) hD hS hA (fun u_154 H locs w_154 hP hD hS => ?_)
            subst w_154
            have hP : va_P D vwCl (wM cI m0 mS mC mT mR mA 0 (nI L) (nI C) (nI rl) (nI t1) (nI t2) mk (zb t3) (nI t1) (nI t2) (zb t3) (stG bg t1 sg) ch tr rc (upd ta 5 (skN ch (ta 5) (chOf c0)))) H := hP
            have hD : va_D A (wM cI m0 mS mC mT mR mA 0 (nI L) (nI C) (nI rl) (nI t1) (nI t2) mk (zb t3) (nI t1) (nI t2) (zb t3) (stG bg t1 sg) ch tr rc (upd ta 5 (skN ch (ta 5) (chOf c0)))) := hD
            refine lv_aload_n hx hb dX3_line_157 rfl (lv_at hl 3 rfl) ?_
            refine lv_iload_n hx hb dX3_line_158 rfl (lv_at hl 2 rfl) ?_
            refine lv_iload hx hb dX3_line_159 (lv_at hl 1 rfl) ?_
            refine callQv (va_runV (As := [.int (nI ((bgB bg on) - 1)), .int (nI st)]) (rest := []) ⟨hx, hb, hml, hown, hts⟩ (c_X3_print l hC hrl hrc (bgB bg on - 1) st (by omega) (by omega)) (cwV 2 hts gX3_line_X3_print rfl rfl rfl (by decide +kernel) ⟨(Nat.le_of_ble_eq_true rfl), (Nat.le_of_ble_eq_true rfl)⟩) (mu_pre hK hP hD rfl 0 rfl) rfl rfl hl.1 rfl (lv_room (Nat.le_of_ble_eq_true rfl)) dX3_line_161 ⟨(Nat.le_of_ble_eq_true rfl), (Nat.le_of_ble_eq_true rfl)⟩) hD hS hA (fun u_161 H locs w_161 hP hD hS => ?_)
            have hP : va_P D vwCl (wM cI m0 mS mC mT mR mA 0 (nI L) (nI C) (nI 0) (nI t1) (nI t2) mk (zb t3) (nI t1) (nI t2) (zb t3) (prG (8712 * (bgB bg on - 1) + 132 * st) (min rl C) tr rc (stG bg t1 sg)) ch tr rc (upd (taP (upd ta 5 (skN ch (ta 5) (chOf c0))) (ta 3 + cS tr rc C rl) (ta 4 + cC C rl)) 2 (ta 2 + 1))) H := hP
            have hD : va_D A (wM cI m0 mS mC mT mR mA 0 (nI L) (nI C) (nI 0) (nI t1) (nI t2) mk (zb t3) (nI t1) (nI t2) (zb t3) (prG (8712 * (bgB bg on - 1) + 132 * st) (min rl C) tr rc (stG bg t1 sg)) ch tr rc (upd (taP (upd ta 5 (skN ch (ta 5) (chOf c0))) (ta 3 + cS tr rc C rl) (ta 4 + cC C rl)) 2 (ta 2 + 1))) := hD
            refine lv_aload_n hx hb dX3_line_164 rfl (lv_at hl 3 rfl) ?_
            refine va_get (D := D) (ci := 4) (v := .int (nI t1)) (C := RX3) (T := TX3) (N := 16) hx hb hts hinX3 hown hK.1 hP 0 rfl rfl 9 (by decide) (hts (.fieldLink RX3 39 "PrinterRowsModel" "pages" "I") (by decide +kernel)) (fun _ h9 => h9) rfl dX3_line_165 ?_
            exact W.iret (v := (nI t1)) hx hb hr (fun t ht hW => ⟨⟨_, ((prG (8712 * (bgB bg on - 1) + 132 * st) (min rl C) tr rc (stG bg t1 sg)), (upd (taP (upd ta 5 (skN ch (ta 5) (chOf c0))) (ta 3 + cS tr rc C rl) (ta 4 + cC C rl)) 2 (ta 2 + 1)), (t1, t2, t3), 0, (t1, t2, t3)), rfl, Or.inl ⟨by rw [hT1]; exact hfit, by rw [hT1], hT, rfl, by rw [hT1, lnQ, lnI, hsk, if_pos rfl, if_pos rfl], rfl⟩, by rw [ht]; exact hP, hD⟩, hS.F ht⟩) hS.2.2 dX3_line_168
          ·
            refine lv_iconst (v := 1) hx hb dX3_line_146 (by decide +kernel) ?_
            refine lv_goto (tgt := 151) hx hb dX3_line_147 (by decide) ?_
            refine lv_iadd hx hb dX3_line_151 ?_
            refine va_iast hx hb hK.1 hP hD hS 5 0 rfl rfl (vp_in_iff.mpr (by decide +kernel)) dX3_line_152 (fun H locs hP hD hS => ?_)
            rw [show (upd ta (5 : Int32).toNatClampNeg ((ta 5) + 1)) = (upd ta 5 (skN ch (ta 5) (chOf c0))) from by rw [show (5 : Int32).toNatClampNeg = 5 from rfl, skN, if_neg (coN_gt c_132).1, if_neg (fun h9 => h9 (by rw [← (coN_gt c_132).2]; exact c_143))]] at hP hD
            have hP : va_P D vwCl (wM cI m0 mS mC mT mR mA 0 (nI L) (nI C) (nI rl) (nI bg) (nI st) mk (zb on) (nI t1) (nI t2) (zb t3) sg ch tr rc (upd ta 5 (skN ch (ta 5) (chOf c0)))) H := hP
            have hD : va_D A (wM cI m0 mS mC mT mR mA 0 (nI L) (nI C) (nI rl) (nI bg) (nI st) mk (zb on) (nI t1) (nI t2) (zb t3) sg ch tr rc (upd ta 5 (skN ch (ta 5) (chOf c0)))) := hD
            refine lv_aload_n hx hb dX3_line_153 rfl (lv_at hl 3 rfl) ?_
            refine callQv (va_runV (As := []) (rest := []) ⟨hx, hb, hml, hown, hts⟩ (c_X3_settle l hbt hfit) (cwV 0 hts gX3_line_X3_settle rfl rfl rfl (by decide +kernel) ⟨(Nat.le_of_ble_eq_true rfl), (Nat.le_of_ble_eq_true rfl)⟩) (mu_pre hK hP hD rfl 0 rfl) rfl rfl hl.1 rfl (lv_room (Nat.le_of_ble_eq_true rfl)) dX3_line_154 ⟨(Nat.le_of_ble_eq_true rfl), (Nat.le_of_ble_eq_true rfl)⟩) hD hS hA (fun u_154 H locs w_154 hP hD hS => ?_)
            subst w_154
            have hP : va_P D vwCl (wM cI m0 mS mC mT mR mA 0 (nI L) (nI C) (nI rl) (nI t1) (nI t2) mk (zb t3) (nI t1) (nI t2) (zb t3) (stG bg t1 sg) ch tr rc (upd ta 5 (skN ch (ta 5) (chOf c0)))) H := hP
            have hD : va_D A (wM cI m0 mS mC mT mR mA 0 (nI L) (nI C) (nI rl) (nI t1) (nI t2) mk (zb t3) (nI t1) (nI t2) (zb t3) (stG bg t1 sg) ch tr rc (upd ta 5 (skN ch (ta 5) (chOf c0)))) := hD
            refine lv_aload_n hx hb dX3_line_157 rfl (lv_at hl 3 rfl) ?_
            refine lv_iload_n hx hb dX3_line_158 rfl (lv_at hl 2 rfl) ?_
            refine lv_iload hx hb dX3_line_159 (lv_at hl 1 rfl) ?_
            refine callQv (va_runV (As := [.int (nI ((bgB bg on) - 1)), .int (nI st)]) (rest := []) ⟨hx, hb, hml, hown, hts⟩ (c_X3_print l hC hrl hrc (bgB bg on - 1) st (by omega) (by omega)) (cwV 2 hts gX3_line_X3_print rfl rfl rfl (by decide +kernel) ⟨(Nat.le_of_ble_eq_true rfl), (Nat.le_of_ble_eq_true rfl)⟩) (mu_pre hK hP hD rfl 0 rfl) rfl rfl hl.1 rfl (lv_room (Nat.le_of_ble_eq_true rfl)) dX3_line_161 ⟨(Nat.le_of_ble_eq_true rfl), (Nat.le_of_ble_eq_true rfl)⟩) hD hS hA (fun u_161 H locs w_161 hP hD hS => ?_)
            have hP : va_P D vwCl (wM cI m0 mS mC mT mR mA 0 (nI L) (nI C) (nI 0) (nI t1) (nI t2) mk (zb t3) (nI t1) (nI t2) (zb t3) (prG (8712 * (bgB bg on - 1) + 132 * st) (min rl C) tr rc (stG bg t1 sg)) ch tr rc (upd (taP (upd ta 5 (skN ch (ta 5) (chOf c0))) (ta 3 + cS tr rc C rl) (ta 4 + cC C rl)) 2 (ta 2 + 1))) H := hP
            have hD : va_D A (wM cI m0 mS mC mT mR mA 0 (nI L) (nI C) (nI 0) (nI t1) (nI t2) mk (zb t3) (nI t1) (nI t2) (zb t3) (prG (8712 * (bgB bg on - 1) + 132 * st) (min rl C) tr rc (stG bg t1 sg)) ch tr rc (upd (taP (upd ta 5 (skN ch (ta 5) (chOf c0))) (ta 3 + cS tr rc C rl) (ta 4 + cC C rl)) 2 (ta 2 + 1))) := hD
            refine lv_aload_n hx hb dX3_line_164 rfl (lv_at hl 3 rfl) ?_
            refine va_get (D := D) (ci := 4) (v := .int (nI t1)) (C := RX3) (T := TX3) (N := 16) hx hb hts hinX3 hown hK.1 hP 0 rfl rfl 9 (by decide) (hts (.fieldLink RX3 39 "PrinterRowsModel" "pages" "I") (by decide +kernel)) (fun _ h9 => h9) rfl dX3_line_165 ?_
            exact W.iret (v := (nI t1)) hx hb hr (fun t ht hW => ⟨⟨_, ((prG (8712 * (bgB bg on - 1) + 132 * st) (min rl C) tr rc (stG bg t1 sg)), (upd (taP (upd ta 5 (skN ch (ta 5) (chOf c0))) (ta 3 + cS tr rc C rl) (ta 4 + cC C rl)) 2 (ta 2 + 1)), (t1, t2, t3), 0, (t1, t2, t3)), rfl, Or.inl ⟨by rw [hT1]; exact hfit, by rw [hT1], hT, rfl, by rw [hT1, lnQ, lnI, hsk, if_pos rfl, if_pos rfl], rfl⟩, by rw [ht]; exact hP, hD⟩, hS.F ht⟩) hS.2.2 dX3_line_168
      ·
        have hfit : ¬ t1 ≤ 40 := fun h9 => c_111 (nI_le (b := 40) h9 (by decide))
        refine lv_bipush (v := (-6)) hx hb dX3_line_114 (by decide +kernel) ?_
        exact W.iret (v := (-6)) hx hb hr (fun t ht hW => ⟨⟨_, (sg, ta, (bg, st, on), rl, (t1, t2, t3)), rfl, Or.inr ⟨by rw [hT1]; exact hfit, rfl, rfl⟩, by rw [ht]; exact hP, hD⟩, hS.F ht⟩) hS.2.2 dX3_line_116
  have k0 : ∀ (H : Heap) (locs : List Loc) (ls : Array Slot), (isSk c0 = false) → va_P D vwCl (wM cI m0 mS mC mT mR mA 0 (nI L) (nI C) (nI rl) (nI bg) (nI st) mk (zb on) (nI tp) (nI tl) (zb tb) sg ch tr rc ta) H → va_D A (wM cI m0 mS mC mT mR mA 0 (nI L) (nI C) (nI rl) (nI bg) (nI st) mk (zb on) (nI tp) (nI tl) (zb tb) sg ch tr rc ta) → va_S A s.heap H locs → lv_has ls 6 [(0, .ref m0), (1, .int c0), (2, .int 0)] → W p l e (headSpec wsX3_line ({ frames := 2, cells := 0, slots := 0, locals := 46 })).room s m (([.ref m0, .int c0] : List Value).toArray) below meth c H locs 0 0 (MQ below (qi D (fun (r : Int32) (u : (Nat → Int32) × (Nat → Int32) × (Nat × Nat × Bool) × Nat × (Nat × Nat × Bool)) => ((lnT L bg st on (isSk c0) w).1 ≤ 40 ∧ r = nI (lnT L bg st on (isSk c0) w).1 ∧ u.2.2.1 = (lnT L bg st on (isSk c0) w) ∧ u.2.2.2.1 = 0 ∧ u.1 = prG (8712 * lnQ L bg st on (isSk c0) w + 132 * lnI L bg st on (isSk c0) w) (min rl C) tr rc (stG bg (lnT L bg st on (isSk c0) w).1 sg) ∧ u.2.1 = upd (taP (upd ta 5 (skN ch (ta 5) (chOf c0))) (ta 3 + cS tr rc C rl) (ta 4 + cC C rl)) 2 (ta 2 + 1)) ∨ (¬ (lnT L bg st on (isSk c0) w).1 ≤ 40 ∧ r = -6 ∧ (u.1, u.2.1, u.2.2.1, u.2.2.2.1) = (sg, ta, (bg, st, on), rl))) (fun u : (Nat → Int32) × (Nat → Int32) × (Nat × Nat × Bool) × Nat × (Nat × Nat × Bool) => wM cI m0 mS mC mT mR mA 0 (nI L) (nI C) (nI u.2.2.2.1) (nI u.2.2.1.1) (nI u.2.2.1.2.1) mk (zb u.2.2.1.2.2) (nI u.2.2.2.2.1) (nI u.2.2.2.2.2.1) (zb u.2.2.2.2.2.2) u.1 ch tr rc u.2.1) (A)) (([.ref m0, .int c0] : List Value).toArray) s 0 0 A) (F0 m 39 ls []) := by
    intro H locs ls hsk hP hD hS hl
    refine lv_aload_n hx hb dX3_line_39 rfl (lv_at hl 0 rfl) ?_
    refine callQv (va_runV (As := []) (rest := []) ⟨hx, hb, hml, hown, hts⟩ (c_X3_tries l) (cwV 0 hts gX3_line_X3_tries rfl rfl rfl (by decide +kernel) ⟨(Nat.le_of_ble_eq_true rfl), (Nat.le_of_ble_eq_true rfl)⟩) (mu_pre hK hP hD rfl 0 rfl) rfl rfl hl.1 rfl (lv_room (Nat.le_of_ble_eq_true rfl)) dX3_line_40 ⟨(Nat.le_of_ble_eq_true rfl), (Nat.le_of_ble_eq_true rfl)⟩) hD hS hA (fun u_40 H locs w_40 hP hD hS => ?_)
    have hP : va_P D vwCl (wM cI m0 mS mC mT mR mA 0 (nI L) (nI C) (nI rl) (nI bg) (nI st) mk (zb on) (nI bg) (nI st) (zb on) sg ch tr rc ta) H := hP
    have hD : va_D A (wM cI m0 mS mC mT mR mA 0 (nI L) (nI C) (nI rl) (nI bg) (nI st) mk (zb on) (nI bg) (nI st) (zb on) sg ch tr rc ta) := hD
    refine lv_iload_n hx hb dX3_line_43 rfl (lv_at hl 2 rfl) ?_
    refine lv_if_ne (tgt := 56) hx hb dX3_line_44 (by decide) (fun c_44 => absurd (rfl) c_44) (fun c_44 => ?_)
    refine lv_aload_n hx hb dX3_line_47 rfl (lv_at hl 0 rfl) ?_
    refine lv_aload_n hx hb dX3_line_48 rfl (lv_at hl 0 rfl) ?_
    refine lv_iload_n hx hb dX3_line_49 rfl (lv_at hl 1 rfl) ?_
    refine vp_callSi (W.runV (As := [.int c0]) (rest := [.ref m0]) ⟨hx, hb, hml, hown, hts⟩ (c_X3_ahead l hL0 hL hst hch c0 (isSk_first hsk)) (cwV 1 hts gX3_line_X3_ahead rfl rfl rfl (by decide +kernel) ⟨(Nat.le_of_ble_eq_true rfl), (Nat.le_of_ble_eq_true rfl)⟩) (ro_pre hK hP rfl 0 rfl) rfl rfl hl.1 rfl (lv_room (Nat.le_of_ble_eq_true rfl)) dX3_line_50 ⟨(Nat.le_of_ble_eq_true rfl), (Nat.le_of_ble_eq_true rfl)⟩) (fun r_50 w_50 => ?_)
    subst w_50
    refine lv_topi (fun x_50 ex_50 => ?_)
    obtain rfl : x_50 = nI w := ex_50.trans (by rw [hw])
    refine callQv (va_runV (As := [.int (nI w)]) (rest := []) ⟨hx, hb, hml, hown, hts⟩ (c_X3_move l hL0 hL hst (by omega) w hwl) (cwV 1 hts gX3_line_X3_move rfl rfl rfl (by decide +kernel) ⟨(Nat.le_of_ble_eq_true rfl), (Nat.le_of_ble_eq_true rfl)⟩) (mu_pre hK hP hD rfl 0 rfl) rfl rfl hl.1 rfl (lv_room (Nat.le_of_ble_eq_true rfl)) dX3_line_53 ⟨(Nat.le_of_ble_eq_true rfl), (Nat.le_of_ble_eq_true rfl)⟩) hD hS hA (fun u_53 H locs w_53 hP hD hS => ?_)
    obtain ⟨t1, t2, t3⟩ := u_53
    have hmv : (t1, t2, t3) = mvn L w (bg, st, on) := w_53
    have hP : va_P D vwCl (wM cI m0 mS mC mT mR mA 0 (nI L) (nI C) (nI rl) (nI bg) (nI st) mk (zb on) (nI t1) (nI t2) (zb t3) sg ch tr rc ta) H := hP
    have hD : va_D A (wM cI m0 mS mC mT mR mA 0 (nI L) (nI C) (nI rl) (nI bg) (nI st) mk (zb on) (nI t1) (nI t2) (zb t3) sg ch tr rc ta) := hD
    have ht2 : t2 < L := by have h9 := mvn_st hL0 w (bg, st, on) hst; rw [← hmv] at h9; exact h9
    have ht1 : bg ≤ t1 ∧ t1 ≤ 106 := by
      have h8 := mvn_le (L := L) (Nat.zero_le w) (bg, st, on)
      have h9 := mvn_up (L := L) w (bg, st, on)
      rw [← hmv] at h8 h9
      dsimp only [mvn] at h8 h9
      omega
    have ht3 : t3 = true → 0 < t1 := fun h9 => by
      have h8 := mvn_on (L := L) w (bg, st, on) (by rw [← hmv]; exact h9)
      exact Nat.lt_of_lt_of_le (hon h8) ht1.1
    refine lv_aload_n hx hb dX3_line_56 rfl (lv_at hl 0 rfl) ?_
    refine callQv (va_runV (As := []) (rest := []) ⟨hx, hb, hml, hown, hts⟩ (c_X3_begin l) (cwV 0 hts gX3_line_X3_begin rfl rfl rfl (by decide +kernel) ⟨(Nat.le_of_ble_eq_true rfl), (Nat.le_of_ble_eq_true rfl)⟩) (mu_pre hK hP hD rfl 0 rfl) rfl rfl hl.1 rfl (lv_room (Nat.le_of_ble_eq_true rfl)) dX3_line_57 ⟨(Nat.le_of_ble_eq_true rfl), (Nat.le_of_ble_eq_true rfl)⟩) hD hS hA (fun u_57 H locs w_57 hP hD hS => ?_)
    have hP : va_P D vwCl (wM cI m0 mS mC mT mR mA 0 (nI L) (nI C) (nI rl) (nI bg) (nI st) mk (zb on) (nI (bgB t1 t3)) (nI t2) (zb true) sg ch tr rc ta) H := hP
    have hD : va_D A (wM cI m0 mS mC mT mR mA 0 (nI L) (nI C) (nI rl) (nI bg) (nI st) mk (zb on) (nI (bgB t1 t3)) (nI t2) (zb true) sg ch tr rc ta) := hD
    have hpp : 0 < bgB t1 t3 := bgB_pos ht3
    have hup : bgB t1 t3 ≤ 107 := Nat.le_trans (bgB_up t1 t3) (by omega)
    refine lv_aload_n hx hb dX3_line_60 rfl (lv_at hl 0 rfl) ?_
    refine va_get (D := D) (ci := 4) (v := .int (nI (bgB t1 t3))) (C := RX3) (T := TX3) (N := 16) hx hb hts hinX3 hown hK.1 hP 0 rfl rfl 13 (by decide) (hts (.fieldLink RX3 42 "PrinterRowsModel" "trialPages" "I") (by decide +kernel)) (fun _ h9 => h9) rfl dX3_line_61 ?_
    refine lv_iconst (v := 1) hx hb dX3_line_64 (by decide +kernel) ?_
    refine lv_isub hx hb dX3_line_65 ?_
    refine lv_topi (fun x_65 ex_65 => ?_)
    obtain rfl : x_65 = nI ((bgB t1 t3) - 1) := ex_65.trans (sub1 hpp)
    refine lv_istore_n (lv' := [(3, .int (nI ((bgB t1 t3) - 1))), (0, .ref m0), (1, .int c0), (2, .int 0)]) hx hb dX3_line_66 rfl hl (by decide) rfl (fun ls hl => ?_)
    refine lv_aload_n hx hb dX3_line_67 rfl (lv_at hl 1 rfl) ?_
    refine va_get (D := D) (ci := 4) (v := .int (nI t2)) (C := RX3) (T := TX3) (N := 16) hx hb hts hinX3 hown hK.1 hP 0 rfl rfl 14 (by decide) (hts (.fieldLink RX3 48 "PrinterRowsModel" "trialLine" "I") (by decide +kernel)) (fun _ h9 => h9) rfl dX3_line_68 ?_
    refine lv_istore (lv' := [(4, .int (nI t2)), (3, .int (nI ((bgB t1 t3) - 1))), (0, .ref m0), (1, .int c0), (2, .int 0)]) hx hb dX3_line_71 hl (by decide) rfl (fun ls hl => ?_)
    refine lv_iload_n hx hb dX3_line_73 rfl (lv_at hl 4 rfl) ?_
    refine lv_if_eq (tgt := 105) hx hb dX3_line_74 (by decide) (fun c_74 => ?_) (fun c_74 => absurd (rfl) c_74)
    have hT : (bgB t1 t3, t2, true) = (lnT L bg st on (isSk c0) w) := by rw [lnT, hsk, if_neg (by decide), ← hmv]
    have hT1 : (lnT L bg st on (isSk c0) w).1 = (bgB t1 t3) := by rw [← hT]
    have hbt : bg ≤ (bgB t1 t3) := Nat.le_trans ht1.1 (bgB_ge t1 t3)
    refine lv_aload_n hx hb dX3_line_105 rfl (lv_at hl 2 rfl) ?_
    refine va_get (D := D) (ci := 4) (v := .int (nI (bgB t1 t3))) (C := RX3) (T := TX3) (N := 16) hx hb hts hinX3 hown hK.1 hP 0 rfl rfl 13 (by decide) (hts (.fieldLink RX3 42 "PrinterRowsModel" "trialPages" "I") (by decide +kernel)) (fun _ h9 => h9) rfl dX3_line_106 ?_
    refine lv_bipush (v := 40) hx hb dX3_line_109 (by decide +kernel) ?_
    refine lv_icmp_le (tgt := 117) hx hb dX3_line_111 (by decide) (fun c_111 => ?_) (fun c_111 => ?_)
    ·
      have hfit : (bgB t1 t3) ≤ 40 := (nI_leI (b := 40) (by omega) (by decide)).mp c_111
      refine lv_iload_n hx hb dX3_line_117 rfl (lv_at hl 3 rfl) ?_
      refine vp_callSi (W.runS (As := [.int c0]) (rest := []) ⟨hx, hb, hml, hown, hts⟩ (c_X3_channelOf l (c0)) (va_cwS 1 hts gX3_line_X3_channelOf rfl rfl rfl (by decide +kernel) ⟨(Nat.le_of_ble_eq_true rfl), (Nat.le_of_ble_eq_true rfl)⟩) pu_pre rfl rfl hl.1 rfl (lv_room (Nat.le_of_ble_eq_true rfl)) dX3_line_118 ⟨(Nat.le_of_ble_eq_true rfl), (Nat.le_of_ble_eq_true rfl)⟩) (fun r_118 w_118 => ?_)
      subst w_118
      refine lv_istore (lv' := [(5, .int (coN c0)), (4, .int (nI t2)), (3, .int (nI ((bgB t1 t3) - 1))), (0, .ref m0), (1, .int c0), (2, .int 0)]) hx hb dX3_line_121 hl (by decide) rfl (fun ls hl => ?_)
      refine lv_aload_n hx hb dX3_line_123 rfl (lv_at hl 3 rfl) ?_
      refine va_get (D := D) (ci := 4) (v := .ref mA) (C := RX3) (T := TX3) (N := 16) hx hb hts hinX3 hown hK.1 hP 0 rfl rfl 7 (by decide) (hts (.fieldLink RX3 23 "PrinterRowsModel" "tallies" "[I") (by decide +kernel)) (fun _ h9 => h9) rfl dX3_line_124 ?_
      refine lv_iconst (v := 5) hx hb dX3_line_127 (by decide +kernel) ?_
      refine lv_dup2_11 hx hb dX3_line_128 rfl rfl ?_
      refine va_iald hx hb hK.1 hP 5 0 rfl rfl (vp_in_iff.mpr (by decide +kernel)) dX3_line_129 ?_
      refine lv_topi (fun x_129 ex_129 => ?_)
      obtain rfl : x_129 = (ta 5) := ex_129
      refine lv_iload hx hb dX3_line_130 (lv_at hl 0 rfl) ?_
      refine lv_if_le (tgt := 150) hx hb dX3_line_132 (by decide) (fun c_132 => ?_) (fun c_132 => ?_)
      ·
        refine lv_iconst (v := 0) hx hb dX3_line_150 (by decide +kernel) ?_
        refine lv_iadd hx hb dX3_line_151 ?_
        refine va_iast hx hb hK.1 hP hD hS 5 0 rfl rfl (vp_in_iff.mpr (by decide +kernel)) dX3_line_152 (fun H locs hP hD hS => ?_)
        rw [show (upd ta (5 : Int32).toNatClampNeg ((ta 5) + 0)) = (upd ta 5 (skN ch (ta 5) (chOf c0))) from by rw [show (5 : Int32).toNatClampNeg = 5 from rfl, skN, if_pos (coN_le c_132), Int32.add_zero]] at hP hD
        have hP : va_P D vwCl (wM cI m0 mS mC mT mR mA 0 (nI L) (nI C) (nI rl) (nI bg) (nI st) mk (zb on) (nI (bgB t1 t3)) (nI t2) (zb true) sg ch tr rc (upd ta 5 (skN ch (ta 5) (chOf c0)))) H := hP
        have hD : va_D A (wM cI m0 mS mC mT mR mA 0 (nI L) (nI C) (nI rl) (nI bg) (nI st) mk (zb on) (nI (bgB t1 t3)) (nI t2) (zb true) sg ch tr rc (upd ta 5 (skN ch (ta 5) (chOf c0)))) := hD
        refine lv_aload_n hx hb dX3_line_153 rfl (lv_at hl 3 rfl) ?_
        refine callQv (va_runV (As := []) (rest := []) ⟨hx, hb, hml, hown, hts⟩ (c_X3_settle l hbt hfit) (cwV 0 hts gX3_line_X3_settle rfl rfl rfl (by decide +kernel) ⟨(Nat.le_of_ble_eq_true rfl), (Nat.le_of_ble_eq_true rfl)⟩) (mu_pre hK hP hD rfl 0 rfl) rfl rfl hl.1 rfl (lv_room (Nat.le_of_ble_eq_true rfl)) dX3_line_154 ⟨(Nat.le_of_ble_eq_true rfl), (Nat.le_of_ble_eq_true rfl)⟩) hD hS hA (fun u_154 H locs w_154 hP hD hS => ?_)
        subst w_154
        have hP : va_P D vwCl (wM cI m0 mS mC mT mR mA 0 (nI L) (nI C) (nI rl) (nI (bgB t1 t3)) (nI t2) mk (zb true) (nI (bgB t1 t3)) (nI t2) (zb true) (stG bg (bgB t1 t3) sg) ch tr rc (upd ta 5 (skN ch (ta 5) (chOf c0)))) H := hP
        have hD : va_D A (wM cI m0 mS mC mT mR mA 0 (nI L) (nI C) (nI rl) (nI (bgB t1 t3)) (nI t2) mk (zb true) (nI (bgB t1 t3)) (nI t2) (zb true) (stG bg (bgB t1 t3) sg) ch tr rc (upd ta 5 (skN ch (ta 5) (chOf c0)))) := hD
        refine lv_aload_n hx hb dX3_line_157 rfl (lv_at hl 3 rfl) ?_
        refine lv_iload_n hx hb dX3_line_158 rfl (lv_at hl 2 rfl) ?_
        refine lv_iload hx hb dX3_line_159 (lv_at hl 1 rfl) ?_
        refine callQv (va_runV (As := [.int (nI ((bgB t1 t3) - 1)), .int (nI t2)]) (rest := []) ⟨hx, hb, hml, hown, hts⟩ (c_X3_print l hC hrl hrc (bgB t1 t3 - 1) t2 (by omega) (by omega)) (cwV 2 hts gX3_line_X3_print rfl rfl rfl (by decide +kernel) ⟨(Nat.le_of_ble_eq_true rfl), (Nat.le_of_ble_eq_true rfl)⟩) (mu_pre hK hP hD rfl 0 rfl) rfl rfl hl.1 rfl (lv_room (Nat.le_of_ble_eq_true rfl)) dX3_line_161 ⟨(Nat.le_of_ble_eq_true rfl), (Nat.le_of_ble_eq_true rfl)⟩) hD hS hA (fun u_161 H locs w_161 hP hD hS => ?_)
        have hP : va_P D vwCl (wM cI m0 mS mC mT mR mA 0 (nI L) (nI C) (nI 0) (nI (bgB t1 t3)) (nI t2) mk (zb true) (nI (bgB t1 t3)) (nI t2) (zb true) (prG (8712 * (bgB t1 t3 - 1) + 132 * t2) (min rl C) tr rc (stG bg (bgB t1 t3) sg)) ch tr rc (upd (taP (upd ta 5 (skN ch (ta 5) (chOf c0))) (ta 3 + cS tr rc C rl) (ta 4 + cC C rl)) 2 (ta 2 + 1))) H := hP
        have hD : va_D A (wM cI m0 mS mC mT mR mA 0 (nI L) (nI C) (nI 0) (nI (bgB t1 t3)) (nI t2) mk (zb true) (nI (bgB t1 t3)) (nI t2) (zb true) (prG (8712 * (bgB t1 t3 - 1) + 132 * t2) (min rl C) tr rc (stG bg (bgB t1 t3) sg)) ch tr rc (upd (taP (upd ta 5 (skN ch (ta 5) (chOf c0))) (ta 3 + cS tr rc C rl) (ta 4 + cC C rl)) 2 (ta 2 + 1))) := hD
        refine lv_aload_n hx hb dX3_line_164 rfl (lv_at hl 3 rfl) ?_
        refine va_get (D := D) (ci := 4) (v := .int (nI (bgB t1 t3))) (C := RX3) (T := TX3) (N := 16) hx hb hts hinX3 hown hK.1 hP 0 rfl rfl 9 (by decide) (hts (.fieldLink RX3 39 "PrinterRowsModel" "pages" "I") (by decide +kernel)) (fun _ h9 => h9) rfl dX3_line_165 ?_
        exact W.iret (v := (nI (bgB t1 t3))) hx hb hr (fun t ht hW => ⟨⟨_, ((prG (8712 * (bgB t1 t3 - 1) + 132 * t2) (min rl C) tr rc (stG bg (bgB t1 t3) sg)), (upd (taP (upd ta 5 (skN ch (ta 5) (chOf c0))) (ta 3 + cS tr rc C rl) (ta 4 + cC C rl)) 2 (ta 2 + 1)), ((bgB t1 t3), t2, true), 0, ((bgB t1 t3), t2, true)), rfl, Or.inl ⟨by rw [hT1]; exact hfit, by rw [hT1], hT, rfl, by rw [hT1, lnQ, lnI, hsk, if_neg (by decide), if_neg (by decide), ← hmv], rfl⟩, by rw [ht]; exact hP, hD⟩, hS.F ht⟩) hS.2.2 dX3_line_168
      ·
        refine lv_aload_n hx hb dX3_line_135 rfl (lv_at hl 3 rfl) ?_
        refine va_get (D := D) (ci := 4) (v := .ref mC) (C := RX3) (T := TX3) (N := 16) hx hb hts hinX3 hown hK.1 hP 0 rfl rfl 4 (by decide) (hts (.fieldLink RX3 14 "PrinterRowsModel" "channels" "[I") (by decide +kernel)) (fun _ h9 => h9) rfl dX3_line_136 ?_
        refine lv_iload hx hb dX3_line_139 (lv_at hl 0 rfl) ?_
        refine va_iald hx hb hK.1 hP 2 0 rfl rfl (by rw [(coN_gt c_132).2]; exact isCh_in (coN_gt c_132).1) dX3_line_141 ?_
        refine lv_iconst (v := (-1)) hx hb dX3_line_142 (by decide +kernel) ?_
        refine lv_icmp_ne (tgt := 150) hx hb dX3_line_143 (by decide) (fun c_143 => ?_) (fun c_143 => ?_)
        ·
          refine lv_iconst (v := 0) hx hb dX3_line_150 (by decide +kernel) ?_
          refine lv_iadd hx hb dX3_line_151 ?_
          refine va_iast hx hb hK.1 hP hD hS 5 0 rfl rfl (vp_in_iff.mpr (by decide +kernel)) dX3_line_152 (fun H locs hP hD hS => ?_)
          rw [show (upd ta (5 : Int32).toNatClampNeg ((ta 5) + 0)) = (upd ta 5 (skN ch (ta 5) (chOf c0))) from by rw [show (5 : Int32).toNatClampNeg = 5 from rfl, skN, if_neg (coN_gt c_132).1, if_pos (by rw [← (coN_gt c_132).2]; exact c_143), Int32.add_zero]] at hP hD
          have hP : va_P D vwCl (wM cI m0 mS mC mT mR mA 0 (nI L) (nI C) (nI rl) (nI bg) (nI st) mk (zb on) (nI (bgB t1 t3)) (nI t2) (zb true) sg ch tr rc (upd ta 5 (skN ch (ta 5) (chOf c0)))) H := hP
          have hD : va_D A (wM cI m0 mS mC mT mR mA 0 (nI L) (nI C) (nI rl) (nI bg) (nI st) mk (zb on) (nI (bgB t1 t3)) (nI t2) (zb true) sg ch tr rc (upd ta 5 (skN ch (ta 5) (chOf c0)))) := hD
          refine lv_aload_n hx hb dX3_line_153 rfl (lv_at hl 3 rfl) ?_
          refine callQv (va_runV (As := []) (rest := []) ⟨hx, hb, hml, hown, hts⟩ (c_X3_settle l hbt hfit) (cwV 0 hts gX3_line_X3_settle rfl rfl rfl (by decide +kernel) ⟨(Nat.le_of_ble_eq_true rfl), (Nat.le_of_ble_eq_true rfl)⟩) (mu_pre hK hP hD rfl 0 rfl) rfl rfl hl.1 rfl (lv_room (Nat.le_of_ble_eq_true rfl)) dX3_line_154 ⟨(Nat.le_of_ble_eq_true rfl), (Nat.le_of_ble_eq_true rfl)⟩) hD hS hA (fun u_154 H locs w_154 hP hD hS => ?_)
          subst w_154
          have hP : va_P D vwCl (wM cI m0 mS mC mT mR mA 0 (nI L) (nI C) (nI rl) (nI (bgB t1 t3)) (nI t2) mk (zb true) (nI (bgB t1 t3)) (nI t2) (zb true) (stG bg (bgB t1 t3) sg) ch tr rc (upd ta 5 (skN ch (ta 5) (chOf c0)))) H := hP
          have hD : va_D A (wM cI m0 mS mC mT mR mA 0 (nI L) (nI C) (nI rl) (nI (bgB t1 t3)) (nI t2) mk (zb true) (nI (bgB t1 t3)) (nI t2) (zb true) (stG bg (bgB t1 t3) sg) ch tr rc (upd ta 5 (skN ch (ta 5) (chOf c0)))) := hD
          refine lv_aload_n hx hb dX3_line_157 rfl (lv_at hl 3 rfl) ?_
          refine lv_iload_n hx hb dX3_line_158 rfl (lv_at hl 2 rfl) ?_
          refine lv_iload hx hb dX3_line_159 (lv_at hl 1 rfl) ?_
          refine callQv (va_runV (As := [.int (nI ((bgB t1 t3) - 1)), .int (nI t2)]) (rest := []) ⟨hx, hb, hml, hown, hts⟩ (c_X3_print l hC hrl hrc (bgB t1 t3 - 1) t2 (by omega) (by omega)) (cwV 2 hts gX3_line_X3_print rfl rfl rfl (by decide +kernel) ⟨(Nat.le_of_ble_eq_true rfl), (Nat.le_of_ble_eq_true rfl)⟩) (mu_pre hK hP hD rfl 0 rfl) rfl rfl hl.1 rfl (lv_room (Nat.le_of_ble_eq_true rfl)) dX3_line_161 ⟨(Nat.le_of_ble_eq_true rfl), (Nat.le_of_ble_eq_true rfl)⟩) hD hS hA (fun u_161 H locs w_161 hP hD hS => ?_)
          have hP : va_P D vwCl (wM cI m0 mS mC mT mR mA 0 (nI L) (nI C) (nI 0) (nI (bgB t1 t3)) (nI t2) mk (zb true) (nI (bgB t1 t3)) (nI t2) (zb true) (prG (8712 * (bgB t1 t3 - 1) + 132 * t2) (min rl C) tr rc (stG bg (bgB t1 t3) sg)) ch tr rc (upd (taP (upd ta 5 (skN ch (ta 5) (chOf c0))) (ta 3 + cS tr rc C rl) (ta 4 + cC C rl)) 2 (ta 2 + 1))) H := hP
          have hD : va_D A (wM cI m0 mS mC mT mR mA 0 (nI L) (nI C) (nI 0) (nI (bgB t1 t3)) (nI t2) mk (zb true) (nI (bgB t1 t3)) (nI t2) (zb true) (prG (8712 * (bgB t1 t3 - 1) + 132 * t2) (min rl C) tr rc (stG bg (bgB t1 t3) sg)) ch tr rc (upd (taP (upd ta 5 (skN ch (ta 5) (chOf c0))) (ta 3 + cS tr rc C rl) (ta 4 + cC C rl)) 2 (ta 2 + 1))) := hD
          refine lv_aload_n hx hb dX3_line_164 rfl (lv_at hl 3 rfl) ?_
          refine va_get (D := D) (ci := 4) (v := .int (nI (bgB t1 t3))) (C := RX3) (T := TX3) (N := 16) hx hb hts hinX3 hown hK.1 hP 0 rfl rfl 9 (by decide) (hts (.fieldLink RX3 39 "PrinterRowsModel" "pages" "I") (by decide +kernel)) (fun _ h9 => h9) rfl dX3_line_165 ?_
          exact W.iret (v := (nI (bgB t1 t3))) hx hb hr (fun t ht hW => ⟨⟨_, ((prG (8712 * (bgB t1 t3 - 1) + 132 * t2) (min rl C) tr rc (stG bg (bgB t1 t3) sg)), (upd (taP (upd ta 5 (skN ch (ta 5) (chOf c0))) (ta 3 + cS tr rc C rl) (ta 4 + cC C rl)) 2 (ta 2 + 1)), ((bgB t1 t3), t2, true), 0, ((bgB t1 t3), t2, true)), rfl, Or.inl ⟨by rw [hT1]; exact hfit, by rw [hT1], hT, rfl, by rw [hT1, lnQ, lnI, hsk, if_neg (by decide), if_neg (by decide), ← hmv], rfl⟩, by rw [ht]; exact hP, hD⟩, hS.F ht⟩) hS.2.2 dX3_line_168
        ·
          refine lv_iconst (v := 1) hx hb dX3_line_146 (by decide +kernel) ?_
          refine lv_goto (tgt := 151) hx hb dX3_line_147 (by decide) ?_
          refine lv_iadd hx hb dX3_line_151 ?_
          refine va_iast hx hb hK.1 hP hD hS 5 0 rfl rfl (vp_in_iff.mpr (by decide +kernel)) dX3_line_152 (fun H locs hP hD hS => ?_)
          rw [show (upd ta (5 : Int32).toNatClampNeg ((ta 5) + 1)) = (upd ta 5 (skN ch (ta 5) (chOf c0))) from by rw [show (5 : Int32).toNatClampNeg = 5 from rfl, skN, if_neg (coN_gt c_132).1, if_neg (fun h9 => h9 (by rw [← (coN_gt c_132).2]; exact c_143))]] at hP hD
          have hP : va_P D vwCl (wM cI m0 mS mC mT mR mA 0 (nI L) (nI C) (nI rl) (nI bg) (nI st) mk (zb on) (nI (bgB t1 t3)) (nI t2) (zb true) sg ch tr rc (upd ta 5 (skN ch (ta 5) (chOf c0)))) H := hP
          have hD : va_D A (wM cI m0 mS mC mT mR mA 0 (nI L) (nI C) (nI rl) (nI bg) (nI st) mk (zb on) (nI (bgB t1 t3)) (nI t2) (zb true) sg ch tr rc (upd ta 5 (skN ch (ta 5) (chOf c0)))) := hD
          refine lv_aload_n hx hb dX3_line_153 rfl (lv_at hl 3 rfl) ?_
          refine callQv (va_runV (As := []) (rest := []) ⟨hx, hb, hml, hown, hts⟩ (c_X3_settle l hbt hfit) (cwV 0 hts gX3_line_X3_settle rfl rfl rfl (by decide +kernel) ⟨(Nat.le_of_ble_eq_true rfl), (Nat.le_of_ble_eq_true rfl)⟩) (mu_pre hK hP hD rfl 0 rfl) rfl rfl hl.1 rfl (lv_room (Nat.le_of_ble_eq_true rfl)) dX3_line_154 ⟨(Nat.le_of_ble_eq_true rfl), (Nat.le_of_ble_eq_true rfl)⟩) hD hS hA (fun u_154 H locs w_154 hP hD hS => ?_)
          subst w_154
          have hP : va_P D vwCl (wM cI m0 mS mC mT mR mA 0 (nI L) (nI C) (nI rl) (nI (bgB t1 t3)) (nI t2) mk (zb true) (nI (bgB t1 t3)) (nI t2) (zb true) (stG bg (bgB t1 t3) sg) ch tr rc (upd ta 5 (skN ch (ta 5) (chOf c0)))) H := hP
          have hD : va_D A (wM cI m0 mS mC mT mR mA 0 (nI L) (nI C) (nI rl) (nI (bgB t1 t3)) (nI t2) mk (zb true) (nI (bgB t1 t3)) (nI t2) (zb true) (stG bg (bgB t1 t3) sg) ch tr rc (upd ta 5 (skN ch (ta 5) (chOf c0)))) := hD
          refine lv_aload_n hx hb dX3_line_157 rfl (lv_at hl 3 rfl) ?_
          refine lv_iload_n hx hb dX3_line_158 rfl (lv_at hl 2 rfl) ?_
          refine lv_iload hx hb dX3_line_159 (lv_at hl 1 rfl) ?_
          refine callQv (va_runV (As := [.int (nI ((bgB t1 t3) - 1)), .int (nI t2)]) (rest := []) ⟨hx, hb, hml, hown, hts⟩ (c_X3_print l hC hrl hrc (bgB t1 t3 - 1) t2 (by omega) (by omega)) (cwV 2 hts gX3_line_X3_print rfl rfl rfl (by decide +kernel) ⟨(Nat.le_of_ble_eq_true rfl), (Nat.le_of_ble_eq_true rfl)⟩) (mu_pre hK hP hD rfl 0 rfl) rfl rfl hl.1 rfl (lv_room (Nat.le_of_ble_eq_true rfl)) dX3_line_161 ⟨(Nat.le_of_ble_eq_true rfl), (Nat.le_of_ble_eq_true rfl)⟩) hD hS hA (fun u_161 H locs w_161 hP hD hS => ?_)
          have hP : va_P D vwCl (wM cI m0 mS mC mT mR mA 0 (nI L) (nI C) (nI 0) (nI (bgB t1 t3)) (nI t2) mk (zb true) (nI (bgB t1 t3)) (nI t2) (zb true) (prG (8712 * (bgB t1 t3 - 1) + 132 * t2) (min rl C) tr rc (stG bg (bgB t1 t3) sg)) ch tr rc (upd (taP (upd ta 5 (skN ch (ta 5) (chOf c0))) (ta 3 + cS tr rc C rl) (ta 4 + cC C rl)) 2 (ta 2 + 1))) H := hP
          have hD : va_D A (wM cI m0 mS mC mT mR mA 0 (nI L) (nI C) (nI 0) (nI (bgB t1 t3)) (nI t2) mk (zb true) (nI (bgB t1 t3)) (nI t2) (zb true) (prG (8712 * (bgB t1 t3 - 1) + 132 * t2) (min rl C) tr rc (stG bg (bgB t1 t3) sg)) ch tr rc (upd (taP (upd ta 5 (skN ch (ta 5) (chOf c0))) (ta 3 + cS tr rc C rl) (ta 4 + cC C rl)) 2 (ta 2 + 1))) := hD
          refine lv_aload_n hx hb dX3_line_164 rfl (lv_at hl 3 rfl) ?_
          refine va_get (D := D) (ci := 4) (v := .int (nI (bgB t1 t3))) (C := RX3) (T := TX3) (N := 16) hx hb hts hinX3 hown hK.1 hP 0 rfl rfl 9 (by decide) (hts (.fieldLink RX3 39 "PrinterRowsModel" "pages" "I") (by decide +kernel)) (fun _ h9 => h9) rfl dX3_line_165 ?_
          exact W.iret (v := (nI (bgB t1 t3))) hx hb hr (fun t ht hW => ⟨⟨_, ((prG (8712 * (bgB t1 t3 - 1) + 132 * t2) (min rl C) tr rc (stG bg (bgB t1 t3) sg)), (upd (taP (upd ta 5 (skN ch (ta 5) (chOf c0))) (ta 3 + cS tr rc C rl) (ta 4 + cC C rl)) 2 (ta 2 + 1)), ((bgB t1 t3), t2, true), 0, ((bgB t1 t3), t2, true)), rfl, Or.inl ⟨by rw [hT1]; exact hfit, by rw [hT1], hT, rfl, by rw [hT1, lnQ, lnI, hsk, if_neg (by decide), if_neg (by decide), ← hmv], rfl⟩, by rw [ht]; exact hP, hD⟩, hS.F ht⟩) hS.2.2 dX3_line_168
    ·
      have hfit : ¬ (bgB t1 t3) ≤ 40 := fun h9 => c_111 (nI_le (b := 40) h9 (by decide))
      refine lv_bipush (v := (-6)) hx hb dX3_line_114 (by decide +kernel) ?_
      exact W.iret (v := (-6)) hx hb hr (fun t ht hW => ⟨⟨_, (sg, ta, (bg, st, on), rl, (bgB t1 t3, t2, true)), rfl, Or.inr ⟨by rw [hT1]; exact hfit, rfl, rfl⟩, by rw [ht]; exact hP, hD⟩, hS.F ht⟩) hS.2.2 dX3_line_116
  refine lv_iload_n hx hb dX3_line_5 rfl (lv_at hl 1 rfl) ?_
  refine lv_sipush (v := 256) hx hb dX3_line_6 (by decide +kernel) ?_
  refine lv_icmp_lt (tgt := 19) hx hb dX3_line_9 (by decide) (fun c_9 => ?_) (fun c_9 => ?_)
  ·
    refine lv_iload_n hx hb dX3_line_19 rfl (lv_at hl 1 rfl) ?_
    refine lv_sipush (v := 273) hx hb dX3_line_20 (by decide +kernel) ?_
    refine lv_icmp_lt (tgt := 37) hx hb dX3_line_23 (by decide) (fun c_23 => ?_) (fun c_23 => ?_)
    ·
      refine lv_iconst (v := 0) hx hb dX3_line_37 (by decide +kernel) ?_
      refine lv_istore_n (lv' := [(2, .int 0), (0, .ref m0), (1, .int c0)]) hx hb dX3_line_38 rfl hl (by decide) rfl (fun ls hl => ?_)
      have f_9 := i32_lt.mp c_9
      have f_23 := i32_lt.mp c_23
      exact k0 _ _ _ (isSk_no (by omega)) hP hD hS (lv_sub hl [1, 2, 0] rfl)
    ·
      refine lv_iload_n hx hb dX3_line_26 rfl (lv_at hl 1 rfl) ?_
      refine lv_sipush (v := 284) hx hb dX3_line_27 (by decide +kernel) ?_
      refine lv_icmp_gt (tgt := 37) hx hb dX3_line_30 (by decide) (fun c_30 => ?_) (fun c_30 => ?_)
      ·
        refine lv_iconst (v := 0) hx hb dX3_line_37 (by decide +kernel) ?_
        refine lv_istore_n (lv' := [(2, .int 0), (0, .ref m0), (1, .int c0)]) hx hb dX3_line_38 rfl hl (by decide) rfl (fun ls hl => ?_)
        have f_9 := i32_lt.mp c_9
        have f_23 := i32_nlt c_23
        have f_30 := i32_lt.mp c_30
        exact k0 _ _ _ (isSk_no (by omega)) hP hD hS (lv_sub hl [1, 2, 0] rfl)
      ·
        refine lv_iconst (v := 1) hx hb dX3_line_33 (by decide +kernel) ?_
        refine lv_goto (tgt := 38) hx hb dX3_line_34 (by decide) ?_
        refine lv_istore_n (lv' := [(2, .int 1), (0, .ref m0), (1, .int c0)]) hx hb dX3_line_38 rfl hl (by decide) rfl (fun ls hl => ?_)
        have f_9 := i32_lt.mp c_9
        have f_23 := i32_nlt c_23
        have f_30 := i32_nlt c_30
        exact k1 _ _ _ (isSk_iff.mpr (by omega)) hP hD hS (lv_sub hl [1, 2, 0] rfl)
  ·
    refine lv_iload_n hx hb dX3_line_12 rfl (lv_at hl 1 rfl) ?_
    refine lv_sipush (v := 259) hx hb dX3_line_13 (by decide +kernel) ?_
    refine lv_icmp_le (tgt := 33) hx hb dX3_line_16 (by decide) (fun c_16 => ?_) (fun c_16 => ?_)
    ·
      refine lv_iconst (v := 1) hx hb dX3_line_33 (by decide +kernel) ?_
      refine lv_goto (tgt := 38) hx hb dX3_line_34 (by decide) ?_
      refine lv_istore_n (lv' := [(2, .int 1), (0, .ref m0), (1, .int c0)]) hx hb dX3_line_38 rfl hl (by decide) rfl (fun ls hl => ?_)
      have f_9 := i32_nlt c_9
      have f_16 := i32_le.mp c_16
      exact k1 _ _ _ (isSk_iff.mpr (by omega)) hP hD hS (lv_sub hl [1, 2, 0] rfl)
    ·
      refine lv_iload_n hx hb dX3_line_19 rfl (lv_at hl 1 rfl) ?_
      refine lv_sipush (v := 273) hx hb dX3_line_20 (by decide +kernel) ?_
      refine lv_icmp_lt (tgt := 37) hx hb dX3_line_23 (by decide) (fun c_23 => ?_) (fun c_23 => ?_)
      ·
        refine lv_iconst (v := 0) hx hb dX3_line_37 (by decide +kernel) ?_
        refine lv_istore_n (lv' := [(2, .int 0), (0, .ref m0), (1, .int c0)]) hx hb dX3_line_38 rfl hl (by decide) rfl (fun ls hl => ?_)
        have f_9 := i32_nlt c_9
        have f_16 := i32_nle c_16
        have f_23 := i32_lt.mp c_23
        exact k0 _ _ _ (isSk_no (by omega)) hP hD hS (lv_sub hl [1, 2, 0] rfl)
      ·
        refine lv_iload_n hx hb dX3_line_26 rfl (lv_at hl 1 rfl) ?_
        refine lv_sipush (v := 284) hx hb dX3_line_27 (by decide +kernel) ?_
        refine lv_icmp_gt (tgt := 37) hx hb dX3_line_30 (by decide) (fun c_30 => ?_) (fun c_30 => ?_)
        ·
          refine lv_iconst (v := 0) hx hb dX3_line_37 (by decide +kernel) ?_
          refine lv_istore_n (lv' := [(2, .int 0), (0, .ref m0), (1, .int c0)]) hx hb dX3_line_38 rfl hl (by decide) rfl (fun ls hl => ?_)
          have f_9 := i32_nlt c_9
          have f_16 := i32_nle c_16
          have f_23 := i32_nlt c_23
          have f_30 := i32_lt.mp c_30
          exact k0 _ _ _ (isSk_no (by omega)) hP hD hS (lv_sub hl [1, 2, 0] rfl)
        ·
          refine lv_iconst (v := 1) hx hb dX3_line_33 (by decide +kernel) ?_
          refine lv_goto (tgt := 38) hx hb dX3_line_34 (by decide) ?_
          refine lv_istore_n (lv' := [(2, .int 1), (0, .ref m0), (1, .int c0)]) hx hb dX3_line_38 rfl hl (by decide) rfl (fun ls hl => ?_)
          have f_9 := i32_nlt c_9
          have f_16 := i32_nle c_16
          have f_23 := i32_nlt c_23
          have f_30 := i32_nlt c_30
          exact k1 _ _ _ (isSk_iff.mpr (by omega)) hP hD hS (lv_sub hl [1, 2, 0] rfl)
end
