/-! ===== BEGIN words of one list among another's, by their places ===== -/
theorem goodIn_r {big : List Cond} (ws : List Cond) (ps : List Nat) (hp : ws = ps.filterMap (fun i => big[i]?)) (h : ws.all goodWord = true) : GoodIn big ws := by
  intro w hw
  have h1 := List.all_eq_true.mp h w hw
  rw [hp] at hw
  obtain ⟨i, -, hi⟩ := List.mem_filterMap.mp hw
  have hm : w ∈ big := by first | exact List.mem_of_getElem? hi | exact List.getElem?_mem hi
  exact ⟨hm, good_of_word h1⟩
theorem goodIn_app {big a b : List Cond} (ha : GoodIn big a) (hb : GoodIn big b) : GoodIn big (a ++ b) := fun w h => (List.mem_append.mp h).elim (ha w) (hb w)
theorem goodIn_ca {big a b : List Cond} {c : Cond} (ha : GoodIn big (c :: a)) (hb : GoodIn big b) : GoodIn big (c :: (a ++ b)) := fun w h => (List.mem_cons.mp h).elim (fun e => ha w (List.mem_cons.mpr (Or.inl e))) (fun h => (List.mem_append.mp h).elim (fun h => ha w (List.mem_cons.mpr (Or.inr h))) (hb w))
theorem goodIn_sub {big ws : List Cond} (hm : ∀ w ∈ ws, w ∈ big) (h : ws.all goodWord = true) : GoodIn big ws := fun w hw => ⟨hm w hw, good_of_word (List.all_eq_true.mp h w hw)⟩
/-! ===== END ===== -/

def RX0 : String := "PrinterRows$Page"
def TX0 : u_T := fun k => match k with
  | 0 => ("PrinterRows$Page", "rows", "[LPrinterRows$Row;", true)
  | _ => ("PrinterRows$Page", "columns", "I", true)
def tyX0 : Nat → FieldType := fun k => match k with
  | 0 => .array (.object "PrinterRows$Row")
  | _ => .int
abbrev wsX00 : List Cond := u_ws RX0 TX0 2
theorem nmX0 : ∀ a, a < 2 → ∀ b, b < 2 → a ≠ b → (TX0 a).2.1 ≠ (TX0 b).2.1 := by decide +kernel
theorem tyX0_ok : ∀ k, k < 2 → parseFieldDescriptor (TX0 k).2.2.1 = some (tyX0 k) := by decide +kernel
abbrev cX0_init : ByteArray := prog_2_method_1_code
def yX0_init : MethodName := ⟨RX0, "<init>", "(II)V"⟩
abbrev cX0_join : ByteArray := prog_2_method_2_code
def yX0_join : MethodName := ⟨RX0, "join", "(III)V"⟩
abbrev cX0_signIn : ByteArray := prog_2_method_3_code
def yX0_signIn : MethodName := ⟨RX0, "signIn", "(II)I"⟩
def RX1 : String := "PrinterRows$Row"
def TX1 : u_T := fun k => match k with
  | _ => ("PrinterRows$Row", "signs", "[I", true)
def tyX1 : Nat → FieldType := fun k => match k with
  | _ => .array .int
abbrev wsX10 : List Cond := u_ws RX1 TX1 1
theorem nmX1 : ∀ a, a < 1 → ∀ b, b < 1 → a ≠ b → (TX1 a).2.1 ≠ (TX1 b).2.1 := by decide +kernel
theorem tyX1_ok : ∀ k, k < 1 → parseFieldDescriptor (TX1 k).2.2.1 = some (tyX1 k) := by decide +kernel
abbrev cX1_init : ByteArray := prog_3_method_1_code
def yX1_init : MethodName := ⟨RX1, "<init>", "(I)V"⟩
abbrev cX1_joinSign : ByteArray := prog_3_method_2_code
def yX1_joinSign : MethodName := ⟨RX1, "joinSign", "(II)V"⟩
abbrev cX1_signOf : ByteArray := prog_3_method_3_code
def yX1_signOf : MethodName := ⟨RX1, "signOf", "(I)I"⟩
def RX2 : String := "PrinterRows"
def TX2 : u_T := fun k => match k with
  | 0 => ("PrinterRows", "lines", "I", true)
  | 1 => ("PrinterRows", "columns", "I", true)
  | 2 => ("PrinterRows", "channelLines", "[I", true)
  | 3 => ("PrinterRows", "printedAs", "[I", true)
  | 4 => ("PrinterRows", "record", "[I", true)
  | 5 => ("PrinterRows", "recordLength", "I", false)
  | 6 => ("PrinterRows", "pages", "[LPrinterRows$Page;", true)
  | 7 => ("PrinterRows", "begun", "I", false)
  | 8 => ("PrinterRows", "onBegunPage", "Z", false)
  | 9 => ("PrinterRows", "standLine", "I", false)
  | 10 => ("PrinterRows", "mountedKind", "I", false)
  | 11 => ("PrinterRows", "recordsPrinted", "I", false)
  | 12 => ("PrinterRows", "signsPrinted", "I", false)
  | 13 => ("PrinterRows", "signsCut", "I", false)
  | 14 => ("PrinterRows", "skipsToNoLine", "I", false)
  | _ => ("PrinterRows", "formsAskedFor", "I", false)
def tyX2 : Nat → FieldType := fun k => match k with
  | 0 => .int
  | 1 => .int
  | 2 => .array .int
  | 3 => .array .int
  | 4 => .array .int
  | 5 => .int
  | 6 => .array (.object "PrinterRows$Page")
  | 7 => .int
  | 8 => .boolean
  | 9 => .int
  | 10 => .int
  | 11 => .int
  | 12 => .int
  | 13 => .int
  | 14 => .int
  | _ => .int
abbrev wsX20 : List Cond := u_ws RX2 TX2 16
theorem nmX2 : ∀ a, a < 16 → ∀ b, b < 16 → a ≠ b → (TX2 a).2.1 ≠ (TX2 b).2.1 := by decide +kernel
theorem tyX2_ok : ∀ k, k < 16 → parseFieldDescriptor (TX2 k).2.2.1 = some (tyX2 k) := by decide +kernel
abbrev cX2_init : ByteArray := prog_1_method_1_code
def yX2_init : MethodName := ⟨RX2, "<init>", "(II)V"⟩
abbrev cX2_channel : ByteArray := prog_1_method_2_code
def yX2_channel : MethodName := ⟨RX2, "channel", "(II)I"⟩
abbrev cX2_sign : ByteArray := prog_1_method_3_code
def yX2_sign : MethodName := ⟨RX2, "sign", "(I)V"⟩
abbrev cX2_line : ByteArray := prog_1_method_4_code
def yX2_line : MethodName := ⟨RX2, "line", "(I)I"⟩
abbrev cX2_skip : ByteArray := prog_1_method_5_code
def yX2_skip : MethodName := ⟨RX2, "skip", "(I)I"⟩
abbrev cX2_end : ByteArray := prog_1_method_6_code
def yX2_end : MethodName := ⟨RX2, "end", "()I"⟩
abbrev cX2_at : ByteArray := prog_1_method_7_code
def yX2_at : MethodName := ⟨RX2, "at", "(III)I"⟩
abbrev cX2_over : ByteArray := prog_1_method_8_code
def yX2_over : MethodName := ⟨RX2, "over", "(II)I"⟩
abbrev cX2_translate : ByteArray := prog_1_method_9_code
def yX2_translate : MethodName := ⟨RX2, "translate", "(II)I"⟩
abbrev cX2_copies : ByteArray := prog_1_method_10_code
def yX2_copies : MethodName := ⟨RX2, "copies", "(III)I"⟩
abbrev cX2_back : ByteArray := prog_1_method_11_code
def yX2_back : MethodName := ⟨RX2, "back", "(I)I"⟩
abbrev cX2_forms : ByteArray := prog_1_method_12_code
def yX2_forms : MethodName := ⟨RX2, "forms", "(I)I"⟩
abbrev cX2_tally : ByteArray := prog_1_method_13_code
def yX2_tally : MethodName := ⟨RX2, "tally", "(I)I"⟩
abbrev cX2_heldTo : ByteArray := prog_1_method_14_code
def yX2_heldTo : MethodName := ⟨RX2, "heldTo", "(II)I"⟩
abbrev cX2_isChannel : ByteArray := prog_1_method_15_code
def yX2_isChannel : MethodName := ⟨RX2, "isChannel", "(I)Z"⟩
abbrev cX2_isSign : ByteArray := prog_1_method_16_code
def yX2_isSign : MethodName := ⟨RX2, "isSign", "(I)Z"⟩
abbrev cX2_darker : ByteArray := prog_1_method_17_code
def yX2_darker : MethodName := ⟨RX2, "darker", "(II)I"⟩
abbrev cX2_isSecondKind : ByteArray := prog_1_method_18_code
def yX2_isSecondKind : MethodName := ⟨RX2, "isSecondKind", "(I)Z"⟩
abbrev cX2_isPlainSecondKind : ByteArray := prog_1_method_19_code
def yX2_isPlainSecondKind : MethodName := ⟨RX2, "isPlainSecondKind", "(I)Z"⟩
abbrev cX2_channelOfCode : ByteArray := prog_1_method_20_code
def yX2_channelOfCode : MethodName := ⟨RX2, "channelOfCode", "(I)I"⟩
abbrev cX2_linesOfCode : ByteArray := prog_1_method_21_code
def yX2_linesOfCode : MethodName := ⟨RX2, "linesOfCode", "(I)I"⟩
abbrev cX2_wayTo : ByteArray := prog_1_method_22_code
def yX2_wayTo : MethodName := ⟨RX2, "wayTo", "(I)I"⟩
abbrev cX2_countSkip : ByteArray := prog_1_method_23_code
def yX2_countSkip : MethodName := ⟨RX2, "countSkip", "(I)V"⟩
abbrev cX2_standPage : ByteArray := prog_1_method_24_code
def yX2_standPage : MethodName := ⟨RX2, "standPage", "()I"⟩
abbrev cX2_pageAfter : ByteArray := prog_1_method_25_code
def yX2_pageAfter : MethodName := ⟨RX2, "pageAfter", "(I)I"⟩
abbrev cX2_endsOnAPage : ByteArray := prog_1_method_26_code
def yX2_endsOnAPage : MethodName := ⟨RX2, "endsOnAPage", "(I)Z"⟩
abbrev cX2_endsAtMostBehindThem : ByteArray := prog_1_method_27_code
def yX2_endsAtMostBehindThem : MethodName := ⟨RX2, "endsAtMostBehindThem", "(I)Z"⟩
abbrev cX2_moveBy : ByteArray := prog_1_method_28_code
def yX2_moveBy : MethodName := ⟨RX2, "moveBy", "(I)V"⟩
abbrev cX2_standOnNewPage : ByteArray := prog_1_method_29_code
def yX2_standOnNewPage : MethodName := ⟨RX2, "standOnNewPage", "()V"⟩
abbrev cX2_beginPage : ByteArray := prog_1_method_30_code
def yX2_beginPage : MethodName := ⟨RX2, "beginPage", "()V"⟩
abbrev cX2_addPage : ByteArray := prog_1_method_31_code
def yX2_addPage : MethodName := ⟨RX2, "addPage", "(LPrinterRows$Page;)V"⟩
abbrev cX2_takeLastPage : ByteArray := prog_1_method_32_code
def yX2_takeLastPage : MethodName := ⟨RX2, "takeLastPage", "()V"⟩
abbrev cX2_begunPage : ByteArray := prog_1_method_33_code
def yX2_begunPage : MethodName := ⟨RX2, "begunPage", "(I)LPrinterRows$Page;"⟩
abbrev cX2_printRecord : ByteArray := prog_1_method_34_code
def yX2_printRecord : MethodName := ⟨RX2, "printRecord", "()V"⟩
abbrev cX2_printSign : ByteArray := prog_1_method_35_code
def yX2_printSign : MethodName := ⟨RX2, "printSign", "(LPrinterRows$Page;II)V"⟩
def RX3 : String := "PrinterRowsModel"
def TX3 : u_T := fun k => match k with
  | 0 => ("PrinterRowsModel", "thrown", "I", false)
  | 1 => ("PrinterRowsModel", "lines", "I", true)
  | 2 => ("PrinterRowsModel", "columns", "I", true)
  | 3 => ("PrinterRowsModel", "signs", "[I", true)
  | 4 => ("PrinterRowsModel", "channels", "[I", true)
  | 5 => ("PrinterRowsModel", "table", "[I", true)
  | 6 => ("PrinterRowsModel", "record", "[I", true)
  | 7 => ("PrinterRowsModel", "tallies", "[I", true)
  | 8 => ("PrinterRowsModel", "length", "I", false)
  | 9 => ("PrinterRowsModel", "pages", "I", false)
  | 10 => ("PrinterRowsModel", "at", "I", false)
  | 11 => ("PrinterRowsModel", "mounted", "I", false)
  | 12 => ("PrinterRowsModel", "begun", "Z", false)
  | 13 => ("PrinterRowsModel", "trialPages", "I", false)
  | 14 => ("PrinterRowsModel", "trialLine", "I", false)
  | _ => ("PrinterRowsModel", "trialBegun", "Z", false)
def tyX3 : Nat → FieldType := fun k => match k with
  | 0 => .int
  | 1 => .int
  | 2 => .int
  | 3 => .array .int
  | 4 => .array .int
  | 5 => .array .int
  | 6 => .array .int
  | 7 => .array .int
  | 8 => .int
  | 9 => .int
  | 10 => .int
  | 11 => .int
  | 12 => .boolean
  | 13 => .int
  | 14 => .int
  | _ => .boolean
abbrev wsX30 : List Cond := u_ws RX3 TX3 16
theorem nmX3 : ∀ a, a < 16 → ∀ b, b < 16 → a ≠ b → (TX3 a).2.1 ≠ (TX3 b).2.1 := by decide +kernel
theorem tyX3_ok : ∀ k, k < 16 → parseFieldDescriptor (TX3 k).2.2.1 = some (tyX3 k) := by decide +kernel
abbrev cX3_init : ByteArray := prog_5_method_1_code
def yX3_init : MethodName := ⟨RX3, "<init>", "(II)V"⟩
abbrev cX3_channel : ByteArray := prog_5_method_3_code
def yX3_channel : MethodName := ⟨RX3, "channel", "(II)I"⟩
abbrev cX3_sign : ByteArray := prog_5_method_4_code
def yX3_sign : MethodName := ⟨RX3, "sign", "(I)V"⟩
abbrev cX3_tries : ByteArray := prog_5_method_5_code
def yX3_tries : MethodName := ⟨RX3, "tries", "()V"⟩
abbrev cX3_move : ByteArray := prog_5_method_6_code
def yX3_move : MethodName := ⟨RX3, "move", "(I)V"⟩
abbrev cX3_way : ByteArray := prog_5_method_7_code
def yX3_way : MethodName := ⟨RX3, "way", "(I)I"⟩
abbrev cX3_begin : ByteArray := prog_5_method_8_code
def yX3_begin : MethodName := ⟨RX3, "begin", "()V"⟩
abbrev cX3_settle : ByteArray := prog_5_method_9_code
def yX3_settle : MethodName := ⟨RX3, "settle", "()V"⟩
abbrev cX3_darker : ByteArray := prog_5_method_10_code
def yX3_darker : MethodName := ⟨RX3, "darker", "(II)I"⟩
abbrev cX3_print : ByteArray := prog_5_method_11_code
def yX3_print : MethodName := ⟨RX3, "print", "(II)V"⟩
abbrev cX3_ahead : ByteArray := prog_5_method_12_code
def yX3_ahead : MethodName := ⟨RX3, "ahead", "(I)I"⟩
abbrev cX3_channelOf : ByteArray := prog_5_method_13_code
def yX3_channelOf : MethodName := ⟨RX3, "channelOf", "(I)I"⟩
abbrev cX3_line : ByteArray := prog_5_method_14_code
def yX3_line : MethodName := ⟨RX3, "line", "(I)I"⟩
abbrev cX3_skip : ByteArray := prog_5_method_15_code
def yX3_skip : MethodName := ⟨RX3, "skip", "(I)I"⟩
abbrev cX3_pass : ByteArray := prog_5_method_16_code
def yX3_pass : MethodName := ⟨RX3, "pass", "()V"⟩
abbrev cX3_end : ByteArray := prog_5_method_17_code
def yX3_end : MethodName := ⟨RX3, "end", "()I"⟩
abbrev cX3_at : ByteArray := prog_5_method_18_code
def yX3_at : MethodName := ⟨RX3, "at", "(III)I"⟩
abbrev cX3_isSign : ByteArray := prog_5_method_19_code
def yX3_isSign : MethodName := ⟨RX3, "isSign", "(I)Z"⟩
abbrev cX3_over : ByteArray := prog_5_method_20_code
def yX3_over : MethodName := ⟨RX3, "over", "(II)I"⟩
abbrev cX3_translate : ByteArray := prog_5_method_21_code
def yX3_translate : MethodName := ⟨RX3, "translate", "(II)I"⟩
abbrev cX3_copies : ByteArray := prog_5_method_22_code
def yX3_copies : MethodName := ⟨RX3, "copies", "(III)I"⟩
abbrev cX3_back : ByteArray := prog_5_method_23_code
def yX3_back : MethodName := ⟨RX3, "back", "(I)I"⟩
abbrev cX3_forms : ByteArray := prog_5_method_24_code
def yX3_forms : MethodName := ⟨RX3, "forms", "(I)I"⟩
abbrev cX3_tally : ByteArray := prog_5_method_25_code
def yX3_tally : MethodName := ⟨RX3, "tally", "(I)I"⟩
def RJx00060 : String := "java/lang/ArrayIndexOutOfBoundsException"
def TJx00060 : u_T := fun k => match k with
  | 0 => ("java/lang/Throwable", "cause", "Ljava/lang/Throwable;", false)
  | 1 => ("java/lang/Throwable", "stackTrace", "[Ljava/lang/StackTraceElement;", false)
  | 2 => ("java/lang/Throwable", "suppressedExceptions", "Ljava/util/List;", false)
  | 3 => ("java/lang/Throwable", "detailMessage", "Ljava/lang/String;", false)
  | 4 => ("java/lang/Throwable", "backtrace", "Ljava/lang/Object;", false)
  | _ => ("java/lang/Throwable", "depth", "I", false)
def tyJx00060 : Nat → FieldType := fun k => match k with
  | 0 => .object "java/lang/Throwable"
  | 1 => .array (.object "java/lang/StackTraceElement")
  | 2 => .object "java/util/List"
  | 3 => .object "java/lang/String"
  | 4 => .object "java/lang/Object"
  | _ => .int
abbrev wsJx000600 : List Cond := u_ws RJx00060 TJx00060 6
theorem nmJx00060 : ∀ a, a < 6 → ∀ b, b < 6 → a ≠ b → (TJx00060 a).2.1 ≠ (TJx00060 b).2.1 := by decide +kernel
theorem tyJx00060_ok : ∀ k, k < 6 → parseFieldDescriptor (TJx00060 k).2.2.1 = some (tyJx00060 k) := by decide +kernel
abbrev cJx00060_init_a7421 : ByteArray := prog_6_method_2_code
def yJx00060_init_a7421 : MethodName := ⟨RJx00060, "<init>", "(Ljava/lang/String;)V"⟩
def RJ9 : String := "java/lang/Math"
def TJ9 : u_T := fun k => match k with
  | _ => ("", "", "", false)
def tyJ9 : Nat → FieldType := fun k => match k with
  | _ => .int
abbrev wsJ90 : List Cond := u_ws RJ9 TJ9 0
theorem nmJ9 : ∀ a, a < 0 → ∀ b, b < 0 → a ≠ b → (TJ9 a).2.1 ≠ (TJ9 b).2.1 := by decide +kernel
theorem tyJ9_ok : ∀ k, k < 0 → parseFieldDescriptor (TJ9 k).2.2.1 = some (tyJ9 k) := by decide +kernel
abbrev cJ9_floorMod_7cf53 : ByteArray := prog_9_method_50_code
def yJ9_floorMod_7cf53 : MethodName := ⟨RJ9, "floorMod", "(II)I"⟩
abbrev cJ9_max_7cf53 : ByteArray := prog_9_method_65_code
def yJ9_max_7cf53 : MethodName := ⟨RJ9, "max", "(II)I"⟩
abbrev cJ9_min_7cf53 : ByteArray := prog_9_method_69_code
def yJ9_min_7cf53 : MethodName := ⟨RJ9, "min", "(II)I"⟩
def RJ0 : String := "java/lang/String"
def TJ0 : u_T := fun k => match k with
  | _ => ("", "", "", false)
def tyJ0 : Nat → FieldType := fun k => match k with
  | _ => .int
abbrev wsJ00 : List Cond := u_ws RJ0 TJ0 0
theorem nmJ0 : ∀ a, a < 0 → ∀ b, b < 0 → a ≠ b → (TJ0 a).2.1 ≠ (TJ0 b).2.1 := by decide +kernel
theorem tyJ0_ok : ∀ k, k < 0 → parseFieldDescriptor (TJ0 k).2.2.1 = some (tyJ0 k) := by decide +kernel
def RJ7 : String := "java/util/Arrays"
def TJ7 : u_T := fun k => match k with
  | _ => ("", "", "", false)
def tyJ7 : Nat → FieldType := fun k => match k with
  | _ => .int
abbrev wsJ70 : List Cond := u_ws RJ7 TJ7 0
theorem nmJ7 : ∀ a, a < 0 → ∀ b, b < 0 → a ≠ b → (TJ7 a).2.1 ≠ (TJ7 b).2.1 := by decide +kernel
theorem tyJ7_ok : ∀ k, k < 0 → parseFieldDescriptor (TJ7 k).2.2.1 = some (tyJ7 k) := by decide +kernel
abbrev cJ7_fill_53178 : ByteArray := prog_13_method_103_code
def yJ7_fill_53178 : MethodName := ⟨RJ7, "fill", "([II)V"⟩
def RL : String := "PrinterRowsLaw"
abbrev cL_cell : ByteArray := method_2_code
def yL_cell : MethodName := ⟨RL, "cell", "([II)I"⟩
abbrev cL_at : ByteArray := method_3_code
def yL_at : MethodName := ⟨RL, "at", "(LPrinterRows;III[J)I"⟩
abbrev cL_law : ByteArray := code
def yL_law : MethodName := ⟨RL, "law", "([I)Z"⟩
def wsX0_init : List Cond := .code yX0_init cX0_init 3 none :: ([.methodLink RX0 3 objectInit, .instanceMethod objectInit, .code objectInit ⟨#[0xb1]⟩ 1 none, .methodLink RX0 9 Lib.Math.max.name, .static Lib.Math.max.name, .initialized "java/lang/Math", .code Lib.Math.max.name Lib.Math.max.code 2 (some .int), .classLink RX0 15 RX1, .fieldLink RX0 17 "PrinterRows$Page" "rows" "[LPrinterRows$Row;", .fieldLink RX0 23 "PrinterRows$Page" "columns" "I"] ++ wsX00)
def wsJ7_fill_53178 : List Cond := .code yJ7_fill_53178 cJ7_fill_53178 4 none :: ([])
def wsX1_init : List Cond := .code yX1_init cX1_init 2 none :: ([.methodLink RX1 3 objectInit, .instanceMethod objectInit, .code objectInit ⟨#[0xb1]⟩ 1 none, .methodLink RX1 9 Lib.Math.max.name, .static Lib.Math.max.name, .initialized "java/lang/Math", .code Lib.Math.max.name Lib.Math.max.code 2 (some .int), .arrayClass .int, .fieldLink RX1 15 "PrinterRows$Row" "signs" "[I", .methodLink RX1 21 yJ7_fill_53178, .static yJ7_fill_53178, .initialized RJ7, .code yJ7_fill_53178 cJ7_fill_53178 4 none] ++ wsX10)
def wsX2_darker : List Cond := .code yX2_darker cX2_darker 2 (some .int) :: ([.methodLink RX2 54 Lib.Math.max.name, .static Lib.Math.max.name, .initialized "java/lang/Math", .code Lib.Math.max.name Lib.Math.max.code 2 (some .int)])
def wsX1_joinSign : List Cond := .code yX1_joinSign cX1_joinSign 3 none :: ([.fieldLink RX1 15 "PrinterRows$Row" "signs" "[I", .static yX2_darker, .initialized RX2, .code yX2_darker cX2_darker 2 (some .int), .methodLink RX2 54 Lib.Math.max.name, .static Lib.Math.max.name, .initialized "java/lang/Math", .code Lib.Math.max.name Lib.Math.max.code 2 (some .int)] ++ wsX10)
def wsX0_join_r1 : List Cond := [Cond.fieldLink RX0 17 "PrinterRows$Page" "rows" "[LPrinterRows$Row;", Cond.classLink RX0 15 RX1, Cond.instantiable RX1 1, Cond.initialized RX1, Cond.fieldLink RX0 23 "PrinterRows$Page" "columns" "I", Cond.methodLink RX0 27 yX1_init, Cond.instanceMethod yX1_init, Cond.code yX1_init cX1_init 2 none, Cond.methodLink RX1 3 objectInit, Cond.instanceMethod objectInit, Cond.code objectInit ⟨#[0xb1]⟩ 1 none, Cond.methodLink RX1 9 Lib.Math.max.name, Cond.static Lib.Math.max.name, Cond.initialized "java/lang/Math", Cond.code Lib.Math.max.name Lib.Math.max.code 2 (some .int), Cond.arrayClass .int, Cond.fieldLink RX1 15 "PrinterRows$Row" "signs" "[I", Cond.methodLink RX1 21 yJ7_fill_53178, Cond.static yJ7_fill_53178, Cond.initialized RJ7, Cond.code yJ7_fill_53178 cJ7_fill_53178 4 none, Cond.methodLink RX0 30 yX1_joinSign, Cond.instanceMethod yX1_joinSign, Cond.selects RX1 yX1_joinSign yX1_joinSign]
def wsX0_join_r2 : List Cond := [Cond.code yX1_joinSign cX1_joinSign 3 none, Cond.static yX2_darker, Cond.initialized RX2, Cond.code yX2_darker cX2_darker 2 (some .int), Cond.methodLink RX2 54 Lib.Math.max.name]
def wsX0_join : List Cond := .code yX0_join cX0_join 4 none :: ((wsX0_join_r1 ++ wsX0_join_r2) ++ wsX00 ++ wsX10)
def wsX1_signOf : List Cond := .code yX1_signOf cX1_signOf 2 (some .int) :: ([.fieldLink RX1 15 "PrinterRows$Row" "signs" "[I"] ++ wsX10)
def wsX0_signIn : List Cond := .code yX0_signIn cX0_signIn 3 (some .int) :: ([.fieldLink RX0 17 "PrinterRows$Page" "rows" "[LPrinterRows$Row;", .methodLink RX0 34 yX1_signOf, .instanceMethod yX1_signOf, .selects RX1 yX1_signOf yX1_signOf, .initialized RX1, .code yX1_signOf cX1_signOf 2 (some .int), .fieldLink RX1 15 "PrinterRows$Row" "signs" "[I"] ++ wsX00 ++ wsX10)
def wsX2_heldTo : List Cond := .code yX2_heldTo cX2_heldTo 2 (some .int) :: ([.methodLink RX2 140 Lib.Math.min.name, .static Lib.Math.min.name, .initialized "java/lang/Math", .code Lib.Math.min.name Lib.Math.min.code 2 (some .int), .methodLink RX2 54 Lib.Math.max.name, .static Lib.Math.max.name, .code Lib.Math.max.name Lib.Math.max.code 2 (some .int)])
def wsX2_init_r1 : List Cond := [Cond.methodLink RX2 3 objectInit, Cond.instanceMethod objectInit, Cond.code objectInit ⟨#[0xb1]⟩ 1 none, Cond.fieldLink RX2 13 "PrinterRows" "lines" "I", Cond.fieldLink RX2 17 "PrinterRows" "columns" "I", Cond.arrayClass .int, Cond.fieldLink RX2 20 "PrinterRows" "channelLines" "[I", Cond.fieldLink RX2 30 "PrinterRows" "printedAs" "[I", Cond.fieldLink RX2 33 "PrinterRows" "record" "[I", Cond.classLink RX2 36 RX0, Cond.fieldLink RX2 38 "PrinterRows" "pages" "[LPrinterRows$Page;", Cond.methodLink RX2 9 yX2_heldTo, Cond.static yX2_heldTo, Cond.initialized RX2, Cond.code yX2_heldTo cX2_heldTo 2 (some .int), Cond.methodLink RX2 140 Lib.Math.min.name, Cond.static Lib.Math.min.name, Cond.initialized "java/lang/Math", Cond.code Lib.Math.min.name Lib.Math.min.code 2 (some .int), Cond.methodLink RX2 54 Lib.Math.max.name, Cond.static Lib.Math.max.name, Cond.code Lib.Math.max.name Lib.Math.max.code 2 (some .int), Cond.methodLink RX2 24 yJ7_fill_53178, Cond.static yJ7_fill_53178]
def wsX2_init_r2 : List Cond := [Cond.initialized RJ7, Cond.code yJ7_fill_53178 cJ7_fill_53178 4 none]
def wsX2_init : List Cond := .code yX2_init cX2_init 4 none :: ((wsX2_init_r1 ++ wsX2_init_r2) ++ wsX20)
def wsX2_isChannel : List Cond := .code yX2_isChannel cX2_isChannel 1 (some .boolean) :: ([])
def wsX2_channel : List Cond := .code yX2_channel cX2_channel 4 (some .int) :: ([.fieldLink RX2 13 "PrinterRows" "lines" "I", .fieldLink RX2 20 "PrinterRows" "channelLines" "[I", .methodLink RX2 42 yX2_isChannel, .static yX2_isChannel, .initialized RX2, .code yX2_isChannel cX2_isChannel 1 (some .boolean)] ++ wsX20)
def wsJ9_floorMod_7cf53 : List Cond := .code yJ9_floorMod_7cf53 cJ9_floorMod_7cf53 3 (some .int) :: ([])
def wsX2_sign : List Cond := .code yX2_sign cX2_sign 2 none :: ([.fieldLink RX2 46 "PrinterRows" "recordLength" "I", .fieldLink RX2 33 "PrinterRows" "record" "[I", .methodLink RX2 54 Lib.Math.max.name, .static Lib.Math.max.name, .initialized "java/lang/Math", .code Lib.Math.max.name Lib.Math.max.code 2 (some .int), .methodLink RX2 49 yJ9_floorMod_7cf53, .static yJ9_floorMod_7cf53, .initialized RJ9, .code yJ9_floorMod_7cf53 cJ9_floorMod_7cf53 3 (some .int)] ++ wsX20)
def wsX2_channelOfCode : List Cond := .code yX2_channelOfCode cX2_channelOfCode 2 (some .int) :: ([.methodLink RX2 42 yX2_isChannel, .static yX2_isChannel, .initialized RX2, .code yX2_isChannel cX2_isChannel 1 (some .boolean)])
def wsX2_wayTo : List Cond := .code yX2_wayTo cX2_wayTo 3 (some .int) :: ([.fieldLink RX2 20 "PrinterRows" "channelLines" "[I", .fieldLink RX2 13 "PrinterRows" "lines" "I", .fieldLink RX2 125 "PrinterRows" "standLine" "I", .methodLink RX2 42 yX2_isChannel, .static yX2_isChannel, .initialized RX2, .code yX2_isChannel cX2_isChannel 1 (some .boolean)] ++ wsX20)
def wsX2_isPlainSecondKind : List Cond := .code yX2_isPlainSecondKind cX2_isPlainSecondKind 1 (some .boolean) :: ([])
def wsX2_linesOfCode : List Cond := .code yX2_linesOfCode cX2_linesOfCode 1 (some .int) :: ([.methodLink RX2 143 yX2_isPlainSecondKind, .static yX2_isPlainSecondKind, .initialized RX2, .code yX2_isPlainSecondKind cX2_isPlainSecondKind 1 (some .boolean)])
def wsX2_isSecondKind : List Cond := .code yX2_isSecondKind cX2_isSecondKind 1 (some .boolean) :: ([.methodLink RX2 143 yX2_isPlainSecondKind, .static yX2_isPlainSecondKind, .initialized RX2, .code yX2_isPlainSecondKind cX2_isPlainSecondKind 1 (some .boolean), .methodLink RX2 42 yX2_isChannel, .static yX2_isChannel, .code yX2_isChannel cX2_isChannel 1 (some .boolean)])
def wsX2_standPage : List Cond := .code yX2_standPage cX2_standPage 1 (some .int) :: ([.fieldLink RX2 146 "PrinterRows" "onBegunPage" "Z", .fieldLink RX2 86 "PrinterRows" "begun" "I"] ++ wsX20)
def wsX2_pageAfter : List Cond := .code yX2_pageAfter cX2_pageAfter 3 (some .int) :: ([.fieldLink RX2 13 "PrinterRows" "lines" "I", .methodLink RX2 54 Lib.Math.max.name, .static Lib.Math.max.name, .initialized "java/lang/Math", .code Lib.Math.max.name Lib.Math.max.code 2 (some .int), .fieldLink RX2 125 "PrinterRows" "standLine" "I", .methodLink RX2 150 yX2_standPage, .instanceMethod yX2_standPage, .selects RX2 yX2_standPage yX2_standPage, .initialized RX2, .code yX2_standPage cX2_standPage 1 (some .int), .fieldLink RX2 146 "PrinterRows" "onBegunPage" "Z", .fieldLink RX2 86 "PrinterRows" "begun" "I"] ++ wsX20)
def wsX2_endsOnAPage : List Cond := .code yX2_endsOnAPage cX2_endsOnAPage 2 (some .boolean) :: ([.methodLink RX2 154 yX2_pageAfter, .instanceMethod yX2_pageAfter, .selects RX2 yX2_pageAfter yX2_pageAfter, .initialized RX2, .code yX2_pageAfter cX2_pageAfter 3 (some .int), .fieldLink RX2 13 "PrinterRows" "lines" "I", .methodLink RX2 54 Lib.Math.max.name, .static Lib.Math.max.name, .initialized "java/lang/Math", .code Lib.Math.max.name Lib.Math.max.code 2 (some .int), .fieldLink RX2 125 "PrinterRows" "standLine" "I", .methodLink RX2 150 yX2_standPage, .instanceMethod yX2_standPage, .selects RX2 yX2_standPage yX2_standPage, .code yX2_standPage cX2_standPage 1 (some .int), .fieldLink RX2 146 "PrinterRows" "onBegunPage" "Z", .fieldLink RX2 86 "PrinterRows" "begun" "I"] ++ wsX20)
def wsX2_endsAtMostBehindThem : List Cond := .code yX2_endsAtMostBehindThem cX2_endsAtMostBehindThem 2 (some .boolean) :: ([.methodLink RX2 154 yX2_pageAfter, .instanceMethod yX2_pageAfter, .selects RX2 yX2_pageAfter yX2_pageAfter, .initialized RX2, .code yX2_pageAfter cX2_pageAfter 3 (some .int), .fieldLink RX2 13 "PrinterRows" "lines" "I", .methodLink RX2 54 Lib.Math.max.name, .static Lib.Math.max.name, .initialized "java/lang/Math", .code Lib.Math.max.name Lib.Math.max.code 2 (some .int), .fieldLink RX2 125 "PrinterRows" "standLine" "I", .methodLink RX2 150 yX2_standPage, .instanceMethod yX2_standPage, .selects RX2 yX2_standPage yX2_standPage, .code yX2_standPage cX2_standPage 1 (some .int), .fieldLink RX2 146 "PrinterRows" "onBegunPage" "Z", .fieldLink RX2 86 "PrinterRows" "begun" "I"] ++ wsX20)
def wsX2_addPage : List Cond := .code yX2_addPage cX2_addPage 2 none :: ([.fieldLink RX2 86 "PrinterRows" "begun" "I", .fieldLink RX2 38 "PrinterRows" "pages" "[LPrinterRows$Page;"] ++ wsX20)
def wsX2_beginPage_r1 : List Cond := [Cond.fieldLink RX2 146 "PrinterRows" "onBegunPage" "Z", Cond.classLink RX2 36 RX0, Cond.instantiable RX0 2, Cond.initialized RX0, Cond.fieldLink RX2 13 "PrinterRows" "lines" "I", Cond.fieldLink RX2 17 "PrinterRows" "columns" "I", Cond.methodLink RX2 160 yX0_init, Cond.instanceMethod yX0_init, Cond.code yX0_init cX0_init 3 none, Cond.methodLink RX0 3 objectInit, Cond.instanceMethod objectInit, Cond.code objectInit ⟨#[0xb1]⟩ 1 none, Cond.methodLink RX0 9 Lib.Math.max.name, Cond.static Lib.Math.max.name, Cond.initialized "java/lang/Math", Cond.code Lib.Math.max.name Lib.Math.max.code 2 (some .int), Cond.classLink RX0 15 RX1, Cond.fieldLink RX0 17 "PrinterRows$Page" "rows" "[LPrinterRows$Row;", Cond.fieldLink RX0 23 "PrinterRows$Page" "columns" "I", Cond.methodLink RX2 112 yX2_addPage, Cond.instanceMethod yX2_addPage, Cond.selects RX2 yX2_addPage yX2_addPage, Cond.initialized RX2, Cond.code yX2_addPage cX2_addPage 2 none]
def wsX2_beginPage_r2 : List Cond := [Cond.fieldLink RX2 86 "PrinterRows" "begun" "I", Cond.fieldLink RX2 38 "PrinterRows" "pages" "[LPrinterRows$Page;"]
def wsX2_beginPage : List Cond := .code yX2_beginPage cX2_beginPage 1 none :: ((wsX2_beginPage_r1 ++ wsX2_beginPage_r2) ++ wsX20 ++ wsX00)
def wsX2_begunPage : List Cond := .code yX2_begunPage cX2_begunPage 2 (some (.object "PrinterRows$Page")) :: ([.fieldLink RX2 86 "PrinterRows" "begun" "I", .fieldLink RX2 38 "PrinterRows" "pages" "[LPrinterRows$Page;"] ++ wsX20)
def wsX2_isSign : List Cond := .code yX2_isSign cX2_isSign 1 (some .boolean) :: ([])
def wsX2_printSign_r1 : List Cond := [Cond.fieldLink RX2 30 "PrinterRows" "printedAs" "[I", Cond.fieldLink RX2 125 "PrinterRows" "standLine" "I", Cond.fieldLink RX2 131 "PrinterRows" "signsPrinted" "I", Cond.methodLink RX2 106 yX2_isSign, Cond.static yX2_isSign, Cond.initialized RX2, Cond.code yX2_isSign cX2_isSign 1 (some .boolean), Cond.methodLink RX2 167 yX0_join, Cond.instanceMethod yX0_join, Cond.selects RX0 yX0_join yX0_join, Cond.initialized RX0, Cond.code yX0_join cX0_join 4 none, Cond.fieldLink RX0 17 "PrinterRows$Page" "rows" "[LPrinterRows$Row;", Cond.classLink RX0 15 RX1, Cond.instantiable RX1 1, Cond.initialized RX1, Cond.fieldLink RX0 23 "PrinterRows$Page" "columns" "I", Cond.methodLink RX0 27 yX1_init, Cond.instanceMethod yX1_init, Cond.code yX1_init cX1_init 2 none, Cond.methodLink RX1 3 objectInit, Cond.instanceMethod objectInit, Cond.code objectInit ⟨#[0xb1]⟩ 1 none, Cond.methodLink RX1 9 Lib.Math.max.name]
def wsX2_printSign_r2 : List Cond := [Cond.static Lib.Math.max.name, Cond.initialized "java/lang/Math", Cond.code Lib.Math.max.name Lib.Math.max.code 2 (some .int), Cond.arrayClass .int, Cond.fieldLink RX1 15 "PrinterRows$Row" "signs" "[I", Cond.methodLink RX1 21 yJ7_fill_53178, Cond.static yJ7_fill_53178, Cond.initialized RJ7, Cond.code yJ7_fill_53178 cJ7_fill_53178 4 none, Cond.methodLink RX0 30 yX1_joinSign, Cond.instanceMethod yX1_joinSign, Cond.selects RX1 yX1_joinSign yX1_joinSign, Cond.code yX1_joinSign cX1_joinSign 3 none, Cond.static yX2_darker, Cond.code yX2_darker cX2_darker 2 (some .int), Cond.methodLink RX2 54 Lib.Math.max.name]
def wsX2_printSign : List Cond := .code yX2_printSign cX2_printSign 5 none :: ((wsX2_printSign_r1 ++ wsX2_printSign_r2) ++ wsX20 ++ wsX00 ++ wsX10)
def wsX2_printRecord_r1 : List Cond := [Cond.fieldLink RX2 86 "PrinterRows" "begun" "I", Cond.fieldLink RX2 46 "PrinterRows" "recordLength" "I", Cond.fieldLink RX2 33 "PrinterRows" "record" "[I", Cond.fieldLink RX2 17 "PrinterRows" "columns" "I", Cond.fieldLink RX2 134 "PrinterRows" "signsCut" "I", Cond.fieldLink RX2 128 "PrinterRows" "recordsPrinted" "I", Cond.methodLink RX2 157 yX2_beginPage, Cond.instanceMethod yX2_beginPage, Cond.selects RX2 yX2_beginPage yX2_beginPage, Cond.initialized RX2, Cond.code yX2_beginPage cX2_beginPage 1 none, Cond.fieldLink RX2 146 "PrinterRows" "onBegunPage" "Z", Cond.classLink RX2 36 RX0, Cond.instantiable RX0 2, Cond.initialized RX0, Cond.fieldLink RX2 13 "PrinterRows" "lines" "I", Cond.methodLink RX2 160 yX0_init, Cond.instanceMethod yX0_init, Cond.code yX0_init cX0_init 3 none, Cond.methodLink RX0 3 objectInit, Cond.instanceMethod objectInit, Cond.code objectInit ⟨#[0xb1]⟩ 1 none, Cond.methodLink RX0 9 Lib.Math.max.name, Cond.static Lib.Math.max.name]
def wsX2_printRecord_r2 : List Cond := [Cond.initialized "java/lang/Math", Cond.code Lib.Math.max.name Lib.Math.max.code 2 (some .int), Cond.classLink RX0 15 RX1, Cond.fieldLink RX0 17 "PrinterRows$Page" "rows" "[LPrinterRows$Row;", Cond.fieldLink RX0 23 "PrinterRows$Page" "columns" "I", Cond.methodLink RX2 112 yX2_addPage, Cond.instanceMethod yX2_addPage, Cond.selects RX2 yX2_addPage yX2_addPage, Cond.code yX2_addPage cX2_addPage 2 none, Cond.fieldLink RX2 38 "PrinterRows" "pages" "[LPrinterRows$Page;", Cond.methodLink RX2 92 yX2_begunPage, Cond.instanceMethod yX2_begunPage, Cond.selects RX2 yX2_begunPage yX2_begunPage, Cond.code yX2_begunPage cX2_begunPage 2 (some (.object "PrinterRows$Page")), Cond.methodLink RX2 163 yX2_printSign, Cond.instanceMethod yX2_printSign, Cond.selects RX2 yX2_printSign yX2_printSign, Cond.code yX2_printSign cX2_printSign 5 none, Cond.fieldLink RX2 30 "PrinterRows" "printedAs" "[I", Cond.fieldLink RX2 125 "PrinterRows" "standLine" "I", Cond.fieldLink RX2 131 "PrinterRows" "signsPrinted" "I", Cond.methodLink RX2 106 yX2_isSign, Cond.static yX2_isSign, Cond.code yX2_isSign cX2_isSign 1 (some .boolean)]
def wsX2_printRecord_r3 : List Cond := [Cond.methodLink RX2 167 yX0_join, Cond.instanceMethod yX0_join, Cond.selects RX0 yX0_join yX0_join, Cond.code yX0_join cX0_join 4 none, Cond.instantiable RX1 1, Cond.initialized RX1, Cond.methodLink RX0 27 yX1_init, Cond.instanceMethod yX1_init, Cond.code yX1_init cX1_init 2 none, Cond.methodLink RX1 3 objectInit, Cond.methodLink RX1 9 Lib.Math.max.name, Cond.arrayClass .int, Cond.fieldLink RX1 15 "PrinterRows$Row" "signs" "[I", Cond.methodLink RX1 21 yJ7_fill_53178, Cond.static yJ7_fill_53178, Cond.initialized RJ7, Cond.code yJ7_fill_53178 cJ7_fill_53178 4 none, Cond.methodLink RX0 30 yX1_joinSign, Cond.instanceMethod yX1_joinSign, Cond.selects RX1 yX1_joinSign yX1_joinSign, Cond.code yX1_joinSign cX1_joinSign 3 none, Cond.static yX2_darker, Cond.code yX2_darker cX2_darker 2 (some .int), Cond.methodLink RX2 54 Lib.Math.max.name]
def wsX2_printRecord : List Cond := .code yX2_printRecord cX2_printRecord 3 none :: ((wsX2_printRecord_r1 ++ (wsX2_printRecord_r2 ++ wsX2_printRecord_r3)) ++ wsX20 ++ wsX00 ++ wsX10)
def wsX2_standOnNewPage : List Cond := .code yX2_standOnNewPage cX2_standOnNewPage 1 none :: ([.fieldLink RX2 146 "PrinterRows" "onBegunPage" "Z", .fieldLink RX2 125 "PrinterRows" "standLine" "I"] ++ wsX20)
def wsX2_moveBy_r1 : List Cond := [Cond.fieldLink RX2 125 "PrinterRows" "standLine" "I", Cond.fieldLink RX2 13 "PrinterRows" "lines" "I", Cond.methodLink RX2 157 yX2_beginPage, Cond.instanceMethod yX2_beginPage, Cond.selects RX2 yX2_beginPage yX2_beginPage, Cond.initialized RX2, Cond.code yX2_beginPage cX2_beginPage 1 none, Cond.fieldLink RX2 146 "PrinterRows" "onBegunPage" "Z", Cond.classLink RX2 36 RX0, Cond.instantiable RX0 2, Cond.initialized RX0, Cond.fieldLink RX2 17 "PrinterRows" "columns" "I", Cond.methodLink RX2 160 yX0_init, Cond.instanceMethod yX0_init, Cond.code yX0_init cX0_init 3 none, Cond.methodLink RX0 3 objectInit, Cond.instanceMethod objectInit, Cond.code objectInit ⟨#[0xb1]⟩ 1 none, Cond.methodLink RX0 9 Lib.Math.max.name, Cond.static Lib.Math.max.name, Cond.initialized "java/lang/Math", Cond.code Lib.Math.max.name Lib.Math.max.code 2 (some .int), Cond.classLink RX0 15 RX1, Cond.fieldLink RX0 17 "PrinterRows$Page" "rows" "[LPrinterRows$Row;"]
def wsX2_moveBy_r2 : List Cond := [Cond.fieldLink RX0 23 "PrinterRows$Page" "columns" "I", Cond.methodLink RX2 112 yX2_addPage, Cond.instanceMethod yX2_addPage, Cond.selects RX2 yX2_addPage yX2_addPage, Cond.code yX2_addPage cX2_addPage 2 none, Cond.fieldLink RX2 86 "PrinterRows" "begun" "I", Cond.fieldLink RX2 38 "PrinterRows" "pages" "[LPrinterRows$Page;", Cond.methodLink RX2 89 yX2_standOnNewPage, Cond.instanceMethod yX2_standOnNewPage, Cond.selects RX2 yX2_standOnNewPage yX2_standOnNewPage, Cond.code yX2_standOnNewPage cX2_standOnNewPage 1 none]
def wsX2_moveBy : List Cond := .code yX2_moveBy cX2_moveBy 3 none :: ((wsX2_moveBy_r1 ++ wsX2_moveBy_r2) ++ wsX20 ++ wsX00)
def wsX2_countSkip : List Cond := .code yX2_countSkip cX2_countSkip 2 none :: ([.fieldLink RX2 20 "PrinterRows" "channelLines" "[I", .fieldLink RX2 137 "PrinterRows" "skipsToNoLine" "I", .methodLink RX2 42 yX2_isChannel, .static yX2_isChannel, .initialized RX2, .code yX2_isChannel cX2_isChannel 1 (some .boolean)] ++ wsX20)
def wsX2_line_r1 : List Cond := [Cond.fieldLink RX2 86 "PrinterRows" "begun" "I", Cond.methodLink RX2 57 yX2_channelOfCode, Cond.static yX2_channelOfCode, Cond.initialized RX2, Cond.code yX2_channelOfCode cX2_channelOfCode 2 (some .int), Cond.methodLink RX2 42 yX2_isChannel, Cond.static yX2_isChannel, Cond.code yX2_isChannel cX2_isChannel 1 (some .boolean), Cond.methodLink RX2 61 yX2_wayTo, Cond.instanceMethod yX2_wayTo, Cond.selects RX2 yX2_wayTo yX2_wayTo, Cond.code yX2_wayTo cX2_wayTo 3 (some .int), Cond.fieldLink RX2 20 "PrinterRows" "channelLines" "[I", Cond.fieldLink RX2 13 "PrinterRows" "lines" "I", Cond.fieldLink RX2 125 "PrinterRows" "standLine" "I", Cond.methodLink RX2 64 yX2_linesOfCode, Cond.static yX2_linesOfCode, Cond.code yX2_linesOfCode cX2_linesOfCode 1 (some .int), Cond.methodLink RX2 143 yX2_isPlainSecondKind, Cond.static yX2_isPlainSecondKind, Cond.code yX2_isPlainSecondKind cX2_isPlainSecondKind 1 (some .boolean), Cond.methodLink RX2 67 yX2_isSecondKind, Cond.static yX2_isSecondKind, Cond.code yX2_isSecondKind cX2_isSecondKind 1 (some .boolean)]
def wsX2_line_r2 : List Cond := [Cond.methodLink RX2 70 yX2_endsOnAPage, Cond.instanceMethod yX2_endsOnAPage, Cond.selects RX2 yX2_endsOnAPage yX2_endsOnAPage, Cond.code yX2_endsOnAPage cX2_endsOnAPage 2 (some .boolean), Cond.methodLink RX2 154 yX2_pageAfter, Cond.instanceMethod yX2_pageAfter, Cond.selects RX2 yX2_pageAfter yX2_pageAfter, Cond.code yX2_pageAfter cX2_pageAfter 3 (some .int), Cond.methodLink RX2 54 Lib.Math.max.name, Cond.static Lib.Math.max.name, Cond.initialized "java/lang/Math", Cond.code Lib.Math.max.name Lib.Math.max.code 2 (some .int), Cond.methodLink RX2 150 yX2_standPage, Cond.instanceMethod yX2_standPage, Cond.selects RX2 yX2_standPage yX2_standPage, Cond.code yX2_standPage cX2_standPage 1 (some .int), Cond.fieldLink RX2 146 "PrinterRows" "onBegunPage" "Z", Cond.methodLink RX2 73 yX2_endsAtMostBehindThem, Cond.instanceMethod yX2_endsAtMostBehindThem, Cond.selects RX2 yX2_endsAtMostBehindThem yX2_endsAtMostBehindThem, Cond.code yX2_endsAtMostBehindThem cX2_endsAtMostBehindThem 2 (some .boolean), Cond.methodLink RX2 76 yX2_printRecord, Cond.instanceMethod yX2_printRecord, Cond.selects RX2 yX2_printRecord yX2_printRecord]
def wsX2_line_r3 : List Cond := [Cond.code yX2_printRecord cX2_printRecord 3 none, Cond.fieldLink RX2 46 "PrinterRows" "recordLength" "I", Cond.fieldLink RX2 33 "PrinterRows" "record" "[I", Cond.fieldLink RX2 17 "PrinterRows" "columns" "I", Cond.fieldLink RX2 134 "PrinterRows" "signsCut" "I", Cond.fieldLink RX2 128 "PrinterRows" "recordsPrinted" "I", Cond.methodLink RX2 157 yX2_beginPage, Cond.instanceMethod yX2_beginPage, Cond.selects RX2 yX2_beginPage yX2_beginPage, Cond.code yX2_beginPage cX2_beginPage 1 none, Cond.classLink RX2 36 RX0, Cond.instantiable RX0 2, Cond.initialized RX0, Cond.methodLink RX2 160 yX0_init, Cond.instanceMethod yX0_init, Cond.code yX0_init cX0_init 3 none, Cond.methodLink RX0 3 objectInit, Cond.instanceMethod objectInit, Cond.code objectInit ⟨#[0xb1]⟩ 1 none, Cond.methodLink RX0 9 Lib.Math.max.name, Cond.classLink RX0 15 RX1, Cond.fieldLink RX0 17 "PrinterRows$Page" "rows" "[LPrinterRows$Row;", Cond.fieldLink RX0 23 "PrinterRows$Page" "columns" "I", Cond.methodLink RX2 112 yX2_addPage]
def wsX2_line_r4 : List Cond := [Cond.instanceMethod yX2_addPage, Cond.selects RX2 yX2_addPage yX2_addPage, Cond.code yX2_addPage cX2_addPage 2 none, Cond.fieldLink RX2 38 "PrinterRows" "pages" "[LPrinterRows$Page;", Cond.methodLink RX2 92 yX2_begunPage, Cond.instanceMethod yX2_begunPage, Cond.selects RX2 yX2_begunPage yX2_begunPage, Cond.code yX2_begunPage cX2_begunPage 2 (some (.object "PrinterRows$Page")), Cond.methodLink RX2 163 yX2_printSign, Cond.instanceMethod yX2_printSign, Cond.selects RX2 yX2_printSign yX2_printSign, Cond.code yX2_printSign cX2_printSign 5 none, Cond.fieldLink RX2 30 "PrinterRows" "printedAs" "[I", Cond.fieldLink RX2 131 "PrinterRows" "signsPrinted" "I", Cond.methodLink RX2 106 yX2_isSign, Cond.static yX2_isSign, Cond.code yX2_isSign cX2_isSign 1 (some .boolean), Cond.methodLink RX2 167 yX0_join, Cond.instanceMethod yX0_join, Cond.selects RX0 yX0_join yX0_join, Cond.code yX0_join cX0_join 4 none, Cond.instantiable RX1 1, Cond.initialized RX1, Cond.methodLink RX0 27 yX1_init]
def wsX2_line_r5 : List Cond := [Cond.instanceMethod yX1_init, Cond.code yX1_init cX1_init 2 none, Cond.methodLink RX1 3 objectInit, Cond.methodLink RX1 9 Lib.Math.max.name, Cond.arrayClass .int, Cond.fieldLink RX1 15 "PrinterRows$Row" "signs" "[I", Cond.methodLink RX1 21 yJ7_fill_53178, Cond.static yJ7_fill_53178, Cond.initialized RJ7, Cond.code yJ7_fill_53178 cJ7_fill_53178 4 none, Cond.methodLink RX0 30 yX1_joinSign, Cond.instanceMethod yX1_joinSign, Cond.selects RX1 yX1_joinSign yX1_joinSign, Cond.code yX1_joinSign cX1_joinSign 3 none, Cond.static yX2_darker, Cond.code yX2_darker cX2_darker 2 (some .int), Cond.methodLink RX2 79 yX2_moveBy, Cond.instanceMethod yX2_moveBy, Cond.selects RX2 yX2_moveBy yX2_moveBy, Cond.code yX2_moveBy cX2_moveBy 3 none, Cond.methodLink RX2 89 yX2_standOnNewPage, Cond.instanceMethod yX2_standOnNewPage, Cond.selects RX2 yX2_standOnNewPage yX2_standOnNewPage, Cond.code yX2_standOnNewPage cX2_standOnNewPage 1 none]
def wsX2_line_r6 : List Cond := [Cond.methodLink RX2 83 yX2_countSkip, Cond.instanceMethod yX2_countSkip, Cond.selects RX2 yX2_countSkip yX2_countSkip, Cond.code yX2_countSkip cX2_countSkip 2 none, Cond.fieldLink RX2 137 "PrinterRows" "skipsToNoLine" "I"]
def wsX2_line : List Cond := .code yX2_line cX2_line 4 (some .int) :: ((wsX2_line_r1 ++ (wsX2_line_r2 ++ (wsX2_line_r3 ++ (wsX2_line_r4 ++ (wsX2_line_r5 ++ wsX2_line_r6))))) ++ wsX20 ++ wsX00 ++ wsX10)
def wsX2_skip_r1 : List Cond := [Cond.fieldLink RX2 20 "PrinterRows" "channelLines" "[I", Cond.methodLink RX2 42 yX2_isChannel, Cond.static yX2_isChannel, Cond.initialized RX2, Cond.code yX2_isChannel cX2_isChannel 1 (some .boolean), Cond.methodLink RX2 61 yX2_wayTo, Cond.instanceMethod yX2_wayTo, Cond.selects RX2 yX2_wayTo yX2_wayTo, Cond.code yX2_wayTo cX2_wayTo 3 (some .int), Cond.fieldLink RX2 13 "PrinterRows" "lines" "I", Cond.fieldLink RX2 125 "PrinterRows" "standLine" "I", Cond.methodLink RX2 70 yX2_endsOnAPage, Cond.instanceMethod yX2_endsOnAPage, Cond.selects RX2 yX2_endsOnAPage yX2_endsOnAPage, Cond.code yX2_endsOnAPage cX2_endsOnAPage 2 (some .boolean), Cond.methodLink RX2 154 yX2_pageAfter, Cond.instanceMethod yX2_pageAfter, Cond.selects RX2 yX2_pageAfter yX2_pageAfter, Cond.code yX2_pageAfter cX2_pageAfter 3 (some .int), Cond.methodLink RX2 54 Lib.Math.max.name, Cond.static Lib.Math.max.name, Cond.initialized "java/lang/Math", Cond.code Lib.Math.max.name Lib.Math.max.code 2 (some .int), Cond.methodLink RX2 150 yX2_standPage]
def wsX2_skip_r2 : List Cond := [Cond.instanceMethod yX2_standPage, Cond.selects RX2 yX2_standPage yX2_standPage, Cond.code yX2_standPage cX2_standPage 1 (some .int), Cond.fieldLink RX2 146 "PrinterRows" "onBegunPage" "Z", Cond.fieldLink RX2 86 "PrinterRows" "begun" "I", Cond.methodLink RX2 79 yX2_moveBy, Cond.instanceMethod yX2_moveBy, Cond.selects RX2 yX2_moveBy yX2_moveBy, Cond.code yX2_moveBy cX2_moveBy 3 none, Cond.methodLink RX2 157 yX2_beginPage, Cond.instanceMethod yX2_beginPage, Cond.selects RX2 yX2_beginPage yX2_beginPage, Cond.code yX2_beginPage cX2_beginPage 1 none, Cond.classLink RX2 36 RX0, Cond.instantiable RX0 2, Cond.initialized RX0, Cond.fieldLink RX2 17 "PrinterRows" "columns" "I", Cond.methodLink RX2 160 yX0_init, Cond.instanceMethod yX0_init, Cond.code yX0_init cX0_init 3 none, Cond.methodLink RX0 3 objectInit, Cond.instanceMethod objectInit, Cond.code objectInit ⟨#[0xb1]⟩ 1 none, Cond.methodLink RX0 9 Lib.Math.max.name]
def wsX2_skip_r3 : List Cond := [Cond.classLink RX0 15 RX1, Cond.fieldLink RX0 17 "PrinterRows$Page" "rows" "[LPrinterRows$Row;", Cond.fieldLink RX0 23 "PrinterRows$Page" "columns" "I", Cond.methodLink RX2 112 yX2_addPage, Cond.instanceMethod yX2_addPage, Cond.selects RX2 yX2_addPage yX2_addPage, Cond.code yX2_addPage cX2_addPage 2 none, Cond.fieldLink RX2 38 "PrinterRows" "pages" "[LPrinterRows$Page;", Cond.methodLink RX2 89 yX2_standOnNewPage, Cond.instanceMethod yX2_standOnNewPage, Cond.selects RX2 yX2_standOnNewPage yX2_standOnNewPage, Cond.code yX2_standOnNewPage cX2_standOnNewPage 1 none, Cond.methodLink RX2 83 yX2_countSkip, Cond.instanceMethod yX2_countSkip, Cond.selects RX2 yX2_countSkip yX2_countSkip, Cond.code yX2_countSkip cX2_countSkip 2 none, Cond.fieldLink RX2 137 "PrinterRows" "skipsToNoLine" "I"]
def wsX2_skip : List Cond := .code yX2_skip cX2_skip 3 (some .int) :: ((wsX2_skip_r1 ++ (wsX2_skip_r2 ++ wsX2_skip_r3)) ++ wsX20 ++ wsX00)
def wsX2_end : List Cond := .code yX2_end cX2_end 1 (some .int) :: ([.fieldLink RX2 86 "PrinterRows" "begun" "I", .methodLink RX2 89 yX2_standOnNewPage, .instanceMethod yX2_standOnNewPage, .selects RX2 yX2_standOnNewPage yX2_standOnNewPage, .initialized RX2, .code yX2_standOnNewPage cX2_standOnNewPage 1 none, .fieldLink RX2 146 "PrinterRows" "onBegunPage" "Z", .fieldLink RX2 125 "PrinterRows" "standLine" "I"] ++ wsX20)
def wsX2_at : List Cond := .code yX2_at cX2_at 5 (some .int) :: ([.fieldLink RX2 13 "PrinterRows" "lines" "I", .fieldLink RX2 17 "PrinterRows" "columns" "I", .classLink RX2 96 RJx00060, .instantiable RJx00060 6, .initialized RJx00060, .methodLink RX2 92 yX2_begunPage, .instanceMethod yX2_begunPage, .selects RX2 yX2_begunPage yX2_begunPage, .initialized RX2, .code yX2_begunPage cX2_begunPage 2 (some (.object "PrinterRows$Page")), .fieldLink RX2 86 "PrinterRows" "begun" "I", .fieldLink RX2 38 "PrinterRows" "pages" "[LPrinterRows$Page;", .methodLink RX2 103 yX0_signIn, .instanceMethod yX0_signIn, .selects RX0 yX0_signIn yX0_signIn, .initialized RX0, .code yX0_signIn cX0_signIn 3 (some .int), .fieldLink RX0 17 "PrinterRows$Page" "rows" "[LPrinterRows$Row;", .methodLink RX0 34 yX1_signOf, .instanceMethod yX1_signOf, .selects RX1 yX1_signOf yX1_signOf, .initialized RX1, .code yX1_signOf cX1_signOf 2 (some .int), .fieldLink RX1 15 "PrinterRows$Row" "signs" "[I"] ++ wsX20 ++ wsJx000600 ++ wsX00 ++ wsX10)
def wsX2_over : List Cond := .code yX2_over cX2_over 3 (some .int) :: ([.methodLink RX2 106 yX2_isSign, .static yX2_isSign, .initialized RX2, .code yX2_isSign cX2_isSign 1 (some .boolean), .methodLink RX2 109 yX2_darker, .static yX2_darker, .code yX2_darker cX2_darker 2 (some .int), .methodLink RX2 54 Lib.Math.max.name, .static Lib.Math.max.name, .initialized "java/lang/Math", .code Lib.Math.max.name Lib.Math.max.code 2 (some .int)])
def wsX2_translate : List Cond := .code yX2_translate cX2_translate 4 (some .int) :: ([.fieldLink RX2 30 "PrinterRows" "printedAs" "[I", .methodLink RX2 106 yX2_isSign, .static yX2_isSign, .initialized RX2, .code yX2_isSign cX2_isSign 1 (some .boolean)] ++ wsX20)
def wsX2_copies : List Cond := .code yX2_copies cX2_copies 6 (some .int) :: ([.fieldLink RX2 86 "PrinterRows" "begun" "I", .methodLink RX2 92 yX2_begunPage, .instanceMethod yX2_begunPage, .selects RX2 yX2_begunPage yX2_begunPage, .initialized RX2, .code yX2_begunPage cX2_begunPage 2 (some (.object "PrinterRows$Page")), .fieldLink RX2 38 "PrinterRows" "pages" "[LPrinterRows$Page;", .methodLink RX2 112 yX2_addPage, .instanceMethod yX2_addPage, .selects RX2 yX2_addPage yX2_addPage, .code yX2_addPage cX2_addPage 2 none, .methodLink RX2 89 yX2_standOnNewPage, .instanceMethod yX2_standOnNewPage, .selects RX2 yX2_standOnNewPage yX2_standOnNewPage, .code yX2_standOnNewPage cX2_standOnNewPage 1 none, .fieldLink RX2 146 "PrinterRows" "onBegunPage" "Z", .fieldLink RX2 125 "PrinterRows" "standLine" "I"] ++ wsX20)
def wsX2_takeLastPage : List Cond := .code yX2_takeLastPage cX2_takeLastPage 1 none :: ([.fieldLink RX2 86 "PrinterRows" "begun" "I", .fieldLink RX2 38 "PrinterRows" "pages" "[LPrinterRows$Page;"] ++ wsX20)
def wsX2_back : List Cond := .code yX2_back cX2_back 3 (some .int) :: ([.fieldLink RX2 86 "PrinterRows" "begun" "I", .methodLink RX2 116 yX2_takeLastPage, .instanceMethod yX2_takeLastPage, .selects RX2 yX2_takeLastPage yX2_takeLastPage, .initialized RX2, .code yX2_takeLastPage cX2_takeLastPage 1 none, .fieldLink RX2 38 "PrinterRows" "pages" "[LPrinterRows$Page;", .methodLink RX2 89 yX2_standOnNewPage, .instanceMethod yX2_standOnNewPage, .selects RX2 yX2_standOnNewPage yX2_standOnNewPage, .code yX2_standOnNewPage cX2_standOnNewPage 1 none, .fieldLink RX2 146 "PrinterRows" "onBegunPage" "Z", .fieldLink RX2 125 "PrinterRows" "standLine" "I"] ++ wsX20)
def wsX2_forms : List Cond := .code yX2_forms cX2_forms 2 (some .int) :: ([.fieldLink RX2 119 "PrinterRows" "mountedKind" "I", .fieldLink RX2 122 "PrinterRows" "formsAskedFor" "I", .methodLink RX2 89 yX2_standOnNewPage, .instanceMethod yX2_standOnNewPage, .selects RX2 yX2_standOnNewPage yX2_standOnNewPage, .initialized RX2, .code yX2_standOnNewPage cX2_standOnNewPage 1 none, .fieldLink RX2 146 "PrinterRows" "onBegunPage" "Z", .fieldLink RX2 125 "PrinterRows" "standLine" "I"] ++ wsX20)
def wsX2_tally : List Cond := .code yX2_tally cX2_tally 2 (some .int) :: ([.fieldLink RX2 86 "PrinterRows" "begun" "I", .fieldLink RX2 125 "PrinterRows" "standLine" "I", .fieldLink RX2 128 "PrinterRows" "recordsPrinted" "I", .fieldLink RX2 131 "PrinterRows" "signsPrinted" "I", .fieldLink RX2 134 "PrinterRows" "signsCut" "I", .fieldLink RX2 137 "PrinterRows" "skipsToNoLine" "I", .fieldLink RX2 122 "PrinterRows" "formsAskedFor" "I", .fieldLink RX2 46 "PrinterRows" "recordLength" "I"] ++ wsX20)
def wsX3_init : List Cond := .code yX3_init cX3_init 4 none :: ([.methodLink RX3 1 objectInit, .instanceMethod objectInit, .code objectInit ⟨#[0xb1]⟩ 1 none, .constant RX3 7 (348480), .arrayClass .int, .fieldLink RX3 8 "PrinterRowsModel" "signs" "[I", .fieldLink RX3 14 "PrinterRowsModel" "channels" "[I", .fieldLink RX3 17 "PrinterRowsModel" "table" "[I", .fieldLink RX3 20 "PrinterRowsModel" "record" "[I", .fieldLink RX3 23 "PrinterRowsModel" "tallies" "[I", .fieldLink RX3 26 "PrinterRowsModel" "lines" "I", .fieldLink RX3 30 "PrinterRowsModel" "columns" "I"] ++ wsX30)
def wsX3_channel : List Cond := .code yX3_channel cX3_channel 4 (some .int) :: ([.fieldLink RX3 33 "PrinterRowsModel" "thrown" "I", .fieldLink RX3 26 "PrinterRowsModel" "lines" "I", .fieldLink RX3 14 "PrinterRowsModel" "channels" "[I"] ++ wsX30)
def wsX3_sign : List Cond := .code yX3_sign cX3_sign 2 none :: ([.fieldLink RX3 33 "PrinterRowsModel" "thrown" "I", .fieldLink RX3 36 "PrinterRowsModel" "length" "I", .fieldLink RX3 20 "PrinterRowsModel" "record" "[I"] ++ wsX30)
def wsX3_tries : List Cond := .code yX3_tries cX3_tries 1 none :: ([.fieldLink RX3 39 "PrinterRowsModel" "pages" "I", .fieldLink RX3 42 "PrinterRowsModel" "trialPages" "I", .fieldLink RX3 45 "PrinterRowsModel" "at" "I", .fieldLink RX3 48 "PrinterRowsModel" "trialLine" "I", .fieldLink RX3 51 "PrinterRowsModel" "begun" "Z", .fieldLink RX3 55 "PrinterRowsModel" "trialBegun" "Z"] ++ wsX30)
def wsX3_move : List Cond := .code yX3_move cX3_move 3 none :: ([.fieldLink RX3 48 "PrinterRowsModel" "trialLine" "I", .fieldLink RX3 26 "PrinterRowsModel" "lines" "I", .fieldLink RX3 42 "PrinterRowsModel" "trialPages" "I", .fieldLink RX3 55 "PrinterRowsModel" "trialBegun" "Z"] ++ wsX30)
def wsX3_way : List Cond := .code yX3_way cX3_way 3 (some .int) :: ([.fieldLink RX3 14 "PrinterRowsModel" "channels" "[I", .fieldLink RX3 26 "PrinterRowsModel" "lines" "I", .fieldLink RX3 48 "PrinterRowsModel" "trialLine" "I"] ++ wsX30)
def wsX3_begin : List Cond := .code yX3_begin cX3_begin 1 none :: ([.fieldLink RX3 42 "PrinterRowsModel" "trialPages" "I", .fieldLink RX3 55 "PrinterRowsModel" "trialBegun" "Z"] ++ wsX30)
def wsX3_settle : List Cond := .code yX3_settle cX3_settle 2 none :: ([.fieldLink RX3 39 "PrinterRowsModel" "pages" "I", .fieldLink RX3 42 "PrinterRowsModel" "trialPages" "I", .fieldLink RX3 8 "PrinterRowsModel" "signs" "[I", .fieldLink RX3 48 "PrinterRowsModel" "trialLine" "I", .fieldLink RX3 45 "PrinterRowsModel" "at" "I", .fieldLink RX3 55 "PrinterRowsModel" "trialBegun" "Z", .fieldLink RX3 51 "PrinterRowsModel" "begun" "Z"] ++ wsX30)
def wsX3_darker : List Cond := .code yX3_darker cX3_darker 2 (some .int) :: ([])
def wsX3_print : List Cond := .code yX3_print cX3_print 6 none :: ([.fieldLink RX3 36 "PrinterRowsModel" "length" "I", .fieldLink RX3 17 "PrinterRowsModel" "table" "[I", .fieldLink RX3 20 "PrinterRowsModel" "record" "[I", .fieldLink RX3 30 "PrinterRowsModel" "columns" "I", .fieldLink RX3 23 "PrinterRowsModel" "tallies" "[I", .fieldLink RX3 8 "PrinterRowsModel" "signs" "[I", .methodLink RX3 58 yX3_darker, .static yX3_darker, .initialized RX3, .code yX3_darker cX3_darker 2 (some .int)] ++ wsX30)
def wsX3_ahead : List Cond := .code yX3_ahead cX3_ahead 2 (some .int) :: ([.methodLink RX3 62 yX3_way, .instanceMethod yX3_way, .selects RX3 yX3_way yX3_way, .initialized RX3, .code yX3_way cX3_way 3 (some .int), .fieldLink RX3 14 "PrinterRowsModel" "channels" "[I", .fieldLink RX3 26 "PrinterRowsModel" "lines" "I", .fieldLink RX3 48 "PrinterRowsModel" "trialLine" "I"] ++ wsX30)
def wsX3_channelOf : List Cond := .code yX3_channelOf cX3_channelOf 1 (some .int) :: ([])
def wsX3_line_r1 : List Cond := [Cond.fieldLink RX3 33 "PrinterRowsModel" "thrown" "I", Cond.fieldLink RX3 42 "PrinterRowsModel" "trialPages" "I", Cond.fieldLink RX3 48 "PrinterRowsModel" "trialLine" "I", Cond.fieldLink RX3 23 "PrinterRowsModel" "tallies" "[I", Cond.fieldLink RX3 14 "PrinterRowsModel" "channels" "[I", Cond.fieldLink RX3 39 "PrinterRowsModel" "pages" "I", Cond.methodLink RX3 66 yX3_tries, Cond.instanceMethod yX3_tries, Cond.selects RX3 yX3_tries yX3_tries, Cond.initialized RX3, Cond.code yX3_tries cX3_tries 1 none, Cond.fieldLink RX3 45 "PrinterRowsModel" "at" "I", Cond.fieldLink RX3 51 "PrinterRowsModel" "begun" "Z", Cond.fieldLink RX3 55 "PrinterRowsModel" "trialBegun" "Z", Cond.methodLink RX3 69 yX3_ahead, Cond.instanceMethod yX3_ahead, Cond.selects RX3 yX3_ahead yX3_ahead, Cond.code yX3_ahead cX3_ahead 2 (some .int), Cond.methodLink RX3 62 yX3_way, Cond.instanceMethod yX3_way, Cond.selects RX3 yX3_way yX3_way, Cond.code yX3_way cX3_way 3 (some .int), Cond.fieldLink RX3 26 "PrinterRowsModel" "lines" "I", Cond.methodLink RX3 72 yX3_move]
def wsX3_line_r2 : List Cond := [Cond.instanceMethod yX3_move, Cond.selects RX3 yX3_move yX3_move, Cond.code yX3_move cX3_move 3 none, Cond.methodLink RX3 76 yX3_begin, Cond.instanceMethod yX3_begin, Cond.selects RX3 yX3_begin yX3_begin, Cond.code yX3_begin cX3_begin 1 none, Cond.methodLink RX3 79 yX3_channelOf, Cond.static yX3_channelOf, Cond.code yX3_channelOf cX3_channelOf 1 (some .int), Cond.methodLink RX3 82 yX3_settle, Cond.instanceMethod yX3_settle, Cond.selects RX3 yX3_settle yX3_settle, Cond.code yX3_settle cX3_settle 2 none, Cond.fieldLink RX3 8 "PrinterRowsModel" "signs" "[I", Cond.methodLink RX3 85 yX3_print, Cond.instanceMethod yX3_print, Cond.selects RX3 yX3_print yX3_print, Cond.code yX3_print cX3_print 6 none, Cond.fieldLink RX3 36 "PrinterRowsModel" "length" "I", Cond.fieldLink RX3 17 "PrinterRowsModel" "table" "[I", Cond.fieldLink RX3 20 "PrinterRowsModel" "record" "[I", Cond.fieldLink RX3 30 "PrinterRowsModel" "columns" "I", Cond.methodLink RX3 58 yX3_darker]
def wsX3_line_r3 : List Cond := [Cond.static yX3_darker, Cond.code yX3_darker cX3_darker 2 (some .int)]
def wsX3_line : List Cond := .code yX3_line cX3_line 6 (some .int) :: ((wsX3_line_r1 ++ (wsX3_line_r2 ++ wsX3_line_r3)) ++ wsX30)
def wsX3_skip_r1 : List Cond := [Cond.fieldLink RX3 33 "PrinterRowsModel" "thrown" "I", Cond.fieldLink RX3 42 "PrinterRowsModel" "trialPages" "I", Cond.fieldLink RX3 14 "PrinterRowsModel" "channels" "[I", Cond.fieldLink RX3 23 "PrinterRowsModel" "tallies" "[I", Cond.methodLink RX3 66 yX3_tries, Cond.instanceMethod yX3_tries, Cond.selects RX3 yX3_tries yX3_tries, Cond.initialized RX3, Cond.code yX3_tries cX3_tries 1 none, Cond.fieldLink RX3 39 "PrinterRowsModel" "pages" "I", Cond.fieldLink RX3 45 "PrinterRowsModel" "at" "I", Cond.fieldLink RX3 48 "PrinterRowsModel" "trialLine" "I", Cond.fieldLink RX3 51 "PrinterRowsModel" "begun" "Z", Cond.fieldLink RX3 55 "PrinterRowsModel" "trialBegun" "Z", Cond.methodLink RX3 62 yX3_way, Cond.instanceMethod yX3_way, Cond.selects RX3 yX3_way yX3_way, Cond.code yX3_way cX3_way 3 (some .int), Cond.fieldLink RX3 26 "PrinterRowsModel" "lines" "I", Cond.methodLink RX3 72 yX3_move, Cond.instanceMethod yX3_move, Cond.selects RX3 yX3_move yX3_move, Cond.code yX3_move cX3_move 3 none, Cond.methodLink RX3 82 yX3_settle]
def wsX3_skip_r2 : List Cond := [Cond.instanceMethod yX3_settle, Cond.selects RX3 yX3_settle yX3_settle, Cond.code yX3_settle cX3_settle 2 none, Cond.fieldLink RX3 8 "PrinterRowsModel" "signs" "[I"]
def wsX3_skip : List Cond := .code yX3_skip cX3_skip 3 (some .int) :: ((wsX3_skip_r1 ++ wsX3_skip_r2) ++ wsX30)
def wsX3_pass : List Cond := .code yX3_pass cX3_pass 1 none :: ([.fieldLink RX3 51 "PrinterRowsModel" "begun" "Z", .fieldLink RX3 45 "PrinterRowsModel" "at" "I"] ++ wsX30)
def wsX3_end : List Cond := .code yX3_end cX3_end 1 (some .int) :: ([.fieldLink RX3 33 "PrinterRowsModel" "thrown" "I", .fieldLink RX3 39 "PrinterRowsModel" "pages" "I", .methodLink RX3 89 yX3_pass, .instanceMethod yX3_pass, .selects RX3 yX3_pass yX3_pass, .initialized RX3, .code yX3_pass cX3_pass 1 none, .fieldLink RX3 51 "PrinterRowsModel" "begun" "Z", .fieldLink RX3 45 "PrinterRowsModel" "at" "I"] ++ wsX30)
def wsX3_at : List Cond := .code yX3_at cX3_at 5 (some .int) :: ([.fieldLink RX3 39 "PrinterRowsModel" "pages" "I", .fieldLink RX3 26 "PrinterRowsModel" "lines" "I", .fieldLink RX3 30 "PrinterRowsModel" "columns" "I", .fieldLink RX3 33 "PrinterRowsModel" "thrown" "I", .fieldLink RX3 8 "PrinterRowsModel" "signs" "[I"] ++ wsX30)
def wsX3_isSign : List Cond := .code yX3_isSign cX3_isSign 1 (some .boolean) :: ([])
def wsX3_over : List Cond := .code yX3_over cX3_over 3 (some .int) :: ([.fieldLink RX3 33 "PrinterRowsModel" "thrown" "I", .methodLink RX3 92 yX3_isSign, .static yX3_isSign, .initialized RX3, .code yX3_isSign cX3_isSign 1 (some .boolean), .methodLink RX3 58 yX3_darker, .static yX3_darker, .code yX3_darker cX3_darker 2 (some .int)] ++ wsX30)
def wsX3_translate : List Cond := .code yX3_translate cX3_translate 4 (some .int) :: ([.fieldLink RX3 33 "PrinterRowsModel" "thrown" "I", .fieldLink RX3 17 "PrinterRowsModel" "table" "[I", .methodLink RX3 92 yX3_isSign, .static yX3_isSign, .initialized RX3, .code yX3_isSign cX3_isSign 1 (some .boolean)] ++ wsX30)
def wsX3_copies : List Cond := .code yX3_copies cX3_copies 6 (some .int) :: ([.fieldLink RX3 33 "PrinterRowsModel" "thrown" "I", .fieldLink RX3 39 "PrinterRowsModel" "pages" "I", .fieldLink RX3 8 "PrinterRowsModel" "signs" "[I", .methodLink RX3 89 yX3_pass, .instanceMethod yX3_pass, .selects RX3 yX3_pass yX3_pass, .initialized RX3, .code yX3_pass cX3_pass 1 none, .fieldLink RX3 51 "PrinterRowsModel" "begun" "Z", .fieldLink RX3 45 "PrinterRowsModel" "at" "I"] ++ wsX30)
def wsX3_back : List Cond := .code yX3_back cX3_back 2 (some .int) :: ([.fieldLink RX3 33 "PrinterRowsModel" "thrown" "I", .fieldLink RX3 39 "PrinterRowsModel" "pages" "I", .methodLink RX3 89 yX3_pass, .instanceMethod yX3_pass, .selects RX3 yX3_pass yX3_pass, .initialized RX3, .code yX3_pass cX3_pass 1 none, .fieldLink RX3 51 "PrinterRowsModel" "begun" "Z", .fieldLink RX3 45 "PrinterRowsModel" "at" "I"] ++ wsX30)
def wsX3_forms : List Cond := .code yX3_forms cX3_forms 2 (some .int) :: ([.fieldLink RX3 33 "PrinterRowsModel" "thrown" "I", .fieldLink RX3 96 "PrinterRowsModel" "mounted" "I", .fieldLink RX3 23 "PrinterRowsModel" "tallies" "[I", .methodLink RX3 89 yX3_pass, .instanceMethod yX3_pass, .selects RX3 yX3_pass yX3_pass, .initialized RX3, .code yX3_pass cX3_pass 1 none, .fieldLink RX3 51 "PrinterRowsModel" "begun" "Z", .fieldLink RX3 45 "PrinterRowsModel" "at" "I"] ++ wsX30)
def wsX3_tally : List Cond := .code yX3_tally cX3_tally 2 (some .int) :: ([.fieldLink RX3 33 "PrinterRowsModel" "thrown" "I", .fieldLink RX3 39 "PrinterRowsModel" "pages" "I", .fieldLink RX3 45 "PrinterRowsModel" "at" "I", .fieldLink RX3 23 "PrinterRowsModel" "tallies" "[I", .fieldLink RX3 36 "PrinterRowsModel" "length" "I"] ++ wsX30)
def wsJx00060_init_a7421 : List Cond := .code yJx00060_init_a7421 cJx00060_init_a7421 2 none :: ([])
def wsJ9_max_7cf53 : List Cond := .code yJ9_max_7cf53 cJ9_max_7cf53 2 (some .int) :: ([])
def wsJ9_min_7cf53 : List Cond := .code yJ9_min_7cf53 cJ9_min_7cf53 2 (some .int) :: ([])
def wsL_cell : List Cond := .code yL_cell cL_cell 2 (some .int) :: ([])
def wsL_at_r1 : List Cond := [Cond.methodLink RL 7 yX2_at, Cond.instanceMethod yX2_at, Cond.selects RX2 yX2_at yX2_at, Cond.initialized RX2, Cond.code yX2_at cX2_at 5 (some .int), Cond.fieldLink RX2 13 "PrinterRows" "lines" "I", Cond.fieldLink RX2 17 "PrinterRows" "columns" "I", Cond.classLink RX2 96 RJx00060, Cond.instantiable RJx00060 6, Cond.initialized RJx00060, Cond.methodLink RX2 92 yX2_begunPage, Cond.instanceMethod yX2_begunPage, Cond.selects RX2 yX2_begunPage yX2_begunPage, Cond.code yX2_begunPage cX2_begunPage 2 (some (.object "PrinterRows$Page")), Cond.fieldLink RX2 86 "PrinterRows" "begun" "I", Cond.fieldLink RX2 38 "PrinterRows" "pages" "[LPrinterRows$Page;", Cond.methodLink RX2 103 yX0_signIn, Cond.instanceMethod yX0_signIn, Cond.selects RX0 yX0_signIn yX0_signIn, Cond.initialized RX0, Cond.code yX0_signIn cX0_signIn 3 (some .int), Cond.fieldLink RX0 17 "PrinterRows$Page" "rows" "[LPrinterRows$Row;", Cond.methodLink RX0 34 yX1_signOf, Cond.instanceMethod yX1_signOf]
def wsL_at_r2 : List Cond := [Cond.selects RX1 yX1_signOf yX1_signOf, Cond.initialized RX1, Cond.code yX1_signOf cX1_signOf 2 (some .int), Cond.fieldLink RX1 15 "PrinterRows$Row" "signs" "[I"]
def wsL_at : List Cond := .codeWith yL_at cL_at 6 (some .int) [(0, 12, 15, 13)] :: ((wsL_at_r1 ++ wsL_at_r2) ++ wsX20 ++ wsJx000600 ++ wsX00 ++ wsX10)
def wsL_law_r1 : List Cond := [Cond.classLink RL 8 RX2, Cond.instantiable RX2 16, Cond.initialized RX2, Cond.classLink RL 24 RX3, Cond.instantiable RX3 16, Cond.initialized RX3, Cond.arrayClass .long, Cond.methodLink RL 15 yL_cell, Cond.static yL_cell, Cond.initialized RL, Cond.code yL_cell cL_cell 2 (some .int), Cond.methodLink RL 21 yX2_init, Cond.instanceMethod yX2_init, Cond.code yX2_init cX2_init 4 none, Cond.methodLink RX2 3 objectInit, Cond.instanceMethod objectInit, Cond.code objectInit ⟨#[0xb1]⟩ 1 none, Cond.fieldLink RX2 13 "PrinterRows" "lines" "I", Cond.fieldLink RX2 17 "PrinterRows" "columns" "I", Cond.arrayClass .int, Cond.fieldLink RX2 20 "PrinterRows" "channelLines" "[I", Cond.fieldLink RX2 30 "PrinterRows" "printedAs" "[I", Cond.fieldLink RX2 33 "PrinterRows" "record" "[I", Cond.classLink RX2 36 RX0]
def wsL_law_r2 : List Cond := [Cond.fieldLink RX2 38 "PrinterRows" "pages" "[LPrinterRows$Page;", Cond.methodLink RX2 9 yX2_heldTo, Cond.static yX2_heldTo, Cond.code yX2_heldTo cX2_heldTo 2 (some .int), Cond.methodLink RX2 140 Lib.Math.min.name, Cond.static Lib.Math.min.name, Cond.initialized "java/lang/Math", Cond.code Lib.Math.min.name Lib.Math.min.code 2 (some .int), Cond.methodLink RX2 54 Lib.Math.max.name, Cond.static Lib.Math.max.name, Cond.code Lib.Math.max.name Lib.Math.max.code 2 (some .int), Cond.methodLink RX2 24 yJ7_fill_53178, Cond.static yJ7_fill_53178, Cond.initialized RJ7, Cond.code yJ7_fill_53178 cJ7_fill_53178 4 none, Cond.methodLink RL 26 yX3_init, Cond.instanceMethod yX3_init, Cond.code yX3_init cX3_init 4 none, Cond.methodLink RX3 1 objectInit, Cond.constant RX3 7 (348480), Cond.fieldLink RX3 8 "PrinterRowsModel" "signs" "[I", Cond.fieldLink RX3 14 "PrinterRowsModel" "channels" "[I", Cond.fieldLink RX3 17 "PrinterRowsModel" "table" "[I", Cond.fieldLink RX3 20 "PrinterRowsModel" "record" "[I"]
def wsL_law_r3 : List Cond := [Cond.fieldLink RX3 23 "PrinterRowsModel" "tallies" "[I", Cond.fieldLink RX3 26 "PrinterRowsModel" "lines" "I", Cond.fieldLink RX3 30 "PrinterRowsModel" "columns" "I", Cond.methodLink RL 27 yX2_channel, Cond.instanceMethod yX2_channel, Cond.selects RX2 yX2_channel yX2_channel, Cond.code yX2_channel cX2_channel 4 (some .int), Cond.methodLink RX2 42 yX2_isChannel, Cond.static yX2_isChannel, Cond.code yX2_isChannel cX2_isChannel 1 (some .boolean), Cond.methodLink RL 31 yX3_channel, Cond.instanceMethod yX3_channel, Cond.selects RX3 yX3_channel yX3_channel, Cond.code yX3_channel cX3_channel 4 (some .int), Cond.fieldLink RX3 33 "PrinterRowsModel" "thrown" "I", Cond.methodLink RL 32 yX2_sign, Cond.instanceMethod yX2_sign, Cond.selects RX2 yX2_sign yX2_sign, Cond.code yX2_sign cX2_sign 2 none, Cond.fieldLink RX2 46 "PrinterRows" "recordLength" "I", Cond.methodLink RX2 49 yJ9_floorMod_7cf53, Cond.static yJ9_floorMod_7cf53, Cond.initialized RJ9, Cond.code yJ9_floorMod_7cf53 cJ9_floorMod_7cf53 3 (some .int)]
def wsL_law_r4 : List Cond := [Cond.methodLink RL 36 yX3_sign, Cond.instanceMethod yX3_sign, Cond.selects RX3 yX3_sign yX3_sign, Cond.code yX3_sign cX3_sign 2 none, Cond.fieldLink RX3 36 "PrinterRowsModel" "length" "I", Cond.methodLink RL 37 yX2_line, Cond.instanceMethod yX2_line, Cond.selects RX2 yX2_line yX2_line, Cond.code yX2_line cX2_line 4 (some .int), Cond.fieldLink RX2 86 "PrinterRows" "begun" "I", Cond.methodLink RX2 57 yX2_channelOfCode, Cond.static yX2_channelOfCode, Cond.code yX2_channelOfCode cX2_channelOfCode 2 (some .int), Cond.methodLink RX2 61 yX2_wayTo, Cond.instanceMethod yX2_wayTo, Cond.selects RX2 yX2_wayTo yX2_wayTo, Cond.code yX2_wayTo cX2_wayTo 3 (some .int), Cond.fieldLink RX2 125 "PrinterRows" "standLine" "I", Cond.methodLink RX2 64 yX2_linesOfCode, Cond.static yX2_linesOfCode, Cond.code yX2_linesOfCode cX2_linesOfCode 1 (some .int), Cond.methodLink RX2 143 yX2_isPlainSecondKind, Cond.static yX2_isPlainSecondKind, Cond.code yX2_isPlainSecondKind cX2_isPlainSecondKind 1 (some .boolean)]
def wsL_law_r5 : List Cond := [Cond.methodLink RX2 67 yX2_isSecondKind, Cond.static yX2_isSecondKind, Cond.code yX2_isSecondKind cX2_isSecondKind 1 (some .boolean), Cond.methodLink RX2 70 yX2_endsOnAPage, Cond.instanceMethod yX2_endsOnAPage, Cond.selects RX2 yX2_endsOnAPage yX2_endsOnAPage, Cond.code yX2_endsOnAPage cX2_endsOnAPage 2 (some .boolean), Cond.methodLink RX2 154 yX2_pageAfter, Cond.instanceMethod yX2_pageAfter, Cond.selects RX2 yX2_pageAfter yX2_pageAfter, Cond.code yX2_pageAfter cX2_pageAfter 3 (some .int), Cond.methodLink RX2 150 yX2_standPage, Cond.instanceMethod yX2_standPage, Cond.selects RX2 yX2_standPage yX2_standPage, Cond.code yX2_standPage cX2_standPage 1 (some .int), Cond.fieldLink RX2 146 "PrinterRows" "onBegunPage" "Z", Cond.methodLink RX2 73 yX2_endsAtMostBehindThem, Cond.instanceMethod yX2_endsAtMostBehindThem, Cond.selects RX2 yX2_endsAtMostBehindThem yX2_endsAtMostBehindThem, Cond.code yX2_endsAtMostBehindThem cX2_endsAtMostBehindThem 2 (some .boolean), Cond.methodLink RX2 76 yX2_printRecord, Cond.instanceMethod yX2_printRecord, Cond.selects RX2 yX2_printRecord yX2_printRecord, Cond.code yX2_printRecord cX2_printRecord 3 none]
def wsL_law_r6 : List Cond := [Cond.fieldLink RX2 134 "PrinterRows" "signsCut" "I", Cond.fieldLink RX2 128 "PrinterRows" "recordsPrinted" "I", Cond.methodLink RX2 157 yX2_beginPage, Cond.instanceMethod yX2_beginPage, Cond.selects RX2 yX2_beginPage yX2_beginPage, Cond.code yX2_beginPage cX2_beginPage 1 none, Cond.instantiable RX0 2, Cond.initialized RX0, Cond.methodLink RX2 160 yX0_init, Cond.instanceMethod yX0_init, Cond.code yX0_init cX0_init 3 none, Cond.methodLink RX0 3 objectInit, Cond.methodLink RX0 9 Lib.Math.max.name, Cond.classLink RX0 15 RX1, Cond.fieldLink RX0 17 "PrinterRows$Page" "rows" "[LPrinterRows$Row;", Cond.fieldLink RX0 23 "PrinterRows$Page" "columns" "I", Cond.methodLink RX2 112 yX2_addPage, Cond.instanceMethod yX2_addPage, Cond.selects RX2 yX2_addPage yX2_addPage, Cond.code yX2_addPage cX2_addPage 2 none, Cond.methodLink RX2 92 yX2_begunPage, Cond.instanceMethod yX2_begunPage, Cond.selects RX2 yX2_begunPage yX2_begunPage, Cond.code yX2_begunPage cX2_begunPage 2 (some (.object "PrinterRows$Page"))]
def wsL_law_r7 : List Cond := [Cond.methodLink RX2 163 yX2_printSign, Cond.instanceMethod yX2_printSign, Cond.selects RX2 yX2_printSign yX2_printSign, Cond.code yX2_printSign cX2_printSign 5 none, Cond.fieldLink RX2 131 "PrinterRows" "signsPrinted" "I", Cond.methodLink RX2 106 yX2_isSign, Cond.static yX2_isSign, Cond.code yX2_isSign cX2_isSign 1 (some .boolean), Cond.methodLink RX2 167 yX0_join, Cond.instanceMethod yX0_join, Cond.selects RX0 yX0_join yX0_join, Cond.code yX0_join cX0_join 4 none, Cond.instantiable RX1 1, Cond.initialized RX1, Cond.methodLink RX0 27 yX1_init, Cond.instanceMethod yX1_init, Cond.code yX1_init cX1_init 2 none, Cond.methodLink RX1 3 objectInit, Cond.methodLink RX1 9 Lib.Math.max.name, Cond.fieldLink RX1 15 "PrinterRows$Row" "signs" "[I", Cond.methodLink RX1 21 yJ7_fill_53178, Cond.methodLink RX0 30 yX1_joinSign, Cond.instanceMethod yX1_joinSign, Cond.selects RX1 yX1_joinSign yX1_joinSign]
def wsL_law_r8 : List Cond := [Cond.code yX1_joinSign cX1_joinSign 3 none, Cond.static yX2_darker, Cond.code yX2_darker cX2_darker 2 (some .int), Cond.methodLink RX2 79 yX2_moveBy, Cond.instanceMethod yX2_moveBy, Cond.selects RX2 yX2_moveBy yX2_moveBy, Cond.code yX2_moveBy cX2_moveBy 3 none, Cond.methodLink RX2 89 yX2_standOnNewPage, Cond.instanceMethod yX2_standOnNewPage, Cond.selects RX2 yX2_standOnNewPage yX2_standOnNewPage, Cond.code yX2_standOnNewPage cX2_standOnNewPage 1 none, Cond.methodLink RX2 83 yX2_countSkip, Cond.instanceMethod yX2_countSkip, Cond.selects RX2 yX2_countSkip yX2_countSkip, Cond.code yX2_countSkip cX2_countSkip 2 none, Cond.fieldLink RX2 137 "PrinterRows" "skipsToNoLine" "I", Cond.methodLink RL 41 yX3_line, Cond.instanceMethod yX3_line, Cond.selects RX3 yX3_line yX3_line, Cond.code yX3_line cX3_line 6 (some .int), Cond.fieldLink RX3 42 "PrinterRowsModel" "trialPages" "I", Cond.fieldLink RX3 48 "PrinterRowsModel" "trialLine" "I", Cond.fieldLink RX3 39 "PrinterRowsModel" "pages" "I", Cond.methodLink RX3 66 yX3_tries]
def wsL_law_r9 : List Cond := [Cond.instanceMethod yX3_tries, Cond.selects RX3 yX3_tries yX3_tries, Cond.code yX3_tries cX3_tries 1 none, Cond.fieldLink RX3 45 "PrinterRowsModel" "at" "I", Cond.fieldLink RX3 51 "PrinterRowsModel" "begun" "Z", Cond.fieldLink RX3 55 "PrinterRowsModel" "trialBegun" "Z", Cond.methodLink RX3 69 yX3_ahead, Cond.instanceMethod yX3_ahead, Cond.selects RX3 yX3_ahead yX3_ahead, Cond.code yX3_ahead cX3_ahead 2 (some .int), Cond.methodLink RX3 62 yX3_way, Cond.instanceMethod yX3_way, Cond.selects RX3 yX3_way yX3_way, Cond.code yX3_way cX3_way 3 (some .int), Cond.methodLink RX3 72 yX3_move, Cond.instanceMethod yX3_move, Cond.selects RX3 yX3_move yX3_move, Cond.code yX3_move cX3_move 3 none, Cond.methodLink RX3 76 yX3_begin, Cond.instanceMethod yX3_begin, Cond.selects RX3 yX3_begin yX3_begin, Cond.code yX3_begin cX3_begin 1 none, Cond.methodLink RX3 79 yX3_channelOf, Cond.static yX3_channelOf]
def wsL_law_r10 : List Cond := [Cond.code yX3_channelOf cX3_channelOf 1 (some .int), Cond.methodLink RX3 82 yX3_settle, Cond.instanceMethod yX3_settle, Cond.selects RX3 yX3_settle yX3_settle, Cond.code yX3_settle cX3_settle 2 none, Cond.methodLink RX3 85 yX3_print, Cond.instanceMethod yX3_print, Cond.selects RX3 yX3_print yX3_print, Cond.code yX3_print cX3_print 6 none, Cond.methodLink RX3 58 yX3_darker, Cond.static yX3_darker, Cond.code yX3_darker cX3_darker 2 (some .int), Cond.methodLink RL 42 yX2_skip, Cond.instanceMethod yX2_skip, Cond.selects RX2 yX2_skip yX2_skip, Cond.code yX2_skip cX2_skip 3 (some .int), Cond.methodLink RL 45 yX3_skip, Cond.instanceMethod yX3_skip, Cond.selects RX3 yX3_skip yX3_skip, Cond.code yX3_skip cX3_skip 3 (some .int), Cond.methodLink RL 46 yX2_end, Cond.instanceMethod yX2_end, Cond.selects RX2 yX2_end yX2_end, Cond.code yX2_end cX2_end 1 (some .int)]
def wsL_law_r11 : List Cond := [Cond.methodLink RL 50 yX3_end, Cond.instanceMethod yX3_end, Cond.selects RX3 yX3_end yX3_end, Cond.code yX3_end cX3_end 1 (some .int), Cond.methodLink RX3 89 yX3_pass, Cond.instanceMethod yX3_pass, Cond.selects RX3 yX3_pass yX3_pass, Cond.code yX3_pass cX3_pass 1 none, Cond.methodLink RL 51 yL_at, Cond.static yL_at, Cond.codeWith yL_at cL_at 6 (some .int) [(0, 12, 15, 13)], Cond.methodLink RL 7 yX2_at, Cond.instanceMethod yX2_at, Cond.selects RX2 yX2_at yX2_at, Cond.code yX2_at cX2_at 5 (some .int), Cond.classLink RX2 96 RJx00060, Cond.instantiable RJx00060 6, Cond.initialized RJx00060, Cond.methodLink RX2 103 yX0_signIn, Cond.instanceMethod yX0_signIn, Cond.selects RX0 yX0_signIn yX0_signIn, Cond.code yX0_signIn cX0_signIn 3 (some .int), Cond.methodLink RX0 34 yX1_signOf, Cond.instanceMethod yX1_signOf]
def wsL_law_r12 : List Cond := [Cond.selects RX1 yX1_signOf yX1_signOf, Cond.code yX1_signOf cX1_signOf 2 (some .int), Cond.methodLink RL 54 yX3_at, Cond.instanceMethod yX3_at, Cond.selects RX3 yX3_at yX3_at, Cond.code yX3_at cX3_at 5 (some .int), Cond.methodLink RL 55 yX2_over, Cond.instanceMethod yX2_over, Cond.selects RX2 yX2_over yX2_over, Cond.code yX2_over cX2_over 3 (some .int), Cond.methodLink RX2 109 yX2_darker, Cond.methodLink RL 58 yX3_over, Cond.instanceMethod yX3_over, Cond.selects RX3 yX3_over yX3_over, Cond.code yX3_over cX3_over 3 (some .int), Cond.methodLink RX3 92 yX3_isSign, Cond.static yX3_isSign, Cond.code yX3_isSign cX3_isSign 1 (some .boolean), Cond.methodLink RL 59 yX2_translate, Cond.instanceMethod yX2_translate, Cond.selects RX2 yX2_translate yX2_translate, Cond.code yX2_translate cX2_translate 4 (some .int), Cond.methodLink RL 62 yX3_translate, Cond.instanceMethod yX3_translate]
def wsL_law_r13 : List Cond := [Cond.selects RX3 yX3_translate yX3_translate, Cond.code yX3_translate cX3_translate 4 (some .int), Cond.methodLink RL 63 yX2_copies, Cond.instanceMethod yX2_copies, Cond.selects RX2 yX2_copies yX2_copies, Cond.code yX2_copies cX2_copies 6 (some .int), Cond.methodLink RL 66 yX3_copies, Cond.instanceMethod yX3_copies, Cond.selects RX3 yX3_copies yX3_copies, Cond.code yX3_copies cX3_copies 6 (some .int), Cond.methodLink RL 67 yX2_back, Cond.instanceMethod yX2_back, Cond.selects RX2 yX2_back yX2_back, Cond.code yX2_back cX2_back 3 (some .int), Cond.methodLink RX2 116 yX2_takeLastPage, Cond.instanceMethod yX2_takeLastPage, Cond.selects RX2 yX2_takeLastPage yX2_takeLastPage, Cond.code yX2_takeLastPage cX2_takeLastPage 1 none, Cond.methodLink RL 70 yX3_back, Cond.instanceMethod yX3_back, Cond.selects RX3 yX3_back yX3_back, Cond.code yX3_back cX3_back 2 (some .int), Cond.methodLink RL 71 yX2_forms, Cond.instanceMethod yX2_forms]
def wsL_law_r14 : List Cond := [Cond.selects RX2 yX2_forms yX2_forms, Cond.code yX2_forms cX2_forms 2 (some .int), Cond.fieldLink RX2 119 "PrinterRows" "mountedKind" "I", Cond.fieldLink RX2 122 "PrinterRows" "formsAskedFor" "I", Cond.methodLink RL 74 yX3_forms, Cond.instanceMethod yX3_forms, Cond.selects RX3 yX3_forms yX3_forms, Cond.code yX3_forms cX3_forms 2 (some .int), Cond.fieldLink RX3 96 "PrinterRowsModel" "mounted" "I", Cond.methodLink RL 75 yX2_tally, Cond.instanceMethod yX2_tally, Cond.selects RX2 yX2_tally yX2_tally, Cond.code yX2_tally cX2_tally 2 (some .int), Cond.methodLink RL 78 yX3_tally, Cond.instanceMethod yX3_tally, Cond.selects RX3 yX3_tally yX3_tally, Cond.code yX3_tally cX3_tally 2 (some .int)]
def wsL_law : List Cond := (wsL_law_r1 ++ (wsL_law_r2 ++ (wsL_law_r3 ++ (wsL_law_r4 ++ (wsL_law_r5 ++ (wsL_law_r6 ++ (wsL_law_r7 ++ (wsL_law_r8 ++ (wsL_law_r9 ++ (wsL_law_r10 ++ (wsL_law_r11 ++ (wsL_law_r12 ++ (wsL_law_r13 ++ wsL_law_r14))))))))))))) ++ wsX20 ++ wsX30 ++ wsX00 ++ wsX10 ++ wsJx000600 ++ ([] : List Cond)
set_option maxRecDepth 20000 in
theorem wsL_law_in : ∀ w ∈ wsL_law, w ∈ lw_tbl := fun w h => (goodIn_p wsL_law [268, 39, 42, 45, 48, 51, 54, 360, 110, 113, 415, 117, 120, 419, 124, 127, 131, 134, 137, 140, 144, 148, 152, 156, 160, 164, 168, 183, 187, 191, 194, 198, 202, 213, 216, 220, 224, 228, 423, 427, 431, 435, 439, 443, 446, 450, 454, 457, 232, 461, 236, 465, 469, 276, 351, 355, 473, 240, 477, 480, 245, 484, 249, 488, 253, 257, 492, 261, 496, 265, 500] (by decide +kernel) (by decide +kernel) w h).1
theorem inlX0 : ∀ w ∈ wsX00, w ∈ wsL_law := fun _ h => List.mem_append_left _ (List.mem_append_left _ (List.mem_append_left _ (List.mem_append_right _ h)))
theorem inX0 : ∀ w ∈ wsX00, w ∈ lw_tbl := fun w h => wsL_law_in w (inlX0 w h)
theorem inlX1 : ∀ w ∈ wsX10, w ∈ wsL_law := fun _ h => List.mem_append_left _ (List.mem_append_left _ (List.mem_append_right _ h))
theorem inX1 : ∀ w ∈ wsX10, w ∈ lw_tbl := fun w h => wsL_law_in w (inlX1 w h)
theorem inlX2 : ∀ w ∈ wsX20, w ∈ wsL_law := fun _ h => List.mem_append_left _ (List.mem_append_left _ (List.mem_append_left _ (List.mem_append_left _ (List.mem_append_left _ (List.mem_append_right _ h)))))
theorem inX2 : ∀ w ∈ wsX20, w ∈ lw_tbl := fun w h => wsL_law_in w (inlX2 w h)
theorem inlX3 : ∀ w ∈ wsX30, w ∈ wsL_law := fun _ h => List.mem_append_left _ (List.mem_append_left _ (List.mem_append_left _ (List.mem_append_left _ (List.mem_append_right _ h))))
theorem inX3 : ∀ w ∈ wsX30, w ∈ lw_tbl := fun w h => wsL_law_in w (inlX3 w h)
theorem inlJx00060 : ∀ w ∈ wsJx000600, w ∈ wsL_law := fun _ h => List.mem_append_left _ (List.mem_append_right _ h)
theorem inJx00060 : ∀ w ∈ wsJx000600, w ∈ lw_tbl := fun w h => wsL_law_in w (inlJx00060 w h)
theorem inJ9 : ∀ w ∈ wsJ90, w ∈ lw_tbl := by decide +kernel
theorem inJ0 : ∀ w ∈ wsJ00, w ∈ lw_tbl := by decide +kernel
theorem inJ7 : ∀ w ∈ wsJ70, w ∈ lw_tbl := by decide +kernel
abbrev vwCl : List vw_C := [(RJx00060, TJx00060, 6), (RX0, TX0, 2), (RX1, TX1, 1), (RX2, TX2, 16), (RX3, TX3, 16)]
