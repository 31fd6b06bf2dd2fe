/-! names, by program (wip/whole/names.py): classes, fields, methods, words -/
def tm_wg : List Cond := lw_tbl.filter goodWord
def tR_F : String := "TrickleMesh$Frame"
def tR_N : String := "TrickleMesh$Node"
def tR_R : String := "TrickleMesh$Radio"
def tR_T : String := "TrickleMesh$Timer"
def tR_X : String := "TrickleMesh"
def tR_Y : String := "TrickleMeshModel"
def tR_L : String := "TrickleMeshLaw"
def tT_F : u_T := fun k => match k with
  | 0 => ("TrickleMesh$Frame", "serial", "I", false)
  | 1 => ("TrickleMesh$Frame", "kind", "I", false)
  | 2 => ("TrickleMesh$Frame", "to", "I", false)
  | 3 => ("TrickleMesh$Frame", "goals", "I", false)
  | 4 => ("TrickleMesh$Frame", "withdrawal", "Z", false)
  | 5 => ("TrickleMesh$Frame", "numbers", "[I", true)
  | 6 => ("TrickleMesh$Frame", "source", "I", false)
  | 7 => ("TrickleMesh$Frame", "goal", "I", false)
  | 8 => ("TrickleMesh$Frame", "hops", "I", false)
  | 9 => ("TrickleMesh$Frame", "value", "I", false)
  | 10 => ("TrickleMesh$Frame", "down", "Z", false)
  | _ => ("TrickleMesh$Frame", "erred", "Z", false)
def tt_F : Nat → FieldType := fun k => match k with
  | 0 => .int
  | 1 => .int
  | 2 => .int
  | 3 => .int
  | 4 => .boolean
  | 5 => .array .int
  | 6 => .int
  | 7 => .int
  | 8 => .int
  | 9 => .int
  | 10 => .boolean
  | _ => .boolean
theorem tn_F : ∀ a, a < 12 → ∀ b, b < 12 → a ≠ b → (tT_F a).2.1 ≠ (tT_F b).2.1 := by decide +kernel
theorem to_F : ∀ k, k < 12 → parseFieldDescriptor (tT_F k).2.2.1 = some (tt_F k) := by decide +kernel
theorem tl_F : ∀ w ∈ u_ws tR_F tT_F 12, w ∈ tm_wg := by decide +kernel
def tT_N : u_T := fun k => match k with
  | 0 => ("TrickleMesh$Node", "id", "I", true)
  | 1 => ("TrickleMesh$Node", "radio", "LTrickleMesh$Radio;", true)
  | 2 => ("TrickleMesh$Node", "timer", "LTrickleMesh$Timer;", true)
  | 3 => ("TrickleMesh$Node", "ranks", "[I", true)
  | 4 => ("TrickleMesh$Node", "nexts", "[I", true)
  | 5 => ("TrickleMesh$Node", "numbers", "[I", true)
  | 6 => ("TrickleMesh$Node", "received", "[I", true)
  | 7 => ("TrickleMesh$Node", "arrivals", "[I", true)
  | 8 => ("TrickleMesh$Node", "arrived", "I", false)
  | 9 => ("TrickleMesh$Node", "alive", "Z", false)
  | 10 => ("TrickleMesh$Node", "version", "I", false)
  | 11 => ("TrickleMesh$Node", "rank", "I", false)
  | 12 => ("TrickleMesh$Node", "parent", "I", false)
  | _ => ("TrickleMesh$Node", "least", "I", false)
def tt_N : Nat → FieldType := fun k => match k with
  | 0 => .int
  | 1 => .object "TrickleMesh$Radio"
  | 2 => .object "TrickleMesh$Timer"
  | 3 => .array .int
  | 4 => .array .int
  | 5 => .array .int
  | 6 => .array .int
  | 7 => .array .int
  | 8 => .int
  | 9 => .boolean
  | 10 => .int
  | 11 => .int
  | 12 => .int
  | _ => .int
theorem tn_N : ∀ a, a < 14 → ∀ b, b < 14 → a ≠ b → (tT_N a).2.1 ≠ (tT_N b).2.1 := by decide +kernel
theorem to_N : ∀ k, k < 14 → parseFieldDescriptor (tT_N k).2.2.1 = some (tt_N k) := by decide +kernel
theorem tl_N : ∀ w ∈ u_ws tR_N tT_N 14, w ∈ tm_wg := by decide +kernel
def tT_R : u_T := fun k => match k with
  | 0 => ("TrickleMesh$Radio", "frames", "[LTrickleMesh$Frame;", true)
  | 1 => ("TrickleMesh$Radio", "size", "I", false)
  | 2 => ("TrickleMesh$Radio", "wait", "I", false)
  | 3 => ("TrickleMesh$Radio", "busy", "I", false)
  | 4 => ("TrickleMesh$Radio", "tries", "I", false)
  | 5 => ("TrickleMesh$Radio", "air", "I", false)
  | 6 => ("TrickleMesh$Radio", "wasOnAir", "Z", false)
  | 7 => ("TrickleMesh$Radio", "ackTo", "I", false)
  | 8 => ("TrickleMesh$Radio", "owes", "I", false)
  | 9 => ("TrickleMesh$Radio", "listens", "Z", false)
  | _ => ("TrickleMesh$Radio", "hears", "I", false)
def tt_R : Nat → FieldType := fun k => match k with
  | 0 => .array (.object "TrickleMesh$Frame")
  | 1 => .int
  | 2 => .int
  | 3 => .int
  | 4 => .int
  | 5 => .int
  | 6 => .boolean
  | 7 => .int
  | 8 => .int
  | 9 => .boolean
  | _ => .int
theorem tn_R : ∀ a, a < 11 → ∀ b, b < 11 → a ≠ b → (tT_R a).2.1 ≠ (tT_R b).2.1 := by decide +kernel
theorem to_R : ∀ k, k < 11 → parseFieldDescriptor (tT_R k).2.2.1 = some (tt_R k) := by decide +kernel
theorem tl_R : ∀ w ∈ u_ws tR_R tT_R 11, w ∈ tm_wg := by decide +kernel
def tT_T : u_T := fun k => match k with
  | 0 => ("TrickleMesh$Timer", "started", "Z", false)
  | 1 => ("TrickleMesh$Timer", "interval", "I", false)
  | 2 => ("TrickleMesh$Timer", "clock", "I", false)
  | 3 => ("TrickleMesh$Timer", "point", "I", false)
  | _ => ("TrickleMesh$Timer", "count", "I", false)
def tt_T : Nat → FieldType := fun k => match k with
  | 0 => .boolean
  | 1 => .int
  | 2 => .int
  | 3 => .int
  | _ => .int
theorem tn_T : ∀ a, a < 5 → ∀ b, b < 5 → a ≠ b → (tT_T a).2.1 ≠ (tT_T b).2.1 := by decide +kernel
theorem to_T : ∀ k, k < 5 → parseFieldDescriptor (tT_T k).2.2.1 = some (tt_T k) := by decide +kernel
theorem tl_T : ∀ w ∈ u_ws tR_T tT_T 5, w ∈ tm_wg := by decide +kernel
def tT_X : u_T := fun k => match k with
  | 0 => ("TrickleMesh", "rise", "I", true)
  | 1 => ("TrickleMesh", "redundant", "I", true)
  | 2 => ("TrickleMesh", "nodes", "[LTrickleMesh$Node;", true)
  | 3 => ("TrickleMesh", "costs", "[[I", true)
  | 4 => ("TrickleMesh", "seed", "I", false)
  | 5 => ("TrickleMesh", "ticks", "I", false)
  | 6 => ("TrickleMesh", "serials", "I", false)
  | 7 => ("TrickleMesh", "sentValues", "I", false)
  | 8 => ("TrickleMesh", "droppedValues", "I", false)
  | 9 => ("TrickleMesh", "deliveredValues", "I", false)
  | _ => ("TrickleMesh", "airedFrames", "I", false)
def tt_X : Nat → FieldType := fun k => match k with
  | 0 => .int
  | 1 => .int
  | 2 => .array (.object "TrickleMesh$Node")
  | 3 => .array (.array .int)
  | 4 => .int
  | 5 => .int
  | 6 => .int
  | 7 => .int
  | 8 => .int
  | 9 => .int
  | _ => .int
theorem tn_X : ∀ a, a < 11 → ∀ b, b < 11 → a ≠ b → (tT_X a).2.1 ≠ (tT_X b).2.1 := by decide +kernel
theorem to_X : ∀ k, k < 11 → parseFieldDescriptor (tT_X k).2.2.1 = some (tt_X k) := by decide +kernel
theorem tl_X : ∀ w ∈ u_ws tR_X tT_X 11, w ∈ tm_wg := by decide +kernel
def tT_Y : u_T := fun k => match k with
  | 0 => ("TrickleMeshModel", "drawn", "I", false)
  | 1 => ("TrickleMeshModel", "rise", "I", true)
  | 2 => ("TrickleMeshModel", "redundant", "I", true)
  | 3 => ("TrickleMeshModel", "ticks", "I", false)
  | 4 => ("TrickleMeshModel", "cost", "[I", false)
  | 5 => ("TrickleMeshModel", "ranks", "[I", false)
  | 6 => ("TrickleMeshModel", "knows", "[Z", false)
  | 7 => ("TrickleMeshModel", "nextOf", "[I", false)
  | 8 => ("TrickleMeshModel", "numbers", "[I", false)
  | 9 => ("TrickleMeshModel", "lastFrom", "[I", false)
  | 10 => ("TrickleMeshModel", "dead", "[Z", false)
  | 11 => ("TrickleMeshModel", "version", "[I", false)
  | 12 => ("TrickleMeshModel", "rank", "[I", false)
  | 13 => ("TrickleMeshModel", "parent", "[I", false)
  | 14 => ("TrickleMeshModel", "least", "[I", false)
  | 15 => ("TrickleMeshModel", "timed", "[Z", false)
  | 16 => ("TrickleMeshModel", "interval", "[I", false)
  | 17 => ("TrickleMeshModel", "clock", "[I", false)
  | 18 => ("TrickleMeshModel", "point", "[I", false)
  | 19 => ("TrickleMeshModel", "heardCount", "[I", false)
  | 20 => ("TrickleMeshModel", "queued", "[I", false)
  | 21 => ("TrickleMeshModel", "many", "[I", false)
  | 22 => ("TrickleMeshModel", "wait", "[I", false)
  | 23 => ("TrickleMeshModel", "busy", "[I", false)
  | 24 => ("TrickleMeshModel", "tries", "[I", false)
  | 25 => ("TrickleMeshModel", "owes", "[I", false)
  | 26 => ("TrickleMeshModel", "listens", "[Z", false)
  | 27 => ("TrickleMeshModel", "used", "[Z", false)
  | 28 => ("TrickleMeshModel", "name", "[I", false)
  | 29 => ("TrickleMeshModel", "kind", "[I", false)
  | 30 => ("TrickleMeshModel", "to", "[I", false)
  | 31 => ("TrickleMeshModel", "goals", "[I", false)
  | 32 => ("TrickleMeshModel", "goalNumbers", "[I", false)
  | 33 => ("TrickleMeshModel", "withdraws", "[Z", false)
  | 34 => ("TrickleMeshModel", "source", "[I", false)
  | 35 => ("TrickleMeshModel", "goal", "[I", false)
  | 36 => ("TrickleMeshModel", "hops", "[I", false)
  | 37 => ("TrickleMeshModel", "load", "[I", false)
  | 38 => ("TrickleMeshModel", "down", "[Z", false)
  | 39 => ("TrickleMeshModel", "erred", "[Z", false)
  | 40 => ("TrickleMeshModel", "names", "I", false)
  | 41 => ("TrickleMeshModel", "onAir", "[I", false)
  | 42 => ("TrickleMeshModel", "ackFor", "[I", false)
  | 43 => ("TrickleMeshModel", "wasOn", "[Z", false)
  | 44 => ("TrickleMeshModel", "listened", "[Z", false)
  | 45 => ("TrickleMeshModel", "answered", "[Z", false)
  | 46 => ("TrickleMeshModel", "sends", "I", false)
  | 47 => ("TrickleMeshModel", "dropped", "I", false)
  | 48 => ("TrickleMeshModel", "deliveredAll", "I", false)
  | 49 => ("TrickleMeshModel", "framesOn", "I", false)
  | 50 => ("TrickleMeshModel", "got", "[I", false)
  | _ => ("TrickleMeshModel", "latest", "[I", false)
def tt_Y : Nat → FieldType := fun k => match k with
  | 0 => .int
  | 1 => .int
  | 2 => .int
  | 3 => .int
  | 4 => .array .int
  | 5 => .array .int
  | 6 => .array .boolean
  | 7 => .array .int
  | 8 => .array .int
  | 9 => .array .int
  | 10 => .array .boolean
  | 11 => .array .int
  | 12 => .array .int
  | 13 => .array .int
  | 14 => .array .int
  | 15 => .array .boolean
  | 16 => .array .int
  | 17 => .array .int
  | 18 => .array .int
  | 19 => .array .int
  | 20 => .array .int
  | 21 => .array .int
  | 22 => .array .int
  | 23 => .array .int
  | 24 => .array .int
  | 25 => .array .int
  | 26 => .array .boolean
  | 27 => .array .boolean
  | 28 => .array .int
  | 29 => .array .int
  | 30 => .array .int
  | 31 => .array .int
  | 32 => .array .int
  | 33 => .array .boolean
  | 34 => .array .int
  | 35 => .array .int
  | 36 => .array .int
  | 37 => .array .int
  | 38 => .array .boolean
  | 39 => .array .boolean
  | 40 => .int
  | 41 => .array .int
  | 42 => .array .int
  | 43 => .array .boolean
  | 44 => .array .boolean
  | 45 => .array .boolean
  | 46 => .int
  | 47 => .int
  | 48 => .int
  | 49 => .int
  | 50 => .array .int
  | _ => .array .int
theorem tn_Y : ∀ a, a < 52 → ∀ b, b < 52 → a ≠ b → (tT_Y a).2.1 ≠ (tT_Y b).2.1 := by decide +kernel
theorem to_Y : ∀ k, k < 52 → parseFieldDescriptor (tT_Y k).2.2.1 = some (tt_Y k) := by decide +kernel
theorem tl_Y : ∀ w ∈ u_ws tR_Y tT_Y 52, w ∈ tm_wg := by decide +kernel
abbrev tm_cl : List vw_C := [(tR_F, tT_F, 12), (tR_N, tT_N, 14), (tR_R, tT_R, 11), (tR_T, tT_T, 5), (tR_X, tT_X, 11), (tR_Y, tT_Y, 52)]
abbrev tb_X_init : ByteArray := prog_1_method_1_code
def ty_X_init : MethodName := ⟨"TrickleMesh", "<init>", "(III)V"⟩
theorem tc_X_init : Cond.code ty_X_init tb_X_init 5 (Option.none : Option Jvm.ClassFile.FieldType) ∈ tm_wg := List.mem_filter.mpr ⟨List.mem_append_right _ (List.mem_of_getElem? (i := 14) (by decide +kernel)), by decide +kernel⟩
abbrev tb_N_init : ByteArray := prog_3_method_1_code
def ty_N_init : MethodName := ⟨"TrickleMesh$Node", "<init>", "(I)V"⟩
theorem tc_N_init : Cond.code ty_N_init tb_N_init 2 (Option.none : Option Jvm.ClassFile.FieldType) ∈ tm_wg := List.mem_filter.mpr ⟨List.mem_append_right _ (List.mem_of_getElem? (i := 31) (by decide +kernel)), by decide +kernel⟩
abbrev tb_R_init : ByteArray := prog_4_method_1_code
def ty_R_init : MethodName := ⟨"TrickleMesh$Radio", "<init>", "()V"⟩
theorem tc_R_init : Cond.code ty_R_init tb_R_init 2 (Option.none : Option Jvm.ClassFile.FieldType) ∈ tm_wg := List.mem_filter.mpr ⟨List.mem_append_right _ (List.mem_of_getElem? (i := 37) (by decide +kernel)), by decide +kernel⟩
abbrev tb_F_init : ByteArray := prog_2_method_1_code
def ty_F_init : MethodName := ⟨"TrickleMesh$Frame", "<init>", "()V"⟩
theorem tc_F_init : Cond.code ty_F_init tb_F_init 1 (Option.none : Option Jvm.ClassFile.FieldType) ∈ tm_wg := List.mem_filter.mpr ⟨List.mem_append_right _ (List.mem_of_getElem? (i := 44) (by decide +kernel)), by decide +kernel⟩
abbrev tb_T_init : ByteArray := prog_5_method_1_code
def ty_T_init : MethodName := ⟨"TrickleMesh$Timer", "<init>", "()V"⟩
theorem tc_T_init : Cond.code ty_T_init tb_T_init 1 (Option.none : Option Jvm.ClassFile.FieldType) ∈ tm_wg := List.mem_filter.mpr ⟨List.mem_append_right _ (List.mem_of_getElem? (i := 132) (by decide +kernel)), by decide +kernel⟩
abbrev tb_JA_fill : ByteArray := prog_10_method_103_code
def ty_JA_fill : MethodName := ⟨"java/util/Arrays", "fill", "([II)V"⟩
theorem tc_JA_fill : Cond.code ty_JA_fill tb_JA_fill 4 (Option.none : Option Jvm.ClassFile.FieldType) ∈ tm_wg := List.mem_filter.mpr ⟨List.mem_append_right _ (List.mem_of_getElem? (i := 153) (by decide +kernel)), by decide +kernel⟩
abbrev tb_X_resetTimer : ByteArray := prog_1_method_29_code
def ty_X_resetTimer : MethodName := ⟨"TrickleMesh", "resetTimer", "(LTrickleMesh$Node;)V"⟩
theorem tc_X_resetTimer : Cond.code ty_X_resetTimer tb_X_resetTimer 2 (Option.none : Option Jvm.ClassFile.FieldType) ∈ tm_wg := List.mem_filter.mpr ⟨List.mem_append_right _ (List.mem_of_getElem? (i := 212) (by decide +kernel)), by decide +kernel⟩
abbrev tb_X_beginInterval : ByteArray := prog_1_method_30_code
def ty_X_beginInterval : MethodName := ⟨"TrickleMesh", "beginInterval", "(LTrickleMesh$Timer;I)V"⟩
theorem tc_X_beginInterval : Cond.code ty_X_beginInterval tb_X_beginInterval 4 (Option.none : Option Jvm.ClassFile.FieldType) ∈ tm_wg := List.mem_filter.mpr ⟨List.mem_append_right _ (List.mem_of_getElem? (i := 216) (by decide +kernel)), by decide +kernel⟩
abbrev tb_X_draw : ByteArray := prog_1_method_14_code
def ty_X_draw : MethodName := ⟨"TrickleMesh", "draw", "(I)I"⟩
theorem tc_X_draw : Cond.code ty_X_draw tb_X_draw 2 (Option.some Jvm.ClassFile.FieldType.int) ∈ tm_wg := List.mem_filter.mpr ⟨List.mem_append_right _ (List.mem_of_getElem? (i := 220) (by decide +kernel)), by decide +kernel⟩
abbrev tb_X_link : ByteArray := prog_1_method_2_code
def ty_X_link : MethodName := ⟨"TrickleMesh", "link", "(III)Z"⟩
theorem tc_X_link : Cond.code ty_X_link tb_X_link 4 (Option.some Jvm.ClassFile.FieldType.boolean) ∈ tm_wg := List.mem_filter.mpr ⟨List.mem_append_right _ (List.mem_of_getElem? (i := 259) (by decide +kernel)), by decide +kernel⟩
abbrev tb_X_isNode : ByteArray := prog_1_method_12_code
def ty_X_isNode : MethodName := ⟨"TrickleMesh", "isNode", "(I)Z"⟩
theorem tc_X_isNode : Cond.code ty_X_isNode tb_X_isNode 1 (Option.some Jvm.ClassFile.FieldType.boolean) ∈ tm_wg := List.mem_filter.mpr ⟨List.mem_append_right _ (List.mem_of_getElem? (i := 262) (by decide +kernel)), by decide +kernel⟩
abbrev tb_X_kill : ByteArray := prog_1_method_3_code
def ty_X_kill : MethodName := ⟨"TrickleMesh", "kill", "(I)Z"⟩
theorem tc_X_kill : Cond.code ty_X_kill tb_X_kill 3 (Option.some Jvm.ClassFile.FieldType.boolean) ∈ tm_wg := List.mem_filter.mpr ⟨List.mem_append_right _ (List.mem_of_getElem? (i := 266) (by decide +kernel)), by decide +kernel⟩
abbrev tb_X_repair : ByteArray := prog_1_method_4_code
def ty_X_repair : MethodName := ⟨"TrickleMesh", "repair", "()I"⟩
theorem tc_X_repair : Cond.code ty_X_repair tb_X_repair 2 (Option.some Jvm.ClassFile.FieldType.int) ∈ tm_wg := List.mem_filter.mpr ⟨List.mem_append_right _ (List.mem_of_getElem? (i := 270) (by decide +kernel)), by decide +kernel⟩
abbrev tb_X_send : ByteArray := prog_1_method_5_code
def ty_X_send : MethodName := ⟨"TrickleMesh", "send", "(IIII)I"⟩
theorem tc_X_send : Cond.code ty_X_send tb_X_send 5 (Option.some Jvm.ClassFile.FieldType.int) ∈ tm_wg := List.mem_filter.mpr ⟨List.mem_append_right _ (List.mem_of_getElem? (i := 274) (by decide +kernel)), by decide +kernel⟩
abbrev tb_X_sendOn : ByteArray := prog_1_method_44_code
def ty_X_sendOn : MethodName := ⟨"TrickleMesh", "sendOn", "(LTrickleMesh$Node;IIIIZ)V"⟩
theorem tc_X_sendOn : Cond.code ty_X_sendOn tb_X_sendOn 10 (Option.none : Option Jvm.ClassFile.FieldType) ∈ tm_wg := List.mem_filter.mpr ⟨List.mem_append_right _ (List.mem_of_getElem? (i := 278) (by decide +kernel)), by decide +kernel⟩
abbrev tb_X_enqueue : ByteArray := prog_1_method_15_code
def ty_X_enqueue : MethodName := ⟨"TrickleMesh", "enqueue", "(LTrickleMesh$Node;II)LTrickleMesh$Frame;"⟩
theorem tc_X_enqueue : Cond.code ty_X_enqueue tb_X_enqueue 6 (Option.some (Jvm.ClassFile.FieldType.object "TrickleMesh$Frame")) ∈ tm_wg := List.mem_filter.mpr ⟨List.mem_append_right _ (List.mem_of_getElem? (i := 282) (by decide +kernel)), by decide +kernel⟩
abbrev tb_R_beginFirst : ByteArray := prog_4_method_2_code
def ty_R_beginFirst : MethodName := ⟨"TrickleMesh$Radio", "beginFirst", "(I)V"⟩
theorem tc_R_beginFirst : Cond.code ty_R_beginFirst tb_R_beginFirst 2 (Option.none : Option Jvm.ClassFile.FieldType) ∈ tm_wg := List.mem_filter.mpr ⟨List.mem_append_right _ (List.mem_of_getElem? (i := 286) (by decide +kernel)), by decide +kernel⟩
abbrev tb_X_tick : ByteArray := prog_1_method_6_code
def ty_X_tick : MethodName := ⟨"TrickleMesh", "tick", "(I)I"⟩
theorem tc_X_tick : Cond.code ty_X_tick tb_X_tick 3 (Option.some Jvm.ClassFile.FieldType.int) ∈ tm_wg := List.mem_filter.mpr ⟨List.mem_append_right _ (List.mem_of_getElem? (i := 290) (by decide +kernel)), by decide +kernel⟩
abbrev tb_X_rememberTheAir : ByteArray := prog_1_method_19_code
def ty_X_rememberTheAir : MethodName := ⟨"TrickleMesh", "rememberTheAir", "()V"⟩
theorem tc_X_rememberTheAir : Cond.code ty_X_rememberTheAir tb_X_rememberTheAir 3 (Option.none : Option Jvm.ClassFile.FieldType) ∈ tm_wg := List.mem_filter.mpr ⟨List.mem_append_right _ (List.mem_of_getElem? (i := 294) (by decide +kernel)), by decide +kernel⟩
abbrev tb_X_goOnTheAir : ByteArray := prog_1_method_20_code
def ty_X_goOnTheAir : MethodName := ⟨"TrickleMesh", "goOnTheAir", "()V"⟩
theorem tc_X_goOnTheAir : Cond.code ty_X_goOnTheAir tb_X_goOnTheAir 4 (Option.none : Option Jvm.ClassFile.FieldType) ∈ tm_wg := List.mem_filter.mpr ⟨List.mem_append_right _ (List.mem_of_getElem? (i := 298) (by decide +kernel)), by decide +kernel⟩
abbrev tb_X_seemsBusy : ByteArray := prog_1_method_21_code
def ty_X_seemsBusy : MethodName := ⟨"TrickleMesh", "seemsBusy", "(LTrickleMesh$Node;)Z"⟩
theorem tc_X_seemsBusy : Cond.code ty_X_seemsBusy tb_X_seemsBusy 3 (Option.some Jvm.ClassFile.FieldType.boolean) ∈ tm_wg := List.mem_filter.mpr ⟨List.mem_append_right _ (List.mem_of_getElem? (i := 302) (by decide +kernel)), by decide +kernel⟩
abbrev tb_X_failFirst : ByteArray := prog_1_method_18_code
def ty_X_failFirst : MethodName := ⟨"TrickleMesh", "failFirst", "(LTrickleMesh$Node;)V"⟩
theorem tc_X_failFirst : Cond.code ty_X_failFirst tb_X_failFirst 5 (Option.none : Option Jvm.ClassFile.FieldType) ∈ tm_wg := List.mem_filter.mpr ⟨List.mem_append_right _ (List.mem_of_getElem? (i := 306) (by decide +kernel)), by decide +kernel⟩
abbrev tb_X_removeFirst : ByteArray := prog_1_method_17_code
def ty_X_removeFirst : MethodName := ⟨"TrickleMesh", "removeFirst", "(LTrickleMesh$Radio;)V"⟩
theorem tc_X_removeFirst : Cond.code ty_X_removeFirst tb_X_removeFirst 4 (Option.none : Option Jvm.ClassFile.FieldType) ∈ tm_wg := List.mem_filter.mpr ⟨List.mem_append_right _ (List.mem_of_getElem? (i := 310) (by decide +kernel)), by decide +kernel⟩
abbrev tb_X_choose : ByteArray := prog_1_method_36_code
def ty_X_choose : MethodName := ⟨"TrickleMesh", "choose", "(LTrickleMesh$Node;)V"⟩
theorem tc_X_choose : Cond.code ty_X_choose tb_X_choose 6 (Option.none : Option Jvm.ClassFile.FieldType) ∈ tm_wg := List.mem_filter.mpr ⟨List.mem_append_right _ (List.mem_of_getElem? (i := 314) (by decide +kernel)), by decide +kernel⟩
abbrev tb_X_bestParent : ByteArray := prog_1_method_37_code
def ty_X_bestParent : MethodName := ⟨"TrickleMesh", "bestParent", "(LTrickleMesh$Node;)I"⟩
theorem tc_X_bestParent : Cond.code ty_X_bestParent tb_X_bestParent 5 (Option.some Jvm.ClassFile.FieldType.int) ∈ tm_wg := List.mem_filter.mpr ⟨List.mem_append_right _ (List.mem_of_getElem? (i := 318) (by decide +kernel)), by decide +kernel⟩
abbrev tb_X_isBetter : ByteArray := prog_1_method_38_code
def ty_X_isBetter : MethodName := ⟨"TrickleMesh", "isBetter", "(LTrickleMesh$Node;II)Z"⟩
theorem tc_X_isBetter : Cond.code ty_X_isBetter tb_X_isBetter 5 (Option.some Jvm.ClassFile.FieldType.boolean) ∈ tm_wg := List.mem_filter.mpr ⟨List.mem_append_right _ (List.mem_of_getElem? (i := 322) (by decide +kernel)), by decide +kernel⟩
abbrev tb_X_rankBelow : ByteArray := prog_1_method_39_code
def ty_X_rankBelow : MethodName := ⟨"TrickleMesh", "rankBelow", "(LTrickleMesh$Node;I)I"⟩
theorem tc_X_rankBelow : Cond.code ty_X_rankBelow tb_X_rankBelow 3 (Option.some Jvm.ClassFile.FieldType.int) ∈ tm_wg := List.mem_filter.mpr ⟨List.mem_append_right _ (List.mem_of_getElem? (i := 326) (by decide +kernel)), by decide +kernel⟩
abbrev tb_X_ownGoals : ByteArray := prog_1_method_40_code
def ty_X_ownGoals : MethodName := ⟨"TrickleMesh", "ownGoals", "(LTrickleMesh$Node;)I"⟩
theorem tc_X_ownGoals : Cond.code ty_X_ownGoals tb_X_ownGoals 3 (Option.some Jvm.ClassFile.FieldType.int) ∈ tm_wg := List.mem_filter.mpr ⟨List.mem_append_right _ (List.mem_of_getElem? (i := 329) (by decide +kernel)), by decide +kernel⟩
abbrev tb_X_announce : ByteArray := prog_1_method_41_code
def ty_X_announce : MethodName := ⟨"TrickleMesh", "announce", "(LTrickleMesh$Node;IIZ)V"⟩
theorem tc_X_announce : Cond.code ty_X_announce tb_X_announce 6 (Option.none : Option Jvm.ClassFile.FieldType) ∈ tm_wg := List.mem_filter.mpr ⟨List.mem_append_right _ (List.mem_of_getElem? (i := 333) (by decide +kernel)), by decide +kernel⟩
abbrev tb_X_hearTheAir : ByteArray := prog_1_method_22_code
def ty_X_hearTheAir : MethodName := ⟨"TrickleMesh", "hearTheAir", "()V"⟩
theorem tc_X_hearTheAir : Cond.code ty_X_hearTheAir tb_X_hearTheAir 4 (Option.none : Option Jvm.ClassFile.FieldType) ∈ tm_wg := List.mem_filter.mpr ⟨List.mem_append_right _ (List.mem_of_getElem? (i := 340) (by decide +kernel)), by decide +kernel⟩
abbrev tb_X_onlySpeaker : ByteArray := prog_1_method_23_code
def ty_X_onlySpeaker : MethodName := ⟨"TrickleMesh", "onlySpeaker", "(I)I"⟩
theorem tc_X_onlySpeaker : Cond.code ty_X_onlySpeaker tb_X_onlySpeaker 4 (Option.some Jvm.ClassFile.FieldType.int) ∈ tm_wg := List.mem_filter.mpr ⟨List.mem_append_right _ (List.mem_of_getElem? (i := 344) (by decide +kernel)), by decide +kernel⟩
abbrev tb_X_takeWhatWasHeard : ByteArray := prog_1_method_24_code
def ty_X_takeWhatWasHeard : MethodName := ⟨"TrickleMesh", "takeWhatWasHeard", "()V"⟩
theorem tc_X_takeWhatWasHeard : Cond.code ty_X_takeWhatWasHeard tb_X_takeWhatWasHeard 6 (Option.none : Option Jvm.ClassFile.FieldType) ∈ tm_wg := List.mem_filter.mpr ⟨List.mem_append_right _ (List.mem_of_getElem? (i := 348) (by decide +kernel)), by decide +kernel⟩
abbrev tb_X_takeAck : ByteArray := prog_1_method_31_code
def ty_X_takeAck : MethodName := ⟨"TrickleMesh", "takeAck", "(LTrickleMesh$Node;LTrickleMesh$Node;)V"⟩
theorem tc_X_takeAck : Cond.code ty_X_takeAck tb_X_takeAck 5 (Option.none : Option Jvm.ClassFile.FieldType) ∈ tm_wg := List.mem_filter.mpr ⟨List.mem_append_right _ (List.mem_of_getElem? (i := 352) (by decide +kernel)), by decide +kernel⟩
abbrev tb_X_takeSolicit : ByteArray := prog_1_method_32_code
def ty_X_takeSolicit : MethodName := ⟨"TrickleMesh", "takeSolicit", "(LTrickleMesh$Node;)V"⟩
theorem tc_X_takeSolicit : Cond.code ty_X_takeSolicit tb_X_takeSolicit 2 (Option.none : Option Jvm.ClassFile.FieldType) ∈ tm_wg := List.mem_filter.mpr ⟨List.mem_append_right _ (List.mem_of_getElem? (i := 356) (by decide +kernel)), by decide +kernel⟩
abbrev tb_X_takeAdvert : ByteArray := prog_1_method_33_code
def ty_X_takeAdvert : MethodName := ⟨"TrickleMesh", "takeAdvert", "(LTrickleMesh$Node;LTrickleMesh$Node;)V"⟩
theorem tc_X_takeAdvert : Cond.code ty_X_takeAdvert tb_X_takeAdvert 5 (Option.none : Option Jvm.ClassFile.FieldType) ∈ tm_wg := List.mem_filter.mpr ⟨List.mem_append_right _ (List.mem_of_getElem? (i := 360) (by decide +kernel)), by decide +kernel⟩
abbrev tb_X_takeVersion : ByteArray := prog_1_method_34_code
def ty_X_takeVersion : MethodName := ⟨"TrickleMesh", "takeVersion", "(LTrickleMesh$Node;I)V"⟩
theorem tc_X_takeVersion : Cond.code ty_X_takeVersion tb_X_takeVersion 4 (Option.none : Option Jvm.ClassFile.FieldType) ∈ tm_wg := List.mem_filter.mpr ⟨List.mem_append_right _ (List.mem_of_getElem? (i := 364) (by decide +kernel)), by decide +kernel⟩
abbrev tb_X_takeOwn : ByteArray := prog_1_method_35_code
def ty_X_takeOwn : MethodName := ⟨"TrickleMesh", "takeOwn", "(LTrickleMesh$Node;LTrickleMesh$Node;LTrickleMesh$Frame;)V"⟩
theorem tc_X_takeOwn : Cond.code ty_X_takeOwn tb_X_takeOwn 4 (Option.none : Option Jvm.ClassFile.FieldType) ∈ tm_wg := List.mem_filter.mpr ⟨List.mem_append_right _ (List.mem_of_getElem? (i := 369) (by decide +kernel)), by decide +kernel⟩
abbrev tb_X_receiveAnnounce : ByteArray := prog_1_method_42_code
def ty_X_receiveAnnounce : MethodName := ⟨"TrickleMesh", "receiveAnnounce", "(LTrickleMesh$Node;ILTrickleMesh$Frame;)V"⟩
theorem tc_X_receiveAnnounce : Cond.code ty_X_receiveAnnounce tb_X_receiveAnnounce 7 (Option.none : Option Jvm.ClassFile.FieldType) ∈ tm_wg := List.mem_filter.mpr ⟨List.mem_append_right _ (List.mem_of_getElem? (i := 373) (by decide +kernel)), by decide +kernel⟩
abbrev tb_X_changeRoute : ByteArray := prog_1_method_43_code
def ty_X_changeRoute : MethodName := ⟨"TrickleMesh", "changeRoute", "(LTrickleMesh$Node;IILTrickleMesh$Frame;)Z"⟩
theorem tc_X_changeRoute : Cond.code ty_X_changeRoute tb_X_changeRoute 7 (Option.some Jvm.ClassFile.FieldType.boolean) ∈ tm_wg := List.mem_filter.mpr ⟨List.mem_append_right _ (List.mem_of_getElem? (i := 376) (by decide +kernel)), by decide +kernel⟩
abbrev tb_X_receiveValue : ByteArray := prog_1_method_45_code
def ty_X_receiveValue : MethodName := ⟨"TrickleMesh", "receiveValue", "(LTrickleMesh$Node;ILTrickleMesh$Frame;)V"⟩
theorem tc_X_receiveValue : Cond.code ty_X_receiveValue tb_X_receiveValue 5 (Option.none : Option Jvm.ClassFile.FieldType) ∈ tm_wg := List.mem_filter.mpr ⟨List.mem_append_right _ (List.mem_of_getElem? (i := 380) (by decide +kernel)), by decide +kernel⟩
abbrev tb_X_deliver : ByteArray := prog_1_method_46_code
def ty_X_deliver : MethodName := ⟨"TrickleMesh", "deliver", "(LTrickleMesh$Node;LTrickleMesh$Frame;)V"⟩
theorem tc_X_deliver : Cond.code ty_X_deliver tb_X_deliver 3 (Option.none : Option Jvm.ClassFile.FieldType) ∈ tm_wg := List.mem_filter.mpr ⟨List.mem_append_right _ (List.mem_of_getElem? (i := 384) (by decide +kernel)), by decide +kernel⟩
abbrev tb_X_settleWhatWasOnTheAir : ByteArray := prog_1_method_25_code
def ty_X_settleWhatWasOnTheAir : MethodName := ⟨"TrickleMesh", "settleWhatWasOnTheAir", "()V"⟩
theorem tc_X_settleWhatWasOnTheAir : Cond.code ty_X_settleWhatWasOnTheAir tb_X_settleWhatWasOnTheAir 3 (Option.none : Option Jvm.ClassFile.FieldType) ∈ tm_wg := List.mem_filter.mpr ⟨List.mem_append_right _ (List.mem_of_getElem? (i := 388) (by decide +kernel)), by decide +kernel⟩
abbrev tb_X_settleWhatWasListenedFor : ByteArray := prog_1_method_26_code
def ty_X_settleWhatWasListenedFor : MethodName := ⟨"TrickleMesh", "settleWhatWasListenedFor", "()V"⟩
theorem tc_X_settleWhatWasListenedFor : Cond.code ty_X_settleWhatWasListenedFor tb_X_settleWhatWasListenedFor 3 (Option.none : Option Jvm.ClassFile.FieldType) ∈ tm_wg := List.mem_filter.mpr ⟨List.mem_append_right _ (List.mem_of_getElem? (i := 392) (by decide +kernel)), by decide +kernel⟩
abbrev tb_X_runTimers : ByteArray := prog_1_method_27_code
def ty_X_runTimers : MethodName := ⟨"TrickleMesh", "runTimers", "()V"⟩
theorem tc_X_runTimers : Cond.code ty_X_runTimers tb_X_runTimers 3 (Option.none : Option Jvm.ClassFile.FieldType) ∈ tm_wg := List.mem_filter.mpr ⟨List.mem_append_right _ (List.mem_of_getElem? (i := 396) (by decide +kernel)), by decide +kernel⟩
abbrev tb_X_runTimer : ByteArray := prog_1_method_28_code
def ty_X_runTimer : MethodName := ⟨"TrickleMesh", "runTimer", "(LTrickleMesh$Node;)V"⟩
theorem tc_X_runTimer : Cond.code ty_X_runTimer tb_X_runTimer 3 (Option.none : Option Jvm.ClassFile.FieldType) ∈ tm_wg := List.mem_filter.mpr ⟨List.mem_append_right _ (List.mem_of_getElem? (i := 400) (by decide +kernel)), by decide +kernel⟩
abbrev tb_X_enqueueOnce : ByteArray := prog_1_method_16_code
def ty_X_enqueueOnce : MethodName := ⟨"TrickleMesh", "enqueueOnce", "(LTrickleMesh$Node;I)V"⟩
theorem tc_X_enqueueOnce : Cond.code ty_X_enqueueOnce tb_X_enqueueOnce 4 (Option.none : Option Jvm.ClassFile.FieldType) ∈ tm_wg := List.mem_filter.mpr ⟨List.mem_append_right _ (List.mem_of_getElem? (i := 404) (by decide +kernel)), by decide +kernel⟩
abbrev tb_X_node : ByteArray := prog_1_method_7_code
def ty_X_node : MethodName := ⟨"TrickleMesh", "node", "(II)I"⟩
theorem tc_X_node : Cond.code ty_X_node tb_X_node 6 (Option.some Jvm.ClassFile.FieldType.int) ∈ tm_wg := List.mem_filter.mpr ⟨List.mem_append_right _ (List.mem_of_getElem? (i := 408) (by decide +kernel)), by decide +kernel⟩
abbrev tb_X_condition : ByteArray := prog_1_method_13_code
def ty_X_condition : MethodName := ⟨"TrickleMesh", "condition", "(LTrickleMesh$Node;)I"⟩
theorem tc_X_condition : Cond.code ty_X_condition tb_X_condition 1 (Option.some Jvm.ClassFile.FieldType.int) ∈ tm_wg := List.mem_filter.mpr ⟨List.mem_append_right _ (List.mem_of_getElem? (i := 411) (by decide +kernel)), by decide +kernel⟩
abbrev tb_X_next : ByteArray := prog_1_method_8_code
def ty_X_next : MethodName := ⟨"TrickleMesh", "next", "(II)I"⟩
theorem tc_X_next : Cond.code ty_X_next tb_X_next 3 (Option.some Jvm.ClassFile.FieldType.int) ∈ tm_wg := List.mem_filter.mpr ⟨List.mem_append_right _ (List.mem_of_getElem? (i := 415) (by decide +kernel)), by decide +kernel⟩
abbrev tb_X_known : ByteArray := prog_1_method_9_code
def ty_X_known : MethodName := ⟨"TrickleMesh", "known", "(II)I"⟩
theorem tc_X_known : Cond.code ty_X_known tb_X_known 3 (Option.some Jvm.ClassFile.FieldType.int) ∈ tm_wg := List.mem_filter.mpr ⟨List.mem_append_right _ (List.mem_of_getElem? (i := 419) (by decide +kernel)), by decide +kernel⟩
abbrev tb_X_delivered : ByteArray := prog_1_method_10_code
def ty_X_delivered : MethodName := ⟨"TrickleMesh", "delivered", "(II)I"⟩
theorem tc_X_delivered : Cond.code ty_X_delivered tb_X_delivered 4 (Option.some Jvm.ClassFile.FieldType.int) ∈ tm_wg := List.mem_filter.mpr ⟨List.mem_append_right _ (List.mem_of_getElem? (i := 423) (by decide +kernel)), by decide +kernel⟩
abbrev tb_X_count : ByteArray := prog_1_method_11_code
def ty_X_count : MethodName := ⟨"TrickleMesh", "count", "(I)I"⟩
theorem tc_X_count : Cond.code ty_X_count tb_X_count 2 (Option.some Jvm.ClassFile.FieldType.int) ∈ tm_wg := List.mem_filter.mpr ⟨List.mem_append_right _ (List.mem_of_getElem? (i := 427) (by decide +kernel)), by decide +kernel⟩
abbrev tb_L_cell : ByteArray := method_2_code
def ty_L_cell : MethodName := ⟨"TrickleMeshLaw", "cell", "([II)I"⟩
theorem tc_L_cell : Cond.code ty_L_cell tb_L_cell 2 (Option.some Jvm.ClassFile.FieldType.int) ∈ tm_wg := List.mem_filter.mpr ⟨List.mem_append_right _ (List.mem_of_getElem? (i := 430) (by decide +kernel)), by decide +kernel⟩
abbrev tb_Y_init : ByteArray := prog_7_method_1_code
def ty_Y_init : MethodName := ⟨"TrickleMeshModel", "<init>", "(III)V"⟩
theorem tc_Y_init : Cond.code ty_Y_init tb_Y_init 5 (Option.none : Option Jvm.ClassFile.FieldType) ∈ tm_wg := List.mem_filter.mpr ⟨List.mem_append_right _ (List.mem_of_getElem? (i := 435) (by decide +kernel)), by decide +kernel⟩
abbrev tb_Y_reset : ByteArray := prog_7_method_10_code
def ty_Y_reset : MethodName := ⟨"TrickleMeshModel", "reset", "(I)V"⟩
theorem tc_Y_reset : Cond.code ty_Y_reset tb_Y_reset 2 (Option.none : Option Jvm.ClassFile.FieldType) ∈ tm_wg := List.mem_filter.mpr ⟨List.mem_append_right _ (List.mem_of_getElem? (i := 440) (by decide +kernel)), by decide +kernel⟩
abbrev tb_Y_begin : ByteArray := prog_7_method_9_code
def ty_Y_begin : MethodName := ⟨"TrickleMeshModel", "begin", "(I)V"⟩
theorem tc_Y_begin : Cond.code ty_Y_begin tb_Y_begin 2 (Option.none : Option Jvm.ClassFile.FieldType) ∈ tm_wg := List.mem_filter.mpr ⟨List.mem_append_right _ (List.mem_of_getElem? (i := 444) (by decide +kernel)), by decide +kernel⟩
abbrev tb_Y_draw : ByteArray := prog_7_method_2_code
def ty_Y_draw : MethodName := ⟨"TrickleMeshModel", "draw", "(I)I"⟩
theorem tc_Y_draw : Cond.code ty_Y_draw tb_Y_draw 2 (Option.some Jvm.ClassFile.FieldType.int) ∈ tm_wg := List.mem_filter.mpr ⟨List.mem_append_right _ (List.mem_of_getElem? (i := 448) (by decide +kernel)), by decide +kernel⟩
abbrev tb_Y_link : ByteArray := prog_7_method_27_code
def ty_Y_link : MethodName := ⟨"TrickleMeshModel", "link", "(III)Z"⟩
theorem tc_Y_link : Cond.code ty_Y_link tb_Y_link 4 (Option.some Jvm.ClassFile.FieldType.boolean) ∈ tm_wg := List.mem_filter.mpr ⟨List.mem_append_right _ (List.mem_of_getElem? (i := 611) (by decide +kernel)), by decide +kernel⟩
abbrev tb_Y_isNode : ByteArray := prog_7_method_26_code
def ty_Y_isNode : MethodName := ⟨"TrickleMeshModel", "isNode", "(I)Z"⟩
theorem tc_Y_isNode : Cond.code ty_Y_isNode tb_Y_isNode 1 (Option.some Jvm.ClassFile.FieldType.boolean) ∈ tm_wg := List.mem_filter.mpr ⟨List.mem_append_right _ (List.mem_of_getElem? (i := 614) (by decide +kernel)), by decide +kernel⟩
abbrev tb_Y_kill : ByteArray := prog_7_method_28_code
def ty_Y_kill : MethodName := ⟨"TrickleMeshModel", "kill", "(I)Z"⟩
theorem tc_Y_kill : Cond.code ty_Y_kill tb_Y_kill 3 (Option.some Jvm.ClassFile.FieldType.boolean) ∈ tm_wg := List.mem_filter.mpr ⟨List.mem_append_right _ (List.mem_of_getElem? (i := 618) (by decide +kernel)), by decide +kernel⟩
abbrev tb_Y_repair : ByteArray := prog_7_method_29_code
def ty_Y_repair : MethodName := ⟨"TrickleMeshModel", "repair", "()I"⟩
theorem tc_Y_repair : Cond.code ty_Y_repair tb_Y_repair 1 (Option.some Jvm.ClassFile.FieldType.int) ∈ tm_wg := List.mem_filter.mpr ⟨List.mem_append_right _ (List.mem_of_getElem? (i := 622) (by decide +kernel)), by decide +kernel⟩
abbrev tb_Y_send : ByteArray := prog_7_method_30_code
def ty_Y_send : MethodName := ⟨"TrickleMeshModel", "send", "(IIII)I"⟩
theorem tc_Y_send : Cond.code ty_Y_send tb_Y_send 5 (Option.some Jvm.ClassFile.FieldType.int) ∈ tm_wg := List.mem_filter.mpr ⟨List.mem_append_right _ (List.mem_of_getElem? (i := 626) (by decide +kernel)), by decide +kernel⟩
abbrev tb_Y_sendOn : ByteArray := prog_7_method_17_code
def ty_Y_sendOn : MethodName := ⟨"TrickleMeshModel", "sendOn", "(IIIIIZ)V"⟩
theorem tc_Y_sendOn : Cond.code ty_Y_sendOn tb_Y_sendOn 10 (Option.none : Option Jvm.ClassFile.FieldType) ∈ tm_wg := List.mem_filter.mpr ⟨List.mem_append_right _ (List.mem_of_getElem? (i := 630) (by decide +kernel)), by decide +kernel⟩
abbrev tb_Y_makeFrame : ByteArray := prog_7_method_3_code
def ty_Y_makeFrame : MethodName := ⟨"TrickleMeshModel", "makeFrame", "(II)I"⟩
theorem tc_Y_makeFrame : Cond.code ty_Y_makeFrame tb_Y_makeFrame 4 (Option.some Jvm.ClassFile.FieldType.int) ∈ tm_wg := List.mem_filter.mpr ⟨List.mem_append_right _ (List.mem_of_getElem? (i := 634) (by decide +kernel)), by decide +kernel⟩
abbrev tb_Y_queue : ByteArray := prog_7_method_5_code
def ty_Y_queue : MethodName := ⟨"TrickleMeshModel", "queue", "(II)V"⟩
theorem tc_Y_queue : Cond.code ty_Y_queue tb_Y_queue 3 (Option.none : Option Jvm.ClassFile.FieldType) ∈ tm_wg := List.mem_filter.mpr ⟨List.mem_append_right _ (List.mem_of_getElem? (i := 638) (by decide +kernel)), by decide +kernel⟩
abbrev tb_Y_first : ByteArray := prog_7_method_4_code
def ty_Y_first : MethodName := ⟨"TrickleMeshModel", "first", "(I)V"⟩
theorem tc_Y_first : Cond.code ty_Y_first tb_Y_first 2 (Option.none : Option Jvm.ClassFile.FieldType) ∈ tm_wg := List.mem_filter.mpr ⟨List.mem_append_right _ (List.mem_of_getElem? (i := 642) (by decide +kernel)), by decide +kernel⟩
abbrev tb_Y_tick : ByteArray := prog_7_method_31_code
def ty_Y_tick : MethodName := ⟨"TrickleMeshModel", "tick", "(I)I"⟩
theorem tc_Y_tick : Cond.code ty_Y_tick tb_Y_tick 3 (Option.some Jvm.ClassFile.FieldType.int) ∈ tm_wg := List.mem_filter.mpr ⟨List.mem_append_right _ (List.mem_of_getElem? (i := 646) (by decide +kernel)), by decide +kernel⟩
abbrev tb_Y_slot : ByteArray := prog_7_method_23_code
def ty_Y_slot : MethodName := ⟨"TrickleMeshModel", "slot", "()V"⟩
theorem tc_Y_slot : Cond.code ty_Y_slot tb_Y_slot 3 (Option.none : Option Jvm.ClassFile.FieldType) ∈ tm_wg := List.mem_filter.mpr ⟨List.mem_append_right _ (List.mem_of_getElem? (i := 650) (by decide +kernel)), by decide +kernel⟩
abbrev tb_Y_air : ByteArray := prog_7_method_20_code
def ty_Y_air : MethodName := ⟨"TrickleMeshModel", "air", "(I)V"⟩
theorem tc_Y_air : Cond.code ty_Y_air tb_Y_air 3 (Option.none : Option Jvm.ClassFile.FieldType) ∈ tm_wg := List.mem_filter.mpr ⟨List.mem_append_right _ (List.mem_of_getElem? (i := 654) (by decide +kernel)), by decide +kernel⟩
abbrev tb_Y_nearWasOn : ByteArray := prog_7_method_19_code
def ty_Y_nearWasOn : MethodName := ⟨"TrickleMeshModel", "nearWasOn", "(I)Z"⟩
theorem tc_Y_nearWasOn : Cond.code ty_Y_nearWasOn tb_Y_nearWasOn 4 (Option.some Jvm.ClassFile.FieldType.boolean) ∈ tm_wg := List.mem_filter.mpr ⟨List.mem_append_right _ (List.mem_of_getElem? (i := 658) (by decide +kernel)), by decide +kernel⟩
abbrev tb_Y_fails : ByteArray := prog_7_method_8_code
def ty_Y_fails : MethodName := ⟨"TrickleMeshModel", "fails", "(I)V"⟩
theorem tc_Y_fails : Cond.code ty_Y_fails tb_Y_fails 5 (Option.none : Option Jvm.ClassFile.FieldType) ∈ tm_wg := List.mem_filter.mpr ⟨List.mem_append_right _ (List.mem_of_getElem? (i := 662) (by decide +kernel)), by decide +kernel⟩
abbrev tb_Y_done : ByteArray := prog_7_method_7_code
def ty_Y_done : MethodName := ⟨"TrickleMeshModel", "done", "(I)V"⟩
theorem tc_Y_done : Cond.code ty_Y_done tb_Y_done 3 (Option.none : Option Jvm.ClassFile.FieldType) ∈ tm_wg := List.mem_filter.mpr ⟨List.mem_append_right _ (List.mem_of_getElem? (i := 666) (by decide +kernel)), by decide +kernel⟩
abbrev tb_Y_choose : ByteArray := prog_7_method_14_code
def ty_Y_choose : MethodName := ⟨"TrickleMeshModel", "choose", "(I)Z"⟩
theorem tc_Y_choose : Cond.code ty_Y_choose tb_Y_choose 9 (Option.some Jvm.ClassFile.FieldType.boolean) ∈ tm_wg := List.mem_filter.mpr ⟨List.mem_append_right _ (List.mem_of_getElem? (i := 670) (by decide +kernel)), by decide +kernel⟩
abbrev tb_Y_allGoals : ByteArray := prog_7_method_13_code
def ty_Y_allGoals : MethodName := ⟨"TrickleMeshModel", "allGoals", "(I)I"⟩
theorem tc_Y_allGoals : Cond.code ty_Y_allGoals tb_Y_allGoals 4 (Option.some Jvm.ClassFile.FieldType.int) ∈ tm_wg := List.mem_filter.mpr ⟨List.mem_append_right _ (List.mem_of_getElem? (i := 674) (by decide +kernel)), by decide +kernel⟩
abbrev tb_Y_announce : ByteArray := prog_7_method_12_code
def ty_Y_announce : MethodName := ⟨"TrickleMeshModel", "announce", "(IIIZ)V"⟩
theorem tc_Y_announce : Cond.code ty_Y_announce tb_Y_announce 7 (Option.none : Option Jvm.ClassFile.FieldType) ∈ tm_wg := List.mem_filter.mpr ⟨List.mem_append_right _ (List.mem_of_getElem? (i := 678) (by decide +kernel)), by decide +kernel⟩
abbrev tb_Y_heardFrom : ByteArray := prog_7_method_21_code
def ty_Y_heardFrom : MethodName := ⟨"TrickleMeshModel", "heardFrom", "(I)I"⟩
theorem tc_Y_heardFrom : Cond.code ty_Y_heardFrom tb_Y_heardFrom 5 (Option.some Jvm.ClassFile.FieldType.int) ∈ tm_wg := List.mem_filter.mpr ⟨List.mem_append_right _ (List.mem_of_getElem? (i := 682) (by decide +kernel)), by decide +kernel⟩
abbrev tb_Y_takes : ByteArray := prog_7_method_22_code
def ty_Y_takes : MethodName := ⟨"TrickleMeshModel", "takes", "(II)V"⟩
theorem tc_Y_takes : Cond.code ty_Y_takes tb_Y_takes 4 (Option.none : Option Jvm.ClassFile.FieldType) ∈ tm_wg := List.mem_filter.mpr ⟨List.mem_append_right _ (List.mem_of_getElem? (i := 686) (by decide +kernel)), by decide +kernel⟩
abbrev tb_Y_advert : ByteArray := prog_7_method_15_code
def ty_Y_advert : MethodName := ⟨"TrickleMeshModel", "advert", "(II)V"⟩
theorem tc_Y_advert : Cond.code ty_Y_advert tb_Y_advert 4 (Option.none : Option Jvm.ClassFile.FieldType) ∈ tm_wg := List.mem_filter.mpr ⟨List.mem_append_right _ (List.mem_of_getElem? (i := 690) (by decide +kernel)), by decide +kernel⟩
abbrev tb_Y_announced : ByteArray := prog_7_method_16_code
def ty_Y_announced : MethodName := ⟨"TrickleMeshModel", "announced", "(III)V"⟩
theorem tc_Y_announced : Cond.code ty_Y_announced tb_Y_announced 10 (Option.none : Option Jvm.ClassFile.FieldType) ∈ tm_wg := List.mem_filter.mpr ⟨List.mem_append_right _ (List.mem_of_getElem? (i := 694) (by decide +kernel)), by decide +kernel⟩
abbrev tb_Y_valued : ByteArray := prog_7_method_18_code
def ty_Y_valued : MethodName := ⟨"TrickleMeshModel", "valued", "(III)V"⟩
theorem tc_Y_valued : Cond.code ty_Y_valued tb_Y_valued 6 (Option.none : Option Jvm.ClassFile.FieldType) ∈ tm_wg := List.mem_filter.mpr ⟨List.mem_append_right _ (List.mem_of_getElem? (i := 698) (by decide +kernel)), by decide +kernel⟩
abbrev tb_Y_unheard : ByteArray := prog_7_method_24_code
def ty_Y_unheard : MethodName := ⟨"TrickleMeshModel", "unheard", "(I)V"⟩
theorem tc_Y_unheard : Cond.code ty_Y_unheard tb_Y_unheard 2 (Option.none : Option Jvm.ClassFile.FieldType) ∈ tm_wg := List.mem_filter.mpr ⟨List.mem_append_right _ (List.mem_of_getElem? (i := 702) (by decide +kernel)), by decide +kernel⟩
abbrev tb_Y_later : ByteArray := prog_7_method_25_code
def ty_Y_later : MethodName := ⟨"TrickleMeshModel", "later", "(I)V"⟩
theorem tc_Y_later : Cond.code ty_Y_later tb_Y_later 3 (Option.none : Option Jvm.ClassFile.FieldType) ∈ tm_wg := List.mem_filter.mpr ⟨List.mem_append_right _ (List.mem_of_getElem? (i := 706) (by decide +kernel)), by decide +kernel⟩
abbrev tb_Y_timer : ByteArray := prog_7_method_11_code
def ty_Y_timer : MethodName := ⟨"TrickleMeshModel", "timer", "(I)V"⟩
theorem tc_Y_timer : Cond.code ty_Y_timer tb_Y_timer 3 (Option.none : Option Jvm.ClassFile.FieldType) ∈ tm_wg := List.mem_filter.mpr ⟨List.mem_append_right _ (List.mem_of_getElem? (i := 710) (by decide +kernel)), by decide +kernel⟩
abbrev tb_Y_queues : ByteArray := prog_7_method_6_code
def ty_Y_queues : MethodName := ⟨"TrickleMeshModel", "queues", "(II)Z"⟩
theorem tc_Y_queues : Cond.code ty_Y_queues tb_Y_queues 5 (Option.some Jvm.ClassFile.FieldType.boolean) ∈ tm_wg := List.mem_filter.mpr ⟨List.mem_append_right _ (List.mem_of_getElem? (i := 714) (by decide +kernel)), by decide +kernel⟩
abbrev tb_Y_node : ByteArray := prog_7_method_32_code
def ty_Y_node : MethodName := ⟨"TrickleMeshModel", "node", "(II)I"⟩
theorem tc_Y_node : Cond.code ty_Y_node tb_Y_node 4 (Option.some Jvm.ClassFile.FieldType.int) ∈ tm_wg := List.mem_filter.mpr ⟨List.mem_append_right _ (List.mem_of_getElem? (i := 718) (by decide +kernel)), by decide +kernel⟩
abbrev tb_Y_next : ByteArray := prog_7_method_33_code
def ty_Y_next : MethodName := ⟨"TrickleMeshModel", "next", "(II)I"⟩
theorem tc_Y_next : Cond.code ty_Y_next tb_Y_next 3 (Option.some Jvm.ClassFile.FieldType.int) ∈ tm_wg := List.mem_filter.mpr ⟨List.mem_append_right _ (List.mem_of_getElem? (i := 722) (by decide +kernel)), by decide +kernel⟩
abbrev tb_Y_known : ByteArray := prog_7_method_34_code
def ty_Y_known : MethodName := ⟨"TrickleMeshModel", "known", "(II)I"⟩
theorem tc_Y_known : Cond.code ty_Y_known tb_Y_known 3 (Option.some Jvm.ClassFile.FieldType.int) ∈ tm_wg := List.mem_filter.mpr ⟨List.mem_append_right _ (List.mem_of_getElem? (i := 726) (by decide +kernel)), by decide +kernel⟩
abbrev tb_Y_delivered : ByteArray := prog_7_method_35_code
def ty_Y_delivered : MethodName := ⟨"TrickleMeshModel", "delivered", "(II)I"⟩
theorem tc_Y_delivered : Cond.code ty_Y_delivered tb_Y_delivered 3 (Option.some Jvm.ClassFile.FieldType.int) ∈ tm_wg := List.mem_filter.mpr ⟨List.mem_append_right _ (List.mem_of_getElem? (i := 730) (by decide +kernel)), by decide +kernel⟩
abbrev tb_Y_count : ByteArray := prog_7_method_36_code
def ty_Y_count : MethodName := ⟨"TrickleMeshModel", "count", "(I)I"⟩
theorem tc_Y_count : Cond.code ty_Y_count tb_Y_count 2 (Option.some Jvm.ClassFile.FieldType.int) ∈ tm_wg := List.mem_filter.mpr ⟨List.mem_append_right _ (List.mem_of_getElem? (i := 734) (by decide +kernel)), by decide +kernel⟩
