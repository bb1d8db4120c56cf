def RX0 : String := "SparePlanner$Batch"
def TX0 : u_T := fun k => match k with
  | 0 => ("SparePlanner$Batch", "part", "I", false)
  | 1 => ("SparePlanner$Batch", "quantity", "I", false)
  | _ => ("SparePlanner$Batch", "endDay", "I", false)
def tyX0 : Nat → FieldType := fun k => match k with
  | 0 => .int
  | 1 => .int
  | _ => .int
theorem nmX0 : ∀ a, a < 3 → ∀ b, b < 3 → a ≠ b → (TX0 a).2.1 ≠ (TX0 b).2.1 := by decide +kernel
theorem tyX0_ok : ∀ k, k < 3 → parseFieldDescriptor (TX0 k).2.2.1 = some (tyX0 k) := by decide +kernel
def RX1 : String := "SparePlanner$BatchList"
def TX1 : u_T := fun k => match k with
  | 0 => ("SparePlanner$BatchList", "batches", "[LSparePlanner$Batch;", true)
  | _ => ("SparePlanner$BatchList", "size", "I", false)
def tyX1 : Nat → FieldType := fun k => match k with
  | 0 => .array (.object "SparePlanner$Batch")
  | _ => .int
theorem nmX1 : ∀ a, a < 2 → ∀ b, b < 2 → a ≠ b → (TX1 a).2.1 ≠ (TX1 b).2.1 := by decide +kernel
theorem tyX1_ok : ∀ k, k < 2 → parseFieldDescriptor (TX1 k).2.2.1 = some (tyX1 k) := by decide +kernel
def RX2 : String := "SparePlanner$Kit"
def TX2 : u_T := fun k => match k with
  | 0 => ("SparePlanner$Kit", "itemCount", "I", false)
  | 1 => ("SparePlanner$Kit", "parts", "[I", true)
  | _ => ("SparePlanner$Kit", "quantities", "[I", true)
def tyX2 : Nat → FieldType := fun k => match k with
  | 0 => .int
  | 1 => .array .int
  | _ => .array .int
theorem nmX2 : ∀ a, a < 3 → ∀ b, b < 3 → a ≠ b → (TX2 a).2.1 ≠ (TX2 b).2.1 := by decide +kernel
theorem tyX2_ok : ∀ k, k < 3 → parseFieldDescriptor (TX2 k).2.2.1 = some (tyX2 k) := by decide +kernel
def RX3 : String := "SparePlanner$Part"
def TX3 : u_T := fun k => match k with
  | 0 => ("SparePlanner$Part", "stock", "I", false)
  | 1 => ("SparePlanner$Part", "broken", "I", false)
  | 2 => ("SparePlanner$Part", "lower", "I", false)
  | 3 => ("SparePlanner$Part", "upper", "I", false)
  | 4 => ("SparePlanner$Part", "orderLead", "I", false)
  | 5 => ("SparePlanner$Part", "repairLead", "I", false)
  | 6 => ("SparePlanner$Part", "percent", "I", false)
  | 7 => ("SparePlanner$Part", "hundredths", "I", false)
  | 8 => ("SparePlanner$Part", "requested", "I", false)
  | 9 => ("SparePlanner$Part", "servedAtOnce", "I", false)
  | 10 => ("SparePlanner$Part", "substituteCount", "I", false)
  | 11 => ("SparePlanner$Part", "substitutes", "[I", true)
  | _ => ("SparePlanner$Part", "movements", "[I", true)
def tyX3 : Nat → FieldType := fun k => match k with
  | 0 => .int
  | 1 => .int
  | 2 => .int
  | 3 => .int
  | 4 => .int
  | 5 => .int
  | 6 => .int
  | 7 => .int
  | 8 => .int
  | 9 => .int
  | 10 => .int
  | 11 => .array .int
  | _ => .array .int
theorem nmX3 : ∀ a, a < 13 → ∀ b, b < 13 → a ≠ b → (TX3 a).2.1 ≠ (TX3 b).2.1 := by decide +kernel
theorem tyX3_ok : ∀ k, k < 13 → parseFieldDescriptor (TX3 k).2.2.1 = some (tyX3 k) := by decide +kernel
def RX4 : String := "SparePlanner$Sample"
def TX4 : u_T := fun k => match k with
  | 0 => ("SparePlanner$Sample", "isFilled", "Z", false)
  | 1 => ("SparePlanner$Sample", "part", "I", false)
  | 2 => ("SparePlanner$Sample", "stock", "I", false)
  | 3 => ("SparePlanner$Sample", "position", "I", false)
  | _ => ("SparePlanner$Sample", "day", "I", false)
def tyX4 : Nat → FieldType := fun k => match k with
  | 0 => .boolean
  | 1 => .int
  | 2 => .int
  | 3 => .int
  | _ => .int
theorem nmX4 : ∀ a, a < 5 → ∀ b, b < 5 → a ≠ b → (TX4 a).2.1 ≠ (TX4 b).2.1 := by decide +kernel
theorem tyX4_ok : ∀ k, k < 5 → parseFieldDescriptor (TX4 k).2.2.1 = some (tyX4 k) := by decide +kernel
def RX5 : String := "SparePlanner$Text"
def TX5 : u_T := fun k => match k with
  | 0 => ("SparePlanner$Text", "characters", "[C", true)
  | 1 => ("SparePlanner$Text", "length", "I", false)
  | 2 => ("SparePlanner$Text", "kinds", "[I", true)
  | 3 => ("SparePlanner$Text", "numbers", "[I", true)
  | 4 => ("SparePlanner$Text", "quantities", "[I", true)
  | _ => ("SparePlanner$Text", "entryCount", "I", false)
def tyX5 : Nat → FieldType := fun k => match k with
  | 0 => .array .char
  | 1 => .int
  | 2 => .array .int
  | 3 => .array .int
  | 4 => .array .int
  | _ => .int
theorem nmX5 : ∀ a, a < 6 → ∀ b, b < 6 → a ≠ b → (TX5 a).2.1 ≠ (TX5 b).2.1 := by decide +kernel
theorem tyX5_ok : ∀ k, k < 6 → parseFieldDescriptor (TX5 k).2.2.1 = some (tyX5 k) := by decide +kernel
def RX6 : String := "SparePlanner$WaitingRequest"
def TX6 : u_T := fun k => match k with
  | 0 => ("SparePlanner$WaitingRequest", "number", "I", false)
  | 1 => ("SparePlanner$WaitingRequest", "part", "I", false)
  | 2 => ("SparePlanner$WaitingRequest", "quantity", "I", false)
  | 3 => ("SparePlanner$WaitingRequest", "missing", "I", false)
  | _ => ("SparePlanner$WaitingRequest", "day", "I", false)
def tyX6 : Nat → FieldType := fun k => match k with
  | 0 => .int
  | 1 => .int
  | 2 => .int
  | 3 => .int
  | _ => .int
theorem nmX6 : ∀ a, a < 5 → ∀ b, b < 5 → a ≠ b → (TX6 a).2.1 ≠ (TX6 b).2.1 := by decide +kernel
theorem tyX6_ok : ∀ k, k < 5 → parseFieldDescriptor (TX6 k).2.2.1 = some (tyX6 k) := by decide +kernel
def RX7 : String := "SparePlanner$World"
def TX7 : u_T := fun k => match k with
  | 0 => ("SparePlanner$World", "parts", "[LSparePlanner$Part;", true)
  | 1 => ("SparePlanner$World", "partCount", "I", false)
  | 2 => ("SparePlanner$World", "kits", "[LSparePlanner$Kit;", true)
  | 3 => ("SparePlanner$World", "kitCount", "I", false)
  | 4 => ("SparePlanner$World", "waiting", "[LSparePlanner$WaitingRequest;", true)
  | 5 => ("SparePlanner$World", "waitingCount", "I", false)
  | 6 => ("SparePlanner$World", "requestCount", "I", false)
  | 7 => ("SparePlanner$World", "repairs", "LSparePlanner$BatchList;", true)
  | 8 => ("SparePlanner$World", "orders", "LSparePlanner$BatchList;", true)
  | _ => ("SparePlanner$World", "day", "I", false)
def tyX7 : Nat → FieldType := fun k => match k with
  | 0 => .array (.object "SparePlanner$Part")
  | 1 => .int
  | 2 => .array (.object "SparePlanner$Kit")
  | 3 => .int
  | 4 => .array (.object "SparePlanner$WaitingRequest")
  | 5 => .int
  | 6 => .int
  | 7 => .object "SparePlanner$BatchList"
  | 8 => .object "SparePlanner$BatchList"
  | _ => .int
theorem nmX7 : ∀ a, a < 10 → ∀ b, b < 10 → a ≠ b → (TX7 a).2.1 ≠ (TX7 b).2.1 := by decide +kernel
theorem tyX7_ok : ∀ k, k < 10 → parseFieldDescriptor (TX7 k).2.2.1 = some (tyX7 k) := by decide +kernel
def RX8 : String := "SparePlanner"
def TX8 : u_T := fun k => match k with
  | 0 => ("SparePlanner", "world", "LSparePlanner$World;", true)
  | 1 => ("SparePlanner", "trial", "LSparePlanner$World;", true)
  | 2 => ("SparePlanner", "saved", "LSparePlanner$World;", true)
  | 3 => ("SparePlanner", "isSaved", "Z", false)
  | 4 => ("SparePlanner", "history", "[LSparePlanner$World;", true)
  | 5 => ("SparePlanner", "oldest", "I", false)
  | 6 => ("SparePlanner", "remembered", "I", false)
  | 7 => ("SparePlanner", "text", "LSparePlanner$Text;", true)
  | 8 => ("SparePlanner", "lastError", "I", false)
  | 9 => ("SparePlanner", "lastRefused", "I", false)
  | 10 => ("SparePlanner", "lastReason", "I", false)
  | 11 => ("SparePlanner", "reasonPart", "I", false)
  | 12 => ("SparePlanner", "reasonMissing", "I", false)
  | _ => ("SparePlanner", "samples", "[LSparePlanner$Sample;", true)
def tyX8 : Nat → FieldType := fun k => match k with
  | 0 => .object "SparePlanner$World"
  | 1 => .object "SparePlanner$World"
  | 2 => .object "SparePlanner$World"
  | 3 => .boolean
  | 4 => .array (.object "SparePlanner$World")
  | 5 => .int
  | 6 => .int
  | 7 => .object "SparePlanner$Text"
  | 8 => .int
  | 9 => .int
  | 10 => .int
  | 11 => .int
  | 12 => .int
  | _ => .array (.object "SparePlanner$Sample")
theorem nmX8 : ∀ a, a < 14 → ∀ b, b < 14 → a ≠ b → (TX8 a).2.1 ≠ (TX8 b).2.1 := by decide +kernel
theorem tyX8_ok : ∀ k, k < 14 → parseFieldDescriptor (TX8 k).2.2.1 = some (tyX8 k) := by decide +kernel
def RX9 : String := "SparePlannerModel"
def TX9 : u_T := fun k => match k with
  | 0 => ("SparePlannerModel", "thrown", "I", false)
  | 1 => ("SparePlannerModel", "now", "[I", true)
  | 2 => ("SparePlannerModel", "saved", "[I", true)
  | 3 => ("SparePlannerModel", "before", "[I", true)
  | 4 => ("SparePlannerModel", "history", "[[I", true)
  | 5 => ("SparePlannerModel", "remembered", "I", false)
  | 6 => ("SparePlannerModel", "isSaved", "Z", false)
  | 7 => ("SparePlannerModel", "reason", "I", false)
  | 8 => ("SparePlannerModel", "reasonPart", "I", false)
  | 9 => ("SparePlannerModel", "reasonMissing", "I", false)
  | 10 => ("SparePlannerModel", "lackingPart", "I", false)
  | 11 => ("SparePlannerModel", "lackingPieces", "I", false)
  | 12 => ("SparePlannerModel", "scratch", "[I", true)
  | 13 => ("SparePlannerModel", "samples", "[[I", true)
  | 14 => ("SparePlannerModel", "isHeld", "[Z", true)
  | 15 => ("SparePlannerModel", "text", "[C", true)
  | 16 => ("SparePlannerModel", "length", "I", false)
  | 17 => ("SparePlannerModel", "at", "I", false)
  | 18 => ("SparePlannerModel", "error", "I", false)
  | 19 => ("SparePlannerModel", "refusedEntry", "I", false)
  | _ => ("SparePlannerModel", "isWrong", "Z", false)
def tyX9 : Nat → FieldType := fun k => match k with
  | 0 => .int
  | 1 => .array .int
  | 2 => .array .int
  | 3 => .array .int
  | 4 => .array (.array .int)
  | 5 => .int
  | 6 => .boolean
  | 7 => .int
  | 8 => .int
  | 9 => .int
  | 10 => .int
  | 11 => .int
  | 12 => .array .int
  | 13 => .array (.array .int)
  | 14 => .array .boolean
  | 15 => .array .char
  | 16 => .int
  | 17 => .int
  | 18 => .int
  | 19 => .int
  | _ => .boolean
theorem nmX9 : ∀ a, a < 21 → ∀ b, b < 21 → a ≠ b → (TX9 a).2.1 ≠ (TX9 b).2.1 := by decide +kernel
theorem tyX9_ok : ∀ k, k < 21 → parseFieldDescriptor (TX9 k).2.2.1 = some (tyX9 k) := by decide +kernel
abbrev cls : List vw_C := [(RX0, TX0, 3), (RX1, TX1, 2), (RX2, TX2, 3), (RX3, TX3, 13), (RX4, TX4, 5), (RX5, TX5, 6), (RX6, TX6, 5), (RX7, TX7, 10), (RX8, TX8, 14), (RX9, TX9, 21)]
def fty : Nat → Nat → FieldType := fun ci => match ci with
  | 0 => tyX0
  | 1 => tyX1
  | 2 => tyX2
  | 3 => tyX3
  | 4 => tyX4
  | 5 => tyX5
  | 6 => tyX6
  | 7 => tyX7
  | 8 => tyX8
  | _ => tyX9
def TB : List Cond := lw_tbl.filter goodWord
theorem TB_m {w : Cond} (i : Nat) (h : lw_tbl[i]? = some w) (g : goodWord w = true) : w ∈ TB := List.mem_filter.mpr ⟨List.mem_of_getElem? h, g⟩
theorem inX0 : ∀ w ∈ u_ws RX0 TX0 3, w ∈ TB := by
  intro w hw
  have h : (u_ws RX0 TX0 3).all (fun w => decide (w ∈ lw_tbl) && goodWord w) = true := by decide +kernel
  have h1 := List.all_eq_true.mp h w hw
  simp only [Bool.and_eq_true, decide_eq_true_eq] at h1
  exact List.mem_filter.mpr h1
theorem inX1 : ∀ w ∈ u_ws RX1 TX1 2, w ∈ TB := by
  intro w hw
  have h : (u_ws RX1 TX1 2).all (fun w => decide (w ∈ lw_tbl) && goodWord w) = true := by decide +kernel
  have h1 := List.all_eq_true.mp h w hw
  simp only [Bool.and_eq_true, decide_eq_true_eq] at h1
  exact List.mem_filter.mpr h1
theorem inX2 : ∀ w ∈ u_ws RX2 TX2 3, w ∈ TB := by
  intro w hw
  have h : (u_ws RX2 TX2 3).all (fun w => decide (w ∈ lw_tbl) && goodWord w) = true := by decide +kernel
  have h1 := List.all_eq_true.mp h w hw
  simp only [Bool.and_eq_true, decide_eq_true_eq] at h1
  exact List.mem_filter.mpr h1
theorem inX3 : ∀ w ∈ u_ws RX3 TX3 13, w ∈ TB := by
  intro w hw
  have h : (u_ws RX3 TX3 13).all (fun w => decide (w ∈ lw_tbl) && goodWord w) = true := by decide +kernel
  have h1 := List.all_eq_true.mp h w hw
  simp only [Bool.and_eq_true, decide_eq_true_eq] at h1
  exact List.mem_filter.mpr h1
theorem inX4 : ∀ w ∈ u_ws RX4 TX4 5, w ∈ TB := by
  intro w hw
  have h : (u_ws RX4 TX4 5).all (fun w => decide (w ∈ lw_tbl) && goodWord w) = true := by decide +kernel
  have h1 := List.all_eq_true.mp h w hw
  simp only [Bool.and_eq_true, decide_eq_true_eq] at h1
  exact List.mem_filter.mpr h1
theorem inX5 : ∀ w ∈ u_ws RX5 TX5 6, w ∈ TB := by
  intro w hw
  have h : (u_ws RX5 TX5 6).all (fun w => decide (w ∈ lw_tbl) && goodWord w) = true := by decide +kernel
  have h1 := List.all_eq_true.mp h w hw
  simp only [Bool.and_eq_true, decide_eq_true_eq] at h1
  exact List.mem_filter.mpr h1
theorem inX6 : ∀ w ∈ u_ws RX6 TX6 5, w ∈ TB := by
  intro w hw
  have h : (u_ws RX6 TX6 5).all (fun w => decide (w ∈ lw_tbl) && goodWord w) = true := by decide +kernel
  have h1 := List.all_eq_true.mp h w hw
  simp only [Bool.and_eq_true, decide_eq_true_eq] at h1
  exact List.mem_filter.mpr h1
theorem inX7 : ∀ w ∈ u_ws RX7 TX7 10, w ∈ TB := by
  intro w hw
  have h : (u_ws RX7 TX7 10).all (fun w => decide (w ∈ lw_tbl) && goodWord w) = true := by decide +kernel
  have h1 := List.all_eq_true.mp h w hw
  simp only [Bool.and_eq_true, decide_eq_true_eq] at h1
  exact List.mem_filter.mpr h1
theorem inX8 : ∀ w ∈ u_ws RX8 TX8 14, w ∈ TB := by
  intro w hw
  have h : (u_ws RX8 TX8 14).all (fun w => decide (w ∈ lw_tbl) && goodWord w) = true := by decide +kernel
  have h1 := List.all_eq_true.mp h w hw
  simp only [Bool.and_eq_true, decide_eq_true_eq] at h1
  exact List.mem_filter.mpr h1
theorem inX9 : ∀ w ∈ u_ws RX9 TX9 21, w ∈ TB := by
  intro w hw
  have h : (u_ws RX9 TX9 21).all (fun w => decide (w ∈ lw_tbl) && goodWord w) = true := by decide +kernel
  have h1 := List.all_eq_true.mp h w hw
  simp only [Bool.and_eq_true, decide_eq_true_eq] at h1
  exact List.mem_filter.mpr h1
def NESTS : List (String × Nat × MethodName) := [("SparePlanner$BatchList", 17, ({ cls := "SparePlanner$Batch", name := "<init>", desc := "()V" } : MethodName)), ("SparePlanner$World", 39, ({ cls := "SparePlanner$Part", name := "<init>", desc := "()V" } : MethodName)), ("SparePlanner$World", 40, ({ cls := "SparePlanner$Kit", name := "<init>", desc := "()V" } : MethodName)), ("SparePlanner$World", 41, ({ cls := "SparePlanner$WaitingRequest", name := "<init>", desc := "()V" } : MethodName)), ("SparePlanner", 28, ({ cls := "SparePlanner$Text", name := "<init>", desc := "()V" } : MethodName)), ("SparePlanner", 49, ({ cls := "SparePlanner$Sample", name := "<init>", desc := "()V" } : MethodName))]
def AOS : List String := ["SparePlanner$Part", "SparePlanner$Kit", "SparePlanner$WaitingRequest", "SparePlanner$Batch", "SparePlanner$World", "SparePlanner$Sample"]
def STRS : List (String × Nat × String) := [("SparePlanner", 437, "a number is out of range"), ("SparePlanner", 65, "there are 8 parts"), ("SparePlanner", 428, "there is no such part"), ("SparePlanner", 98, "a part is no substitute of itself"), ("SparePlanner", 108, "the part has 4 substitutes or has this one"), ("SparePlanner", 115, "the part has no such substitute"), ("SparePlanner", 126, "there is no such kit, nor is it the next one"), ("SparePlanner", 129, "there are 4 kits"), ("SparePlanner", 141, "the kit has 4 items or has this part"), ("SparePlanner", 172, "what is not 0 to 7"), ("SparePlanner", 192, "what is not 0 to 9"), ("SparePlanner", 194, "there is no such substitute"), ("SparePlanner", 433, "there is no such kit"), ("SparePlanner", 206, "there is no such item"), ("SparePlanner", 217, "12 requests wait"), ("SparePlanner", 435, "there is nothing with this index"), ("SparePlanner", 255, "what is not 0 to 4"), ("SparePlanner", 268, "an item cannot be served"), ("SparePlanner", 281, "there are not so many broken pieces"), ("SparePlanner", 283, "12 repairs are under way"), ("SparePlanner", 316, "no pieces of the part were requested"), ("SparePlanner", 334, "no pieces were requested"), ("SparePlanner", 350, "no such reason was kept"), ("SparePlanner", 361, "shelf 0 does not hold this part"), ("SparePlanner", 376, "the place is empty"), ("SparePlanner", 381, "the input has 60 characters"), ("SparePlanner", 390, "the input is no text"), ("SparePlanner", 406, "an entry is refused"), ("SparePlanner", 408, "no error position was kept"), ("SparePlanner", 410, "no refused entry was kept"), ("SparePlanner", 415, "no change is remembered"), ("SparePlanner", 423, "nothing was saved")]
def CSS : List String := ["java/lang/IndexOutOfBoundsException", "java/lang/IllegalArgumentException", "java/lang/IllegalStateException", "java/util/NoSuchElementException", "java/lang/UnsupportedOperationException", "java/lang/ArithmeticException"]
def DECS : List MethodName := [⟨"java/lang/RuntimeException", "<init>", "(Ljava/lang/String;)V"⟩, ⟨"java/lang/Exception", "<init>", "(Ljava/lang/String;)V"⟩, ⟨"java/lang/Throwable", "<init>", "(Ljava/lang/String;)V"⟩]
def NCS : List (String × String) := [("java/lang/IndexOutOfBoundsException", "java/lang/IllegalArgumentException"), ("java/lang/IndexOutOfBoundsException", "java/lang/IllegalStateException"), ("java/lang/IndexOutOfBoundsException", "java/util/NoSuchElementException"), ("java/lang/IndexOutOfBoundsException", "java/lang/UnsupportedOperationException"), ("java/lang/IndexOutOfBoundsException", "java/lang/ArithmeticException"), ("java/lang/IllegalArgumentException", "java/lang/IndexOutOfBoundsException"), ("java/lang/IllegalArgumentException", "java/lang/IllegalStateException"), ("java/lang/IllegalArgumentException", "java/util/NoSuchElementException"), ("java/lang/IllegalArgumentException", "java/lang/UnsupportedOperationException"), ("java/lang/IllegalArgumentException", "java/lang/ArithmeticException"), ("java/lang/IllegalStateException", "java/lang/IndexOutOfBoundsException"), ("java/lang/IllegalStateException", "java/lang/IllegalArgumentException"), ("java/lang/IllegalStateException", "java/util/NoSuchElementException"), ("java/lang/IllegalStateException", "java/lang/UnsupportedOperationException"), ("java/lang/IllegalStateException", "java/lang/ArithmeticException"), ("java/util/NoSuchElementException", "java/lang/IndexOutOfBoundsException"), ("java/util/NoSuchElementException", "java/lang/IllegalArgumentException"), ("java/util/NoSuchElementException", "java/lang/IllegalStateException"), ("java/util/NoSuchElementException", "java/lang/UnsupportedOperationException"), ("java/util/NoSuchElementException", "java/lang/ArithmeticException"), ("java/lang/UnsupportedOperationException", "java/lang/IndexOutOfBoundsException"), ("java/lang/UnsupportedOperationException", "java/lang/IllegalArgumentException"), ("java/lang/UnsupportedOperationException", "java/lang/IllegalStateException"), ("java/lang/UnsupportedOperationException", "java/util/NoSuchElementException"), ("java/lang/UnsupportedOperationException", "java/lang/ArithmeticException"), ("java/lang/ArithmeticException", "java/lang/IndexOutOfBoundsException"), ("java/lang/ArithmeticException", "java/lang/IllegalArgumentException"), ("java/lang/ArithmeticException", "java/lang/IllegalStateException"), ("java/lang/ArithmeticException", "java/util/NoSuchElementException"), ("java/lang/ArithmeticException", "java/lang/UnsupportedOperationException")]
def ATY : List (Nat × FieldType) := [(20, .int), (21, .boolean), (22, .char), (23, .long), (24, .double), (25, .array .int), (30, .object RX0), (32, .object RX2), (33, .object RX3), (34, .object RX4), (36, .object RX6), (37, .object RX7)]
