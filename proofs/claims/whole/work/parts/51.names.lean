/-! ===== BEGIN words of one list among another's, by their places ===== -/
theorem goodIn_r {big : List Cond} (ws : List Cond) (ps : List Nat) (hp : ws = ps.filterMap (fun i => big[i]?)) (h : ws.all goodWord = true) : GoodIn big ws := by
  intro w hw
  have h1 := List.all_eq_true.mp h w hw
  rw [hp] at hw
  obtain ⟨i, -, hi⟩ := List.mem_filterMap.mp hw
  have hm : w ∈ big := by first | exact List.mem_of_getElem? hi | exact List.getElem?_mem hi
  exact ⟨hm, good_of_word h1⟩
theorem goodIn_app {big a b : List Cond} (ha : GoodIn big a) (hb : GoodIn big b) : GoodIn big (a ++ b) := fun w h => (List.mem_append.mp h).elim (ha w) (hb w)
theorem goodIn_ca {big a b : List Cond} {c : Cond} (ha : GoodIn big (c :: a)) (hb : GoodIn big b) : GoodIn big (c :: (a ++ b)) := fun w h => (List.mem_cons.mp h).elim (fun e => ha w (List.mem_cons.mpr (Or.inl e))) (fun h => (List.mem_append.mp h).elim (fun h => ha w (List.mem_cons.mpr (Or.inr h))) (hb w))
theorem goodIn_sub {big ws : List Cond} (hm : ∀ w ∈ ws, w ∈ big) (h : ws.all goodWord = true) : GoodIn big ws := fun w hw => ⟨hm w hw, good_of_word (List.all_eq_true.mp h w hw)⟩
/-! ===== END ===== -/
def RX0 : String := "CardLoops$History"
def TX0 : u_T := fun k => match k with
  | 0 => ("CardLoops$History", "kept", "[LCardLoops$Line;", true)
  | 1 => ("CardLoops$History", "count", "I", false)
  | _ => ("CardLoops$History", "top", "I", false)
def tyX0 : Nat → FieldType := fun k => match k with
  | 0 => .array (.object "CardLoops$Line")
  | 1 => .int
  | _ => .int
abbrev wsX00 : List Cond := u_ws RX0 TX0 3
theorem nmX0 : ∀ a, a < 3 → ∀ b, b < 3 → a ≠ b → (TX0 a).2.1 ≠ (TX0 b).2.1 := by decide +kernel
theorem tyX0_ok : ∀ k, k < 3 → parseFieldDescriptor (TX0 k).2.2.1 = some (tyX0 k) := by decide +kernel
abbrev cX0_init : ByteArray := prog_2_method_1_code
def yX0_init : MethodName := ⟨RX0, "<init>", "(LCardLoops$Plan;)V"⟩
abbrev cX0_clear : ByteArray := prog_2_method_2_code
def yX0_clear : MethodName := ⟨RX0, "clear", "()V"⟩
abbrev cX0_keep : ByteArray := prog_2_method_3_code
def yX0_keep : MethodName := ⟨RX0, "keep", "(LCardLoops$Line;)V"⟩
abbrev cX0_giveBack : ByteArray := prog_2_method_4_code
def yX0_giveBack : MethodName := ⟨RX0, "giveBack", "(LCardLoops$Line;)V"⟩
def RX1 : String := "CardLoops$Line"
def TX1 : u_T := fun k => match k with
  | 0 => ("CardLoops$Line", "plan", "LCardLoops$Plan;", true)
  | 1 => ("CardLoops$Line", "begun", "[I", true)
  | 2 => ("CardLoops$Line", "through", "[I", true)
  | 3 => ("CardLoops$Line", "ends", "[I", true)
  | 4 => ("CardLoops$Line", "cardsOf", "[I", true)
  | 5 => ("CardLoops$Line", "births", "[I", true)
  | 6 => ("CardLoops$Line", "minutes", "[I", true)
  | 7 => ("CardLoops$Line", "factor", "I", false)
  | 8 => ("CardLoops$Line", "time", "I", false)
  | 9 => ("CardLoops$Line", "latestLead", "I", false)
  | _ => ("CardLoops$Line", "longestLead", "I", false)
def tyX1 : Nat → FieldType := fun k => match k with
  | 0 => .object "CardLoops$Plan"
  | 1 => .array .int
  | 2 => .array .int
  | 3 => .array .int
  | 4 => .array .int
  | 5 => .array .int
  | 6 => .array .int
  | 7 => .int
  | 8 => .int
  | 9 => .int
  | _ => .int
abbrev wsX10 : List Cond := u_ws RX1 TX1 11
theorem nmX1 : ∀ a, a < 11 → ∀ b, b < 11 → a ≠ b → (TX1 a).2.1 ≠ (TX1 b).2.1 := by decide +kernel
theorem tyX1_ok : ∀ k, k < 11 → parseFieldDescriptor (TX1 k).2.2.1 = some (tyX1 k) := by decide +kernel
abbrev cX1_init : ByteArray := prog_3_method_1_code
def yX1_init : MethodName := ⟨RX1, "<init>", "(LCardLoops$Plan;)V"⟩
abbrev cX1_startAnew : ByteArray := prog_3_method_2_code
def yX1_startAnew : MethodName := ⟨RX1, "startAnew", "([II)V"⟩
abbrev cX1_copyFrom : ByteArray := prog_3_method_3_code
def yX1_copyFrom : MethodName := ⟨RX1, "copyFrom", "(LCardLoops$Line;)V"⟩
abbrev cX1_out : ByteArray := prog_3_method_4_code
def yX1_out : MethodName := ⟨RX1, "out", "()I"⟩
abbrev cX1_onTheirWay : ByteArray := prog_3_method_5_code
def yX1_onTheirWay : MethodName := ⟨RX1, "onTheirWay", "()I"⟩
abbrev cX1_isIdle : ByteArray := prog_3_method_6_code
def yX1_isIdle : MethodName := ⟨RX1, "isIdle", "(I)Z"⟩
abbrev cX1_waiting : ByteArray := prog_3_method_7_code
def yX1_waiting : MethodName := ⟨RX1, "waiting", "(I)I"⟩
abbrev cX1_free : ByteArray := prog_3_method_8_code
def yX1_free : MethodName := ⟨RX1, "free", "(I)I"⟩
abbrev cX1_kindOf : ByteArray := prog_3_method_9_code
def yX1_kindOf : MethodName := ⟨RX1, "kindOf", "(I)I"⟩
abbrev cX1_kindAt : ByteArray := prog_3_method_10_code
def yX1_kindAt : MethodName := ⟨RX1, "kindAt", "(I)I"⟩
abbrev cX1_placeInRuns : ByteArray := prog_3_method_11_code
def yX1_placeInRuns : MethodName := ⟨RX1, "placeInRuns", "()I"⟩
abbrev cX1_setUpAt : ByteArray := prog_3_method_12_code
def yX1_setUpAt : MethodName := ⟨RX1, "setUpAt", "(I)I"⟩
abbrev cX1_stateOf : ByteArray := prog_3_method_13_code
def yX1_stateOf : MethodName := ⟨RX1, "stateOf", "(I)I"⟩
abbrev cX1_round : ByteArray := prog_3_method_14_code
def yX1_round : MethodName := ⟨RX1, "round", "()V"⟩
abbrev cX1_finish : ByteArray := prog_3_method_15_code
def yX1_finish : MethodName := ⟨RX1, "finish", "(I)V"⟩
abbrev cX1_canBegin : ByteArray := prog_3_method_16_code
def yX1_canBegin : MethodName := ⟨RX1, "canBegin", "(I)Z"⟩
abbrev cX1_begin : ByteArray := prog_3_method_17_code
def yX1_begin : MethodName := ⟨RX1, "begin", "(I)V"⟩
abbrev cX1_nextThrough : ByteArray := prog_3_method_18_code
def yX1_nextThrough : MethodName := ⟨RX1, "nextThrough", "()I"⟩
abbrev cX1_leapTillOut : ByteArray := prog_3_method_19_code
def yX1_leapTillOut : MethodName := ⟨RX1, "leapTillOut", "()V"⟩
abbrev cX1_moveTo : ByteArray := prog_3_method_20_code
def yX1_moveTo : MethodName := ⟨RX1, "moveTo", "(I)V"⟩
abbrev cX1_countMinutes : ByteArray := prog_3_method_21_code
def yX1_countMinutes : MethodName := ⟨RX1, "countMinutes", "(I)V"⟩
def RX2 : String := "CardLoops$PaceFinder"
def TX2 : u_T := fun k => match k with
  | 0 => ("CardLoops$PaceFinder", "trial", "LCardLoops$Line;", true)
  | 1 => ("CardLoops$PaceFinder", "busy", "[J", true)
  | 2 => ("CardLoops$PaceFinder", "queues", "[I", true)
  | 3 => ("CardLoops$PaceFinder", "times", "[I", true)
  | 4 => ("CardLoops$PaceFinder", "heads", "[I", true)
  | 5 => ("CardLoops$PaceFinder", "chain", "[I", true)
  | 6 => ("CardLoops$PaceFinder", "parts", "I", false)
  | _ => ("CardLoops$PaceFinder", "minutes", "I", false)
def tyX2 : Nat → FieldType := fun k => match k with
  | 0 => .object "CardLoops$Line"
  | 1 => .array .long
  | 2 => .array .int
  | 3 => .array .int
  | 4 => .array .int
  | 5 => .array .int
  | 6 => .int
  | _ => .int
abbrev wsX20 : List Cond := u_ws RX2 TX2 8
theorem nmX2 : ∀ a, a < 8 → ∀ b, b < 8 → a ≠ b → (TX2 a).2.1 ≠ (TX2 b).2.1 := by decide +kernel
theorem tyX2_ok : ∀ k, k < 8 → parseFieldDescriptor (TX2 k).2.2.1 = some (tyX2 k) := by decide +kernel
abbrev cX2_init : ByteArray := prog_4_method_1_code
def yX2_init : MethodName := ⟨RX2, "<init>", "(LCardLoops$Line;)V"⟩
abbrev cX2_search : ByteArray := prog_4_method_2_code
def yX2_search : MethodName := ⟨RX2, "search", "([II)V"⟩
abbrev cX2_lookAround : ByteArray := prog_4_method_3_code
def yX2_lookAround : MethodName := ⟨RX2, "lookAround", "(I)V"⟩
abbrev cX2_enter : ByteArray := prog_4_method_4_code
def yX2_enter : MethodName := ⟨RX2, "enter", "(I)I"⟩
def RX3 : String := "CardLoops$Plan"
def TX3 : u_T := fun k => match k with
  | 0 => ("CardLoops$Plan", "times", "[I", true)
  | 1 => ("CardLoops$Plan", "setups", "[I", true)
  | 2 => ("CardLoops$Plan", "from", "[I", true)
  | 3 => ("CardLoops$Plan", "to", "[I", true)
  | 4 => ("CardLoops$Plan", "toldCards", "[I", true)
  | 5 => ("CardLoops$Plan", "kinds", "[I", true)
  | 6 => ("CardLoops$Plan", "stations", "I", false)
  | 7 => ("CardLoops$Plan", "loops", "I", false)
  | 8 => ("CardLoops$Plan", "runs", "I", false)
  | _ => ("CardLoops$Plan", "places", "I", false)
def tyX3 : Nat → FieldType := fun k => match k with
  | 0 => .array .int
  | 1 => .array .int
  | 2 => .array .int
  | 3 => .array .int
  | 4 => .array .int
  | 5 => .array .int
  | 6 => .int
  | 7 => .int
  | 8 => .int
  | _ => .int
abbrev wsX30 : List Cond := u_ws RX3 TX3 10
theorem nmX3 : ∀ a, a < 10 → ∀ b, b < 10 → a ≠ b → (TX3 a).2.1 ≠ (TX3 b).2.1 := by decide +kernel
theorem tyX3_ok : ∀ k, k < 10 → parseFieldDescriptor (TX3 k).2.2.1 = some (tyX3 k) := by decide +kernel
abbrev cX3_init : ByteArray := prog_5_method_1_code
def yX3_init : MethodName := ⟨RX3, "<init>", "()V"⟩
abbrev cX3_clear : ByteArray := prog_5_method_2_code
def yX3_clear : MethodName := ⟨RX3, "clear", "()V"⟩
abbrev cX3_addStation : ByteArray := prog_5_method_3_code
def yX3_addStation : MethodName := ⟨RX3, "addStation", "(II)V"⟩
abbrev cX3_addLoop : ByteArray := prog_5_method_4_code
def yX3_addLoop : MethodName := ⟨RX3, "addLoop", "(III)V"⟩
abbrev cX3_addRun : ByteArray := prog_5_method_5_code
def yX3_addRun : MethodName := ⟨RX3, "addRun", "(II)V"⟩
abbrev cX3_copyFrom : ByteArray := prog_5_method_6_code
def yX3_copyFrom : MethodName := ⟨RX3, "copyFrom", "(LCardLoops$Plan;)V"⟩
def RX4 : String := "CardLoops$Reader"
def TX4 : u_T := fun k => match k with
  | 0 => ("CardLoops$Reader", "draft", "LCardLoops$Plan;", true)
  | 1 => ("CardLoops$Reader", "tape", "[I", true)
  | 2 => ("CardLoops$Reader", "length", "I", false)
  | 3 => ("CardLoops$Reader", "faultKind", "I", false)
  | 4 => ("CardLoops$Reader", "faultPlace", "I", false)
  | 5 => ("CardLoops$Reader", "at", "I", false)
  | 6 => ("CardLoops$Reader", "tokenSort", "I", false)
  | _ => ("CardLoops$Reader", "tokenStart", "I", false)
def tyX4 : Nat → FieldType := fun k => match k with
  | 0 => .object "CardLoops$Plan"
  | 1 => .array .int
  | 2 => .int
  | 3 => .int
  | 4 => .int
  | 5 => .int
  | 6 => .int
  | _ => .int
abbrev wsX40 : List Cond := u_ws RX4 TX4 8
theorem nmX4 : ∀ a, a < 8 → ∀ b, b < 8 → a ≠ b → (TX4 a).2.1 ≠ (TX4 b).2.1 := by decide +kernel
theorem tyX4_ok : ∀ k, k < 8 → parseFieldDescriptor (TX4 k).2.2.1 = some (tyX4 k) := by decide +kernel
abbrev cX4_init : ByteArray := prog_6_method_1_code
def yX4_init : MethodName := ⟨RX4, "<init>", "([I)V"⟩
abbrev cX4_read : ByteArray := prog_6_method_2_code
def yX4_read : MethodName := ⟨RX4, "read", "(I)I"⟩
abbrev cX4_fail : ByteArray := prog_6_method_3_code
def yX4_fail : MethodName := ⟨RX4, "fail", "(I)V"⟩
abbrev cX4_readLine : ByteArray := prog_6_method_4_code
def yX4_readLine : MethodName := ⟨RX4, "readLine", "(Z)V"⟩
abbrev cX4_readWorks : ByteArray := prog_6_method_5_code
def yX4_readWorks : MethodName := ⟨RX4, "readWorks", "()V"⟩
abbrev cX4_readStation : ByteArray := prog_6_method_6_code
def yX4_readStation : MethodName := ⟨RX4, "readStation", "()V"⟩
abbrev cX4_readLoop : ByteArray := prog_6_method_7_code
def yX4_readLoop : MethodName := ⟨RX4, "readLoop", "()V"⟩
abbrev cX4_readRun : ByteArray := prog_6_method_8_code
def yX4_readRun : MethodName := ⟨RX4, "readRun", "()V"⟩
abbrev cX4_readNumber : ByteArray := prog_6_method_9_code
def yX4_readNumber : MethodName := ⟨RX4, "readNumber", "(II)I"⟩
abbrev cX4_readSign : ByteArray := prog_6_method_10_code
def yX4_readSign : MethodName := ⟨RX4, "readSign", "()V"⟩
abbrev cX4_readToken : ByteArray := prog_6_method_11_code
def yX4_readToken : MethodName := ⟨RX4, "readToken", "()V"⟩
abbrev cX4_readLump : ByteArray := prog_6_method_12_code
def yX4_readLump : MethodName := ⟨RX4, "readLump", "()V"⟩
abbrev cX4_isWord : ByteArray := prog_6_method_13_code
def yX4_isWord : MethodName := ⟨RX4, "isWord", "(Ljava/lang/String;)Z"⟩
abbrev cX4_isBlank : ByteArray := prog_6_method_14_code
def yX4_isBlank : MethodName := ⟨RX4, "isBlank", "(I)Z"⟩
def RX5 : String := "CardLoops"
def TX5 : u_T := fun k => match k with
  | 0 => ("CardLoops", "tape", "[I", true)
  | 1 => ("CardLoops", "tapeLength", "I", false)
  | 2 => ("CardLoops", "plan", "LCardLoops$Plan;", true)
  | 3 => ("CardLoops", "reader", "LCardLoops$Reader;", true)
  | 4 => ("CardLoops", "line", "LCardLoops$Line;", true)
  | 5 => ("CardLoops", "trial", "LCardLoops$Line;", true)
  | 6 => ("CardLoops", "trialCards", "[I", true)
  | 7 => ("CardLoops", "finder", "LCardLoops$PaceFinder;", true)
  | 8 => ("CardLoops", "history", "LCardLoops$History;", true)
  | 9 => ("CardLoops", "knownParts", "[I", true)
  | _ => ("CardLoops", "knownMinutes", "[I", true)
def tyX5 : Nat → FieldType := fun k => match k with
  | 0 => .array .int
  | 1 => .int
  | 2 => .object "CardLoops$Plan"
  | 3 => .object "CardLoops$Reader"
  | 4 => .object "CardLoops$Line"
  | 5 => .object "CardLoops$Line"
  | 6 => .array .int
  | 7 => .object "CardLoops$PaceFinder"
  | 8 => .object "CardLoops$History"
  | 9 => .array .int
  | _ => .array .int
abbrev wsX50 : List Cond := u_ws RX5 TX5 11
theorem nmX5 : ∀ a, a < 11 → ∀ b, b < 11 → a ≠ b → (TX5 a).2.1 ≠ (TX5 b).2.1 := by decide +kernel
theorem tyX5_ok : ∀ k, k < 11 → parseFieldDescriptor (TX5 k).2.2.1 = some (tyX5 k) := by decide +kernel
abbrev cX5_init : ByteArray := prog_1_method_1_code
def yX5_init : MethodName := ⟨RX5, "<init>", "()V"⟩
abbrev cX5_feed : ByteArray := prog_1_method_2_code
def yX5_feed : MethodName := ⟨RX5, "feed", "(IIIII)I"⟩
abbrev cX5_putBytes : ByteArray := prog_1_method_3_code
def yX5_putBytes : MethodName := ⟨RX5, "putBytes", "(I)V"⟩
abbrev cX5_end : ByteArray := prog_1_method_4_code
def yX5_end : MethodName := ⟨RX5, "end", "(I)Z"⟩
abbrev cX5_text : ByteArray := prog_1_method_5_code
def yX5_text : MethodName := ⟨RX5, "text", "()I"⟩
abbrev cX5_fault : ByteArray := prog_1_method_6_code
def yX5_fault : MethodName := ⟨RX5, "fault", "()I"⟩
abbrev cX5_now : ByteArray := prog_1_method_7_code
def yX5_now : MethodName := ⟨RX5, "now", "(I)I"⟩
abbrev cX5_station : ByteArray := prog_1_method_8_code
def yX5_station : MethodName := ⟨RX5, "station", "(II)I"⟩
abbrev cX5_waits : ByteArray := prog_1_method_9_code
def yX5_waits : MethodName := ⟨RX5, "waits", "(II)I"⟩
abbrev cX5_loop : ByteArray := prog_1_method_10_code
def yX5_loop : MethodName := ⟨RX5, "loop", "(II)I"⟩
abbrev cX5_next : ByteArray := prog_1_method_11_code
def yX5_next : MethodName := ⟨RX5, "next", "(I)I"⟩
abbrev cX5_when : ByteArray := prog_1_method_12_code
def yX5_when : MethodName := ⟨RX5, "when", "(II)I"⟩
abbrev cX5_pace : ByteArray := prog_1_method_13_code
def yX5_pace : MethodName := ⟨RX5, "pace", "(I)I"⟩
abbrev cX5_bound : ByteArray := prog_1_method_14_code
def yX5_bound : MethodName := ⟨RX5, "bound", "(I)I"⟩
abbrev cX5_needs : ByteArray := prog_1_method_15_code
def yX5_needs : MethodName := ⟨RX5, "needs", "(III)I"⟩
abbrev cX5_least : ByteArray := prog_1_method_16_code
def yX5_least : MethodName := ⟨RX5, "least", "(III)I"⟩
abbrev cX5_longer : ByteArray := prog_1_method_17_code
def yX5_longer : MethodName := ⟨RX5, "longer", "(II)I"⟩
abbrev cX5_longest : ByteArray := prog_1_method_18_code
def yX5_longest : MethodName := ⟨RX5, "longest", "()I"⟩
abbrev cX5_pass : ByteArray := prog_1_method_19_code
def yX5_pass : MethodName := ⟨RX5, "pass", "(I)I"⟩
abbrev cX5_step : ByteArray := prog_1_method_20_code
def yX5_step : MethodName := ⟨RX5, "step", "()I"⟩
abbrev cX5_cards : ByteArray := prog_1_method_21_code
def yX5_cards : MethodName := ⟨RX5, "cards", "(II)I"⟩
abbrev cX5_anew : ByteArray := prog_1_method_22_code
def yX5_anew : MethodName := ⟨RX5, "anew", "()I"⟩
abbrev cX5_undo : ByteArray := prog_1_method_23_code
def yX5_undo : MethodName := ⟨RX5, "undo", "()I"⟩
abbrev cX5_isEmpty : ByteArray := prog_1_method_24_code
def yX5_isEmpty : MethodName := ⟨RX5, "isEmpty", "()Z"⟩
abbrev cX5_isLoop : ByteArray := prog_1_method_25_code
def yX5_isLoop : MethodName := ⟨RX5, "isLoop", "(I)Z"⟩
abbrev cX5_isPromise : ByteArray := prog_1_method_26_code
def yX5_isPromise : MethodName := ⟨RX5, "isPromise", "(II)Z"⟩
abbrev cX5_forgetPaces : ByteArray := prog_1_method_27_code
def yX5_forgetPaces : MethodName := ⟨RX5, "forgetPaces", "()V"⟩
abbrev cX5_learnPace : ByteArray := prog_1_method_28_code
def yX5_learnPace : MethodName := ⟨RX5, "learnPace", "(I)V"⟩
abbrev cX5_paceBy : ByteArray := prog_1_method_29_code
def yX5_paceBy : MethodName := ⟨RX5, "paceBy", "(II)I"⟩
abbrev cX5_isQuicker : ByteArray := prog_1_method_30_code
def yX5_isQuicker : MethodName := ⟨RX5, "isQuicker", "(II)Z"⟩
abbrev cX5_ringMinutes : ByteArray := prog_1_method_31_code
def yX5_ringMinutes : MethodName := ⟨RX5, "ringMinutes", "(I)I"⟩
abbrev cX5_ringCards : ByteArray := prog_1_method_32_code
def yX5_ringCards : MethodName := ⟨RX5, "ringCards", "(I[I)I"⟩
abbrev cX5_tightRing : ByteArray := prog_1_method_33_code
def yX5_tightRing : MethodName := ⟨RX5, "tightRing", "()I"⟩
abbrev cX5_isForbidden : ByteArray := prog_1_method_34_code
def yX5_isForbidden : MethodName := ⟨RX5, "isForbidden", "([III)Z"⟩
abbrev cX5_reaches : ByteArray := prog_1_method_35_code
def yX5_reaches : MethodName := ⟨RX5, "reaches", "([III)Z"⟩
abbrev cX5_commonDivisor : ByteArray := prog_1_method_36_code
def yX5_commonDivisor : MethodName := ⟨RX5, "commonDivisor", "(II)I"⟩
def RX6 : String := "CardLoopsModel"
def TX6 : u_T := fun k => match k with
  | 0 => ("CardLoopsModel", "thrown", "I", false)
  | 1 => ("CardLoopsModel", "tape", "[I", true)
  | 2 => ("CardLoopsModel", "taped", "I", false)
  | 3 => ("CardLoopsModel", "size", "I", false)
  | 4 => ("CardLoopsModel", "to", "I", false)
  | 5 => ("CardLoopsModel", "from", "I", false)
  | 6 => ("CardLoopsModel", "sort", "I", false)
  | 7 => ("CardLoopsModel", "number", "I", false)
  | 8 => ("CardLoopsModel", "fault", "I", false)
  | 9 => ("CardLoopsModel", "place", "I", false)
  | 10 => ("CardLoopsModel", "word", "J", false)
  | 11 => ("CardLoopsModel", "now", "[I", true)
  | 12 => ("CardLoopsModel", "read", "[I", true)
  | 13 => ("CardLoopsModel", "paper", "[I", true)
  | 14 => ("CardLoopsModel", "snaps", "[I", true)
  | 15 => ("CardLoopsModel", "snapMany", "I", false)
  | 16 => ("CardLoopsModel", "met", "[I", true)
  | 17 => ("CardLoopsModel", "metAt", "[I", true)
  | 18 => ("CardLoopsModel", "metSum", "[J", true)
  | 19 => ("CardLoopsModel", "paceParts", "I", false)
  | 20 => ("CardLoopsModel", "paceMinutes", "I", false)
  | _ => ("CardLoopsModel", "laid", "I", false)
def tyX6 : Nat → FieldType := fun k => match k with
  | 0 => .int
  | 1 => .array .int
  | 2 => .int
  | 3 => .int
  | 4 => .int
  | 5 => .int
  | 6 => .int
  | 7 => .int
  | 8 => .int
  | 9 => .int
  | 10 => .long
  | 11 => .array .int
  | 12 => .array .int
  | 13 => .array .int
  | 14 => .array .int
  | 15 => .int
  | 16 => .array .int
  | 17 => .array .int
  | 18 => .array .long
  | 19 => .int
  | 20 => .int
  | _ => .int
abbrev wsX60 : List Cond := u_ws RX6 TX6 22
theorem nmX6 : ∀ a, a < 22 → ∀ b, b < 22 → a ≠ b → (TX6 a).2.1 ≠ (TX6 b).2.1 := by decide +kernel
theorem tyX6_ok : ∀ k, k < 22 → parseFieldDescriptor (TX6 k).2.2.1 = some (tyX6 k) := by decide +kernel
abbrev cX6_thrown : ByteArray := prog_8_method_1_code
def yX6_thrown : MethodName := ⟨RX6, "thrown", "()I"⟩
abbrev cX6_refuse : ByteArray := prog_8_method_2_code
def yX6_refuse : MethodName := ⟨RX6, "refuse", "()I"⟩
abbrev cX6_isIn : ByteArray := prog_8_method_3_code
def yX6_isIn : MethodName := ⟨RX6, "isIn", "(III)Z"⟩
abbrev cX6_divisor : ByteArray := prog_8_method_4_code
def yX6_divisor : MethodName := ⟨RX6, "divisor", "(II)I"⟩
abbrev cX6_lays : ByteArray := prog_8_method_5_code
def yX6_lays : MethodName := ⟨RX6, "lays", "(I)V"⟩
abbrev cX6_feed : ByteArray := prog_8_method_6_code
def yX6_feed : MethodName := ⟨RX6, "feed", "(IIIII)I"⟩
abbrev cX6_end : ByteArray := prog_8_method_7_code
def yX6_end : MethodName := ⟨RX6, "end", "(I)Z"⟩
abbrev cX6_tapeAt : ByteArray := prog_8_method_8_code
def yX6_tapeAt : MethodName := ⟨RX6, "tapeAt", "(I)I"⟩
abbrev cX6_isDigit : ByteArray := prog_8_method_9_code
def yX6_isDigit : MethodName := ⟨RX6, "isDigit", "(I)Z"⟩
abbrev cX6_isLetter : ByteArray := prog_8_method_10_code
def yX6_isLetter : MethodName := ⟨RX6, "isLetter", "(I)Z"⟩
abbrev cX6_go : ByteArray := prog_8_method_11_code
def yX6_go : MethodName := ⟨RX6, "go", "()V"⟩
abbrev cX6_four : ByteArray := prog_8_method_12_code
def yX6_four : MethodName := ⟨RX6, "four", "(IIII)J"⟩
abbrev cX6_isWord : ByteArray := prog_8_method_13_code
def yX6_isWord : MethodName := ⟨RX6, "isWord", "(J)Z"⟩
abbrev cX6_isWorks : ByteArray := prog_8_method_14_code
def yX6_isWorks : MethodName := ⟨RX6, "isWorks", "()Z"⟩
abbrev cX6_isStationWord : ByteArray := prog_8_method_15_code
def yX6_isStationWord : MethodName := ⟨RX6, "isStationWord", "()Z"⟩
abbrev cX6_bad : ByteArray := prog_8_method_16_code
def yX6_bad : MethodName := ⟨RX6, "bad", "(I)Z"⟩
abbrev cX6_init : ByteArray := prog_8_method_17_code
def yX6_init : MethodName := ⟨RX6, "<init>", "()V"⟩
abbrev cX6_copy : ByteArray := prog_8_method_18_code
def yX6_copy : MethodName := ⟨RX6, "copy", "([II[II)V"⟩
abbrev cX6_clears : ByteArray := prog_8_method_19_code
def yX6_clears : MethodName := ⟨RX6, "clears", "([I)V"⟩
abbrev cX6_told : ByteArray := prog_8_method_20_code
def yX6_told : MethodName := ⟨RX6, "told", "(III)Z"⟩
abbrev cX6_readWorks : ByteArray := prog_8_method_21_code
def yX6_readWorks : MethodName := ⟨RX6, "readWorks", "()Z"⟩
abbrev cX6_readStation : ByteArray := prog_8_method_22_code
def yX6_readStation : MethodName := ⟨RX6, "readStation", "()Z"⟩
abbrev cX6_readLoop : ByteArray := prog_8_method_23_code
def yX6_readLoop : MethodName := ⟨RX6, "readLoop", "()Z"⟩
abbrev cX6_readRun : ByteArray := prog_8_method_24_code
def yX6_readRun : MethodName := ⟨RX6, "readRun", "()Z"⟩
abbrev cX6_readLine : ByteArray := prog_8_method_25_code
def yX6_readLine : MethodName := ⟨RX6, "readLine", "()Z"⟩
abbrev cX6_readEnd : ByteArray := prog_8_method_26_code
def yX6_readEnd : MethodName := ⟨RX6, "readEnd", "()Z"⟩
abbrev cX6_text : ByteArray := prog_8_method_27_code
def yX6_text : MethodName := ⟨RX6, "text", "()I"⟩
abbrev cX6_fault : ByteArray := prog_8_method_28_code
def yX6_fault : MethodName := ⟨RX6, "fault", "()I"⟩
abbrev cX6_perRound : ByteArray := prog_8_method_29_code
def yX6_perRound : MethodName := ⟨RX6, "perRound", "([I)I"⟩
abbrev cX6_kindOf : ByteArray := prog_8_method_30_code
def yX6_kindOf : MethodName := ⟨RX6, "kindOf", "([II)I"⟩
abbrev cX6_its : ByteArray := prog_8_method_31_code
def yX6_its : MethodName := ⟨RX6, "its", "([III)I"⟩
abbrev cX6_isIdle : ByteArray := prog_8_method_32_code
def yX6_isIdle : MethodName := ⟨RX6, "isIdle", "([II)Z"⟩
abbrev cX6_waiting : ByteArray := prog_8_method_33_code
def yX6_waiting : MethodName := ⟨RX6, "waiting", "([II)I"⟩
abbrev cX6_goesOn : ByteArray := prog_8_method_34_code
def yX6_goesOn : MethodName := ⟨RX6, "goesOn", "([II)I"⟩
abbrev cX6_hasCards : ByteArray := prog_8_method_35_code
def yX6_hasCards : MethodName := ⟨RX6, "hasCards", "([II)Z"⟩
abbrev cX6_tries : ByteArray := prog_8_method_36_code
def yX6_tries : MethodName := ⟨RX6, "tries", "([II)V"⟩
abbrev cX6_rounds : ByteArray := prog_8_method_37_code
def yX6_rounds : MethodName := ⟨RX6, "rounds", "([I)I"⟩
abbrev cX6_begins : ByteArray := prog_8_method_38_code
def yX6_begins : MethodName := ⟨RX6, "begins", "([I)V"⟩
abbrev cX6_doing : ByteArray := prog_8_method_39_code
def yX6_doing : MethodName := ⟨RX6, "doing", "([II)I"⟩
abbrev cX6_waits : ByteArray := prog_8_method_40_code
def yX6_waits : MethodName := ⟨RX6, "waits", "([II)V"⟩
abbrev cX6_nextTime : ByteArray := prog_8_method_41_code
def yX6_nextTime : MethodName := ⟨RX6, "nextTime", "([I)I"⟩
abbrev cX6_steps : ByteArray := prog_8_method_42_code
def yX6_steps : MethodName := ⟨RX6, "steps", "([I)I"⟩
abbrev cX6_isThere : ByteArray := prog_8_method_43_code
def yX6_isThere : MethodName := ⟨RX6, "isThere", "()Z"⟩
abbrev cX6_isLoop : ByteArray := prog_8_method_44_code
def yX6_isLoop : MethodName := ⟨RX6, "isLoop", "(I)Z"⟩
abbrev cX6_now : ByteArray := prog_8_method_45_code
def yX6_now : MethodName := ⟨RX6, "now", "(I)I"⟩
abbrev cX6_station : ByteArray := prog_8_method_46_code
def yX6_station : MethodName := ⟨RX6, "station", "(II)I"⟩
abbrev cX6_waits_ : ByteArray := prog_8_method_47_code
def yX6_waits_ : MethodName := ⟨RX6, "waits", "(II)I"⟩
abbrev cX6_loop : ByteArray := prog_8_method_48_code
def yX6_loop : MethodName := ⟨RX6, "loop", "(II)I"⟩
abbrev cX6_next : ByteArray := prog_8_method_49_code
def yX6_next : MethodName := ⟨RX6, "next", "(I)I"⟩
abbrev cX6_when : ByteArray := prog_8_method_50_code
def yX6_when : MethodName := ⟨RX6, "when", "(II)I"⟩
abbrev cX6_lays_ : ByteArray := prog_8_method_51_code
def yX6_lays_ : MethodName := ⟨RX6, "lays", "(II)V"⟩
abbrev cX6_meets : ByteArray := prog_8_method_52_code
def yX6_meets : MethodName := ⟨RX6, "meets", "([II)V"⟩
abbrev cX6_isMet : ByteArray := prog_8_method_53_code
def yX6_isMet : MethodName := ⟨RX6, "isMet", "(II)Z"⟩
abbrev cX6_laysPace : ByteArray := prog_8_method_54_code
def yX6_laysPace : MethodName := ⟨RX6, "laysPace", "()Z"⟩
abbrev cX6_pace : ByteArray := prog_8_method_55_code
def yX6_pace : MethodName := ⟨RX6, "pace", "(I)I"⟩
abbrev cX6_ringOf : ByteArray := prog_8_method_56_code
def yX6_ringOf : MethodName := ⟨RX6, "ringOf", "(I)I"⟩
abbrev cX6_bound : ByteArray := prog_8_method_57_code
def yX6_bound : MethodName := ⟨RX6, "bound", "(I)I"⟩
abbrev cX6_needs : ByteArray := prog_8_method_58_code
def yX6_needs : MethodName := ⟨RX6, "needs", "(III)I"⟩
abbrev cX6_least : ByteArray := prog_8_method_59_code
def yX6_least : MethodName := ⟨RX6, "least", "(III)I"⟩
abbrev cX6_laysLonger : ByteArray := prog_8_method_60_code
def yX6_laysLonger : MethodName := ⟨RX6, "laysLonger", "(I)Z"⟩
abbrev cX6_longer : ByteArray := prog_8_method_61_code
def yX6_longer : MethodName := ⟨RX6, "longer", "(II)I"⟩
abbrev cX6_longest : ByteArray := prog_8_method_62_code
def yX6_longest : MethodName := ⟨RX6, "longest", "()I"⟩
abbrev cX6_snap : ByteArray := prog_8_method_63_code
def yX6_snap : MethodName := ⟨RX6, "snap", "()V"⟩
abbrev cX6_pass : ByteArray := prog_8_method_64_code
def yX6_pass : MethodName := ⟨RX6, "pass", "(I)I"⟩
abbrev cX6_step : ByteArray := prog_8_method_65_code
def yX6_step : MethodName := ⟨RX6, "step", "()I"⟩
abbrev cX6_cards : ByteArray := prog_8_method_66_code
def yX6_cards : MethodName := ⟨RX6, "cards", "(II)I"⟩
abbrev cX6_anew : ByteArray := prog_8_method_67_code
def yX6_anew : MethodName := ⟨RX6, "anew", "()I"⟩
abbrev cX6_undo : ByteArray := prog_8_method_68_code
def yX6_undo : MethodName := ⟨RX6, "undo", "()I"⟩
def RJx145de : String := "java/io/Serializable"
def TJx145de : u_T := fun k => match k with
  | _ => ("", "", "", false)
def tyJx145de : Nat → FieldType := fun k => match k with
  | _ => .int
abbrev wsJx145de0 : List Cond := u_ws RJx145de TJx145de 0
theorem nmJx145de : ∀ a, a < 0 → ∀ b, b < 0 → a ≠ b → (TJx145de a).2.1 ≠ (TJx145de b).2.1 := by decide +kernel
theorem tyJx145de_ok : ∀ k, k < 0 → parseFieldDescriptor (TJx145de k).2.2.1 = some (tyJx145de k) := by decide +kernel
def RJx9f9b0 : String := "java/lang/CharSequence"
def TJx9f9b0 : u_T := fun k => match k with
  | _ => ("", "", "", false)
def tyJx9f9b0 : Nat → FieldType := fun k => match k with
  | _ => .int
abbrev wsJx9f9b00 : List Cond := u_ws RJx9f9b0 TJx9f9b0 0
theorem nmJx9f9b0 : ∀ a, a < 0 → ∀ b, b < 0 → a ≠ b → (TJx9f9b0 a).2.1 ≠ (TJx9f9b0 b).2.1 := by decide +kernel
theorem tyJx9f9b0_ok : ∀ k, k < 0 → parseFieldDescriptor (TJx9f9b0 k).2.2.1 = some (tyJx9f9b0 k) := by decide +kernel
def RJxb160c : String := "java/lang/Comparable"
def TJxb160c : u_T := fun k => match k with
  | _ => ("", "", "", false)
def tyJxb160c : Nat → FieldType := fun k => match k with
  | _ => .int
abbrev wsJxb160c0 : List Cond := u_ws RJxb160c TJxb160c 0
theorem nmJxb160c : ∀ a, a < 0 → ∀ b, b < 0 → a ≠ b → (TJxb160c a).2.1 ≠ (TJxb160c b).2.1 := by decide +kernel
theorem tyJxb160c_ok : ∀ k, k < 0 → parseFieldDescriptor (TJxb160c k).2.2.1 = some (tyJxb160c k) := by decide +kernel
def RJ9 : String := "java/lang/Math"
def TJ9 : u_T := fun k => match k with
  | _ => ("", "", "", false)
def tyJ9 : Nat → FieldType := fun k => match k with
  | _ => .int
abbrev wsJ90 : List Cond := u_ws RJ9 TJ9 0
theorem nmJ9 : ∀ a, a < 0 → ∀ b, b < 0 → a ≠ b → (TJ9 a).2.1 ≠ (TJ9 b).2.1 := by decide +kernel
theorem tyJ9_ok : ∀ k, k < 0 → parseFieldDescriptor (TJ9 k).2.2.1 = some (tyJ9 k) := by decide +kernel
abbrev cJ9_max_7cf53 : ByteArray := prog_13_method_65_code
def yJ9_max_7cf53 : MethodName := ⟨RJ9, "max", "(II)I"⟩
abbrev cJ9_min_7cf53 : ByteArray := prog_13_method_69_code
def yJ9_min_7cf53 : MethodName := ⟨RJ9, "min", "(II)I"⟩
def RJ0 : String := "java/lang/String"
def TJ0 : u_T := fun k => match k with
  | _ => ("", "", "", false)
def tyJ0 : Nat → FieldType := fun k => match k with
  | _ => .int
abbrev wsJ00 : List Cond := u_ws RJ0 TJ0 0
theorem nmJ0 : ∀ a, a < 0 → ∀ b, b < 0 → a ≠ b → (TJ0 a).2.1 ≠ (TJ0 b).2.1 := by decide +kernel
theorem tyJ0_ok : ∀ k, k < 0 → parseFieldDescriptor (TJ0 k).2.2.1 = some (tyJ0 k) := by decide +kernel
abbrev cJ0_length_8abf5 : ByteArray := prog_15_method_54_code
def yJ0_length_8abf5 : MethodName := ⟨RJ0, "length", "()I"⟩
abbrev cJ0_charAt_5068e : ByteArray := prog_15_method_56_code
def yJ0_charAt_5068e : MethodName := ⟨RJ0, "charAt", "(I)C"⟩
abbrev cJ0_coder_7d493 : ByteArray := prog_15_method_152_code
def yJ0_coder_7d493 : MethodName := ⟨RJ0, "coder", "()B"⟩
abbrev cJ0_isLatin1_aae02 : ByteArray := prog_15_method_154_code
def yJ0_isLatin1_aae02 : MethodName := ⟨RJ0, "isLatin1", "()Z"⟩
abbrev cJ0_checkIndex_df160 : ByteArray := prog_15_method_155_code
def yJ0_checkIndex_df160 : MethodName := ⟨RJ0, "checkIndex", "(II)V"⟩
def RJ1 : String := "java/lang/StringLatin1"
def TJ1 : u_T := fun k => match k with
  | _ => ("", "", "", false)
def tyJ1 : Nat → FieldType := fun k => match k with
  | _ => .int
abbrev wsJ10 : List Cond := u_ws RJ1 TJ1 0
theorem nmJ1 : ∀ a, a < 0 → ∀ b, b < 0 → a ≠ b → (TJ1 a).2.1 ≠ (TJ1 b).2.1 := by decide +kernel
theorem tyJ1_ok : ∀ k, k < 0 → parseFieldDescriptor (TJ1 k).2.2.1 = some (tyJ1 k) := by decide +kernel
abbrev cJ1_charAt_3b067 : ByteArray := prog_16_method_2_code
def yJ1_charAt_3b067 : MethodName := ⟨RJ1, "charAt", "([BI)C"⟩
def RJ2 : String := "java/lang/StringUTF16"
def TJ2 : u_T := fun k => match k with
  | _ => ("", "", "", false)
def tyJ2 : Nat → FieldType := fun k => match k with
  | _ => .int
abbrev wsJ20 : List Cond := u_ws RJ2 TJ2 0
theorem nmJ2 : ∀ a, a < 0 → ∀ b, b < 0 → a ≠ b → (TJ2 a).2.1 ≠ (TJ2 b).2.1 := by decide +kernel
theorem tyJ2_ok : ∀ k, k < 0 → parseFieldDescriptor (TJ2 k).2.2.1 = some (tyJ2 k) := by decide +kernel
abbrev cJ2_getChar_3b067 : ByteArray := prog_17_method_5_code
def yJ2_getChar_3b067 : MethodName := ⟨RJ2, "getChar", "([BI)C"⟩
abbrev cJ2_length_9d52b : ByteArray := prog_17_method_6_code
def yJ2_length_9d52b : MethodName := ⟨RJ2, "length", "([B)I"⟩
abbrev cJ2_charAt_3b067 : ByteArray := prog_17_method_83_code
def yJ2_charAt_3b067 : MethodName := ⟨RJ2, "charAt", "([BI)C"⟩
abbrev cJ2_checkIndex_2214a : ByteArray := prog_17_method_91_code
def yJ2_checkIndex_2214a : MethodName := ⟨RJ2, "checkIndex", "(I[B)V"⟩
def RJ10 : String := "java/lang/System"
def TJ10 : u_T := fun k => match k with
  | _ => ("", "", "", false)
def tyJ10 : Nat → FieldType := fun k => match k with
  | _ => .int
abbrev wsJ100 : List Cond := u_ws RJ10 TJ10 0
theorem nmJ10 : ∀ a, a < 0 → ∀ b, b < 0 → a ≠ b → (TJ10 a).2.1 ≠ (TJ10 b).2.1 := by decide +kernel
theorem tyJ10_ok : ∀ k, k < 0 → parseFieldDescriptor (TJ10 k).2.2.1 = some (tyJ10 k) := by decide +kernel
def RJxfd54e : String := "java/lang/constant/Constable"
def TJxfd54e : u_T := fun k => match k with
  | _ => ("", "", "", false)
def tyJxfd54e : Nat → FieldType := fun k => match k with
  | _ => .int
abbrev wsJxfd54e0 : List Cond := u_ws RJxfd54e TJxfd54e 0
theorem nmJxfd54e : ∀ a, a < 0 → ∀ b, b < 0 → a ≠ b → (TJxfd54e a).2.1 ≠ (TJxfd54e b).2.1 := by decide +kernel
theorem tyJxfd54e_ok : ∀ k, k < 0 → parseFieldDescriptor (TJxfd54e k).2.2.1 = some (tyJxfd54e k) := by decide +kernel
def RJx3cf43 : String := "java/lang/constant/ConstantDesc"
def TJx3cf43 : u_T := fun k => match k with
  | _ => ("", "", "", false)
def tyJx3cf43 : Nat → FieldType := fun k => match k with
  | _ => .int
abbrev wsJx3cf430 : List Cond := u_ws RJx3cf43 TJx3cf43 0
theorem nmJx3cf43 : ∀ a, a < 0 → ∀ b, b < 0 → a ≠ b → (TJx3cf43 a).2.1 ≠ (TJx3cf43 b).2.1 := by decide +kernel
theorem tyJx3cf43_ok : ∀ k, k < 0 → parseFieldDescriptor (TJx3cf43 k).2.2.1 = some (tyJx3cf43 k) := by decide +kernel
def RJ7 : String := "java/util/Arrays"
def TJ7 : u_T := fun k => match k with
  | _ => ("", "", "", false)
def tyJ7 : Nat → FieldType := fun k => match k with
  | _ => .int
abbrev wsJ70 : List Cond := u_ws RJ7 TJ7 0
theorem nmJ7 : ∀ a, a < 0 → ∀ b, b < 0 → a ≠ b → (TJ7 a).2.1 ≠ (TJ7 b).2.1 := by decide +kernel
theorem tyJ7_ok : ∀ k, k < 0 → parseFieldDescriptor (TJ7 k).2.2.1 = some (tyJ7 k) := by decide +kernel
abbrev cJ7_fill_53178 : ByteArray := prog_22_method_103_code
def yJ7_fill_53178 : MethodName := ⟨RJ7, "fill", "([II)V"⟩
def RJ3 : String := "jdk/internal/util/Preconditions"
def TJ3 : u_T := fun k => match k with
  | _ => ("", "", "", false)
def tyJ3 : Nat → FieldType := fun k => match k with
  | _ => .int
abbrev wsJ30 : List Cond := u_ws RJ3 TJ3 0
theorem nmJ3 : ∀ a, a < 0 → ∀ b, b < 0 → a ≠ b → (TJ3 a).2.1 ≠ (TJ3 b).2.1 := by decide +kernel
theorem tyJ3_ok : ∀ k, k < 0 → parseFieldDescriptor (TJ3 k).2.2.1 = some (tyJ3 k) := by decide +kernel
abbrev cJ3_checkIndex_8e157 : ByteArray := prog_24_method_11_code
def yJ3_checkIndex_8e157 : MethodName := ⟨RJ3, "checkIndex", "(IILjava/util/function/BiFunction;)I"⟩
def RL : String := "CardLoopsLaw"
abbrev cL_station : ByteArray := method_3_code
def yL_station : MethodName := ⟨RL, "station", "(LCardLoops;II[J)I"⟩
abbrev cL_law : ByteArray := code
def yL_law : MethodName := ⟨RL, "law", "([I)Z"⟩
abbrev vwCl : List vw_C := [(RX0, TX0, 3), (RX1, TX1, 11), (RX2, TX2, 8), (RX3, TX3, 10), (RX4, TX4, 8), (RX5, TX5, 11), (RX6, TX6, 22)]
def wsL_law0_r1 : List Cond := [Cond.classLink RL 8 RX5, Cond.instantiable RX5 11, Cond.initialized RX5, Cond.classLink RL 16 RX6, Cond.instantiable RX6 22, Cond.initialized RX6, Cond.arrayClass .long, Cond.methodLink RL 15 yX5_init, Cond.instanceMethod yX5_init, Cond.code yX5_init cX5_init 4 none, Cond.methodLink RX5 3 objectInit, Cond.instanceMethod objectInit, Cond.code objectInit ⟨#[0xb1]⟩ 1 none, Cond.fieldLink RX5 9 "CardLoops" "tapeLength" "I", Cond.arrayClass .int, Cond.fieldLink RX5 13 "CardLoops" "trialCards" "[I", Cond.fieldLink RX5 17 "CardLoops" "knownParts" "[I", Cond.fieldLink RX5 20 "CardLoops" "knownMinutes" "[I", Cond.classLink RX5 23 RX3, Cond.instantiable RX3 10, Cond.initialized RX3, Cond.classLink RX5 26 RX1, Cond.instantiable RX1 11, Cond.initialized RX1]
def wsL_law0_r2 : List Cond := [Cond.fieldLink RX5 31 "CardLoops" "tape" "[I", Cond.fieldLink RX5 34 "CardLoops" "plan" "LCardLoops$Plan;", Cond.classLink RX5 38 RX4, Cond.instantiable RX4 8, Cond.initialized RX4, Cond.fieldLink RX5 43 "CardLoops" "reader" "LCardLoops$Reader;", Cond.fieldLink RX5 47 "CardLoops" "line" "LCardLoops$Line;", Cond.fieldLink RX5 51 "CardLoops" "trial" "LCardLoops$Line;", Cond.classLink RX5 54 RX2, Cond.instantiable RX2 8, Cond.initialized RX2, Cond.fieldLink RX5 59 "CardLoops" "finder" "LCardLoops$PaceFinder;", Cond.classLink RX5 63 RX0, Cond.instantiable RX0 3, Cond.initialized RX0, Cond.fieldLink RX5 66 "CardLoops" "history" "LCardLoops$History;", Cond.instanceMethod yX3_init, Cond.code yX3_init cX3_init 1 none, Cond.methodLink RX3 3 objectInit, Cond.fieldLink RX3 9 "CardLoops$Plan" "times" "[I", Cond.fieldLink RX3 15 "CardLoops$Plan" "setups" "[I", Cond.fieldLink RX3 18 "CardLoops$Plan" "from" "[I", Cond.fieldLink RX3 21 "CardLoops$Plan" "to" "[I", Cond.fieldLink RX3 24 "CardLoops$Plan" "toldCards" "[I"]
def wsL_law0_r3 : List Cond := [Cond.fieldLink RX3 27 "CardLoops$Plan" "kinds" "[I", Cond.fieldLink RX3 30 "CardLoops$Plan" "stations" "I", Cond.fieldLink RX3 34 "CardLoops$Plan" "loops" "I", Cond.fieldLink RX3 37 "CardLoops$Plan" "runs" "I", Cond.fieldLink RX3 40 "CardLoops$Plan" "places" "I", Cond.methodLink RX5 28 yX1_init, Cond.instanceMethod yX1_init, Cond.code yX1_init cX1_init 2 none, Cond.methodLink RX1 3 objectInit, Cond.fieldLink RX1 9 "CardLoops$Line" "begun" "[I", Cond.fieldLink RX1 15 "CardLoops$Line" "through" "[I", Cond.fieldLink RX1 18 "CardLoops$Line" "ends" "[I", Cond.fieldLink RX1 21 "CardLoops$Line" "cardsOf" "[I", Cond.fieldLink RX1 24 "CardLoops$Line" "births" "[I", Cond.fieldLink RX1 27 "CardLoops$Line" "minutes" "[I", Cond.fieldLink RX1 30 "CardLoops$Line" "factor" "I", Cond.fieldLink RX1 34 "CardLoops$Line" "time" "I", Cond.fieldLink RX1 37 "CardLoops$Line" "latestLead" "I", Cond.fieldLink RX1 40 "CardLoops$Line" "longestLead" "I", Cond.fieldLink RX1 43 "CardLoops$Line" "plan" "LCardLoops$Plan;", Cond.methodLink RX5 40 yX4_init, Cond.instanceMethod yX4_init, Cond.code yX4_init cX4_init 2 none, Cond.methodLink RX4 3 objectInit]
def wsL_law0_r4 : List Cond := [Cond.classLink RX4 9 RX3, Cond.fieldLink RX4 12 "CardLoops$Reader" "draft" "LCardLoops$Plan;", Cond.fieldLink RX4 18 "CardLoops$Reader" "length" "I", Cond.fieldLink RX4 22 "CardLoops$Reader" "faultKind" "I", Cond.fieldLink RX4 25 "CardLoops$Reader" "faultPlace" "I", Cond.fieldLink RX4 28 "CardLoops$Reader" "at" "I", Cond.fieldLink RX4 31 "CardLoops$Reader" "tokenSort" "I", Cond.fieldLink RX4 34 "CardLoops$Reader" "tokenStart" "I", Cond.fieldLink RX4 37 "CardLoops$Reader" "tape" "[I", Cond.methodLink RX5 56 yX2_init, Cond.instanceMethod yX2_init, Cond.code yX2_init cX2_init 2 none, Cond.methodLink RX2 3 objectInit, Cond.fieldLink RX2 9 "CardLoops$PaceFinder" "busy" "[J", Cond.fieldLink RX2 15 "CardLoops$PaceFinder" "queues" "[I", Cond.fieldLink RX2 19 "CardLoops$PaceFinder" "times" "[I", Cond.fieldLink RX2 22 "CardLoops$PaceFinder" "heads" "[I", Cond.fieldLink RX2 25 "CardLoops$PaceFinder" "chain" "[I", Cond.fieldLink RX2 28 "CardLoops$PaceFinder" "parts" "I", Cond.fieldLink RX2 32 "CardLoops$PaceFinder" "minutes" "I", Cond.fieldLink RX2 35 "CardLoops$PaceFinder" "trial" "LCardLoops$Line;", Cond.methodLink RX5 65 yX0_init, Cond.instanceMethod yX0_init, Cond.code yX0_init cX0_init 3 none]
def wsL_law0_r5 : List Cond := [Cond.methodLink RX0 3 objectInit, Cond.classLink RX0 9 RX1, Cond.fieldLink RX0 11 "CardLoops$History" "kept" "[LCardLoops$Line;", Cond.fieldLink RX0 17 "CardLoops$History" "count" "I", Cond.fieldLink RX0 21 "CardLoops$History" "top" "I", Cond.methodLink RX0 24 yX1_init, Cond.methodLink RL 18 yX6_init, Cond.instanceMethod yX6_init, Cond.code yX6_init cX6_init 1 none, Cond.methodLink RX6 78 objectInit, Cond.fieldLink RX6 11 "CardLoopsModel" "tape" "[I", Cond.fieldLink RX6 84 "CardLoopsModel" "now" "[I", Cond.fieldLink RX6 87 "CardLoopsModel" "read" "[I", Cond.fieldLink RX6 90 "CardLoopsModel" "paper" "[I", Cond.fieldLink RX6 93 "CardLoopsModel" "snaps" "[I", Cond.constant RX6 96 (87000), Cond.fieldLink RX6 97 "CardLoopsModel" "met" "[I", Cond.fieldLink RX6 100 "CardLoopsModel" "metAt" "[I", Cond.fieldLink RX6 103 "CardLoopsModel" "metSum" "[J", Cond.methodLink RX6 107 yX6_clears, Cond.static yX6_clears, Cond.code yX6_clears cX6_clears 2 none, Cond.methodLink RL 19 yX5_feed, Cond.instanceMethod yX5_feed]
def wsL_law0_r6 : List Cond := [Cond.selects RX5 yX5_feed yX5_feed, Cond.code yX5_feed cX5_feed 6 (some .int), Cond.methodLink RX5 70 yX5_putBytes, Cond.instanceMethod yX5_putBytes, Cond.selects RX5 yX5_putBytes yX5_putBytes, Cond.code yX5_putBytes cX5_putBytes 3 none, Cond.methodLink RL 23 yX6_feed, Cond.instanceMethod yX6_feed, Cond.selects RX6 yX6_feed yX6_feed, Cond.code yX6_feed cX6_feed 6 (some .int), Cond.fieldLink RX6 1 "CardLoopsModel" "thrown" "I", Cond.fieldLink RX6 15 "CardLoopsModel" "taped" "I", Cond.methodLink RX6 18 yX6_lays, Cond.instanceMethod yX6_lays, Cond.selects RX6 yX6_lays yX6_lays, Cond.code yX6_lays cX6_lays 3 none, Cond.methodLink RL 24 yX5_end, Cond.instanceMethod yX5_end, Cond.selects RX5 yX5_end yX5_end, Cond.code yX5_end cX5_end 2 (some .boolean), Cond.methodLink RL 28 yX6_end, Cond.instanceMethod yX6_end, Cond.selects RX6 yX6_end yX6_end, Cond.code yX6_end cX6_end 2 (some .boolean)]
def wsL_law0_r7 : List Cond := [Cond.methodLink RL 29 yX5_text, Cond.instanceMethod yX5_text, Cond.selects RX5 yX5_text yX5_text, Cond.code yX5_text cX5_text 2 (some .int), Cond.fieldLink RX5 78 "CardLoops$Reader" "draft" "LCardLoops$Plan;", Cond.fieldLink RX5 84 "CardLoops$Plan" "toldCards" "[I", Cond.methodLink RX5 74 yX4_read, Cond.instanceMethod yX4_read, Cond.selects RX4 yX4_read yX4_read, Cond.code yX4_read cX4_read 3 (some .int), Cond.methodLink RX4 41 Lib.Math.min.name, Cond.static Lib.Math.min.name, Cond.initialized "java/lang/Math", Cond.code Lib.Math.min.name Lib.Math.min.code 2 (some .int), Cond.fieldLink RX4 57 "CardLoops$Plan" "stations" "I", Cond.methodLink RX4 47 yX3_clear, Cond.instanceMethod yX3_clear, Cond.selects RX3 yX3_clear yX3_clear, Cond.code yX3_clear cX3_clear 1 none, Cond.methodLink RX4 50 yX4_readToken, Cond.instanceMethod yX4_readToken, Cond.selects RX4 yX4_readToken yX4_readToken, Cond.code yX4_readToken cX4_readToken 1 none, Cond.methodLink RX4 111 yX4_isBlank]
def wsL_law0_r8 : List Cond := [Cond.static yX4_isBlank, Cond.code yX4_isBlank cX4_isBlank 1 (some .boolean), Cond.methodLink RX4 115 yX4_readLump, Cond.instanceMethod yX4_readLump, Cond.selects RX4 yX4_readLump yX4_readLump, Cond.code yX4_readLump cX4_readLump 4 none, Cond.methodLink RX4 53 yX4_readLine, Cond.instanceMethod yX4_readLine, Cond.selects RX4 yX4_readLine yX4_readLine, Cond.code yX4_readLine cX4_readLine 2 none, Cond.methodLink RX4 66 yX4_isWord, Cond.instanceMethod yX4_isWord, Cond.selects RX4 yX4_isWord yX4_isWord, Cond.code yX4_isWord cX4_isWord 3 (some .boolean), Cond.methodLink RX4 118 yJ0_length_8abf5, Cond.instanceMethod yJ0_length_8abf5, Cond.selects RJ0 yJ0_length_8abf5 yJ0_length_8abf5, Cond.initialized RJ0, Cond.code yJ0_length_8abf5 cJ0_length_8abf5 1 (some .int), Cond.fieldLink RJ0 9 "java/lang/String" "value" "[B", Cond.methodLink RJ0 335 yJ0_coder_7d493, Cond.instanceMethod yJ0_coder_7d493, Cond.selects RJ0 yJ0_coder_7d493 yJ0_coder_7d493, Cond.code yJ0_coder_7d493 cJ0_coder_7d493 1 (some .byte)]
def wsL_law0_r9 : List Cond := [Cond.fieldLink RJ0 38 "java/lang/String" "COMPACT_STRINGS" "Z", Cond.fieldLink RJ0 15 "java/lang/String" "coder" "B", Cond.methodLink RX4 123 yJ0_charAt_5068e, Cond.instanceMethod yJ0_charAt_5068e, Cond.selects RJ0 yJ0_charAt_5068e yJ0_charAt_5068e, Cond.code yJ0_charAt_5068e cJ0_charAt_5068e 2 (some .char), Cond.methodLink RJ0 492 yJ0_isLatin1_aae02, Cond.instanceMethod yJ0_isLatin1_aae02, Cond.selects RJ0 yJ0_isLatin1_aae02 yJ0_isLatin1_aae02, Cond.code yJ0_isLatin1_aae02 cJ0_isLatin1_aae02 1 (some .boolean), Cond.methodLink RJ0 495 yJ1_charAt_3b067, Cond.static yJ1_charAt_3b067, Cond.initialized RJ1, Cond.code yJ1_charAt_3b067 cJ1_charAt_3b067 2 (some .char), Cond.methodLink RJ1 9 yJ0_checkIndex_df160, Cond.static yJ0_checkIndex_df160, Cond.code yJ0_checkIndex_df160 cJ0_checkIndex_df160 2 none, Cond.fieldLink RJ0 1053 "jdk/internal/util/Preconditions" "SIOOBE_FORMATTER" "Ljava/util/function/BiFunction;", Cond.methodLink RJ0 1059 yJ3_checkIndex_8e157, Cond.static yJ3_checkIndex_8e157, Cond.initialized RJ3, Cond.code yJ3_checkIndex_8e157 cJ3_checkIndex_8e157 3 (some .int), Cond.methodLink RJ0 498 yJ2_charAt_3b067, Cond.static yJ2_charAt_3b067]
def wsL_law0_r10 : List Cond := [Cond.initialized RJ2, Cond.code yJ2_charAt_3b067 cJ2_charAt_3b067 2 (some .char), Cond.methodLink RJ2 67 yJ2_checkIndex_2214a, Cond.static yJ2_checkIndex_2214a, Cond.code yJ2_checkIndex_2214a cJ2_checkIndex_2214a 2 none, Cond.methodLink RJ2 48 yJ2_length_9d52b, Cond.static yJ2_length_9d52b, Cond.code yJ2_length_9d52b cJ2_length_9d52b 1 (some .int), Cond.methodLink RJ2 414 yJ0_checkIndex_df160, Cond.methodLink RJ2 71 yJ2_getChar_3b067, Cond.static yJ2_getChar_3b067, Cond.code yJ2_getChar_3b067 cJ2_getChar_3b067 2 (some .char), Cond.fieldLink RJ2 44 "java/lang/StringUTF16" "$assertionsDisabled" "Z", Cond.fieldLink RJ2 59 "java/lang/StringUTF16" "HI_BYTE_SHIFT" "I", Cond.fieldLink RJ2 63 "java/lang/StringUTF16" "LO_BYTE_SHIFT" "I", Cond.methodLink RX4 70 yX4_readWorks, Cond.instanceMethod yX4_readWorks, Cond.selects RX4 yX4_readWorks yX4_readWorks, Cond.code yX4_readWorks cX4_readWorks 2 none, Cond.methodLink RX4 88 yX4_readNumber, Cond.instanceMethod yX4_readNumber, Cond.selects RX4 yX4_readNumber yX4_readNumber, Cond.code yX4_readNumber cX4_readNumber 5 (some .int), Cond.methodLink RX4 60 yX4_fail]
def wsL_law0_r11 : List Cond := [Cond.instanceMethod yX4_fail, Cond.selects RX4 yX4_fail yX4_fail, Cond.code yX4_fail cX4_fail 2 none, Cond.methodLink RX4 91 yX4_readSign, Cond.instanceMethod yX4_readSign, Cond.selects RX4 yX4_readSign yX4_readSign, Cond.code yX4_readSign cX4_readSign 1 none, Cond.methodLink RX4 94 yX3_addLoop, Cond.instanceMethod yX3_addLoop, Cond.selects RX3 yX3_addLoop yX3_addLoop, Cond.code yX3_addLoop cX3_addLoop 4 none, Cond.methodLink RX4 75 yX4_readStation, Cond.instanceMethod yX4_readStation, Cond.selects RX4 yX4_readStation yX4_readStation, Cond.code yX4_readStation cX4_readStation 3 none, Cond.methodLink RX4 98 yX3_addStation, Cond.instanceMethod yX3_addStation, Cond.selects RX3 yX3_addStation yX3_addStation, Cond.code yX3_addStation cX3_addStation 3 none, Cond.methodLink RX4 80 yX4_readLoop, Cond.instanceMethod yX4_readLoop, Cond.selects RX4 yX4_readLoop yX4_readLoop, Cond.code yX4_readLoop cX4_readLoop 4 none, Cond.fieldLink RX4 102 "CardLoops$Plan" "loops" "I"]
def wsL_law0_r12 : List Cond := [Cond.methodLink RX4 85 yX4_readRun, Cond.instanceMethod yX4_readRun, Cond.selects RX4 yX4_readRun yX4_readRun, Cond.code yX4_readRun cX4_readRun 3 none, Cond.fieldLink RX4 105 "CardLoops$Plan" "runs" "I", Cond.methodLink RX4 108 yX3_addRun, Cond.instanceMethod yX3_addRun, Cond.selects RX3 yX3_addRun yX3_addRun, Cond.code yX3_addRun cX3_addRun 4 none, Cond.methodLink RX5 81 yX3_copyFrom, Cond.instanceMethod yX3_copyFrom, Cond.selects RX3 yX3_copyFrom yX3_copyFrom, Cond.code yX3_copyFrom cX3_copyFrom 2 none, Cond.methodLink RX3 43 arraycopyName, Cond.native arraycopyName, Cond.static arraycopyName, Cond.initialized "java/lang/System", Cond.methodLink RX5 87 yX1_startAnew, Cond.instanceMethod yX1_startAnew, Cond.selects RX1 yX1_startAnew yX1_startAnew, Cond.code yX1_startAnew cX1_startAnew 3 none, Cond.methodLink RX1 47 arraycopyName, Cond.methodLink RX1 53 yJ7_fill_53178, Cond.static yJ7_fill_53178]
def wsL_law0_r13 : List Cond := [Cond.initialized RJ7, Cond.code yJ7_fill_53178 cJ7_fill_53178 4 none, Cond.methodLink RX1 59 yX1_round, Cond.instanceMethod yX1_round, Cond.selects RX1 yX1_round yX1_round, Cond.code yX1_round cX1_round 2 none, Cond.fieldLink RX1 62 "CardLoops$Plan" "stations" "I", Cond.methodLink RX1 83 yX1_isIdle, Cond.instanceMethod yX1_isIdle, Cond.selects RX1 yX1_isIdle yX1_isIdle, Cond.code yX1_isIdle cX1_isIdle 2 (some .boolean), Cond.methodLink RX1 100 yX1_finish, Cond.instanceMethod yX1_finish, Cond.selects RX1 yX1_finish yX1_finish, Cond.code yX1_finish cX1_finish 3 none, Cond.methodLink RX1 110 Lib.Math.max.name, Cond.static Lib.Math.max.name, Cond.code Lib.Math.max.name Lib.Math.max.code 2 (some .int), Cond.methodLink RX1 104 yX1_canBegin, Cond.instanceMethod yX1_canBegin, Cond.selects RX1 yX1_canBegin yX1_canBegin, Cond.code yX1_canBegin cX1_canBegin 3 (some .boolean), Cond.fieldLink RX1 116 "CardLoops$Plan" "loops" "I", Cond.fieldLink RX1 71 "CardLoops$Plan" "from" "[I"]
def wsL_law0_r14 : List Cond := [Cond.methodLink RX1 97 yX1_waiting, Cond.instanceMethod yX1_waiting, Cond.selects RX1 yX1_waiting yX1_waiting, Cond.code yX1_waiting cX1_waiting 2 (some .int), Cond.methodLink RX1 119 yX1_free, Cond.instanceMethod yX1_free, Cond.selects RX1 yX1_free yX1_free, Cond.code yX1_free cX1_free 2 (some .int), Cond.fieldLink RX1 74 "CardLoops$Plan" "to" "[I", Cond.methodLink RX1 107 yX1_begin, Cond.instanceMethod yX1_begin, Cond.selects RX1 yX1_begin yX1_begin, Cond.code yX1_begin cX1_begin 4 none, Cond.fieldLink RX1 122 "CardLoops$Plan" "setups" "[I", Cond.fieldLink RX1 91 "CardLoops$Plan" "times" "[I", Cond.methodLink RX1 87 yX1_kindOf, Cond.instanceMethod yX1_kindOf, Cond.selects RX1 yX1_kindOf yX1_kindOf, Cond.code yX1_kindOf cX1_kindOf 2 (some .int), Cond.fieldLink RX1 77 "CardLoops$Plan" "places" "I", Cond.fieldLink RX1 80 "CardLoops$Plan" "kinds" "[I", Cond.methodLink RX5 91 yX0_clear, Cond.instanceMethod yX0_clear, Cond.selects RX0 yX0_clear yX0_clear]
def wsL_law0_r15 : List Cond := [Cond.code yX0_clear cX0_clear 1 none, Cond.methodLink RX5 94 yX5_forgetPaces, Cond.instanceMethod yX5_forgetPaces, Cond.selects RX5 yX5_forgetPaces yX5_forgetPaces, Cond.code yX5_forgetPaces cX5_forgetPaces 1 none, Cond.methodLink RX5 245 yJ7_fill_53178, Cond.methodLink RL 33 yX6_text, Cond.instanceMethod yX6_text, Cond.selects RX6 yX6_text yX6_text, Cond.code yX6_text cX6_text 3 (some .int), Cond.fieldLink RX6 22 "CardLoopsModel" "size" "I", Cond.fieldLink RX6 72 "CardLoopsModel" "fault" "I", Cond.fieldLink RX6 25 "CardLoopsModel" "to" "I", Cond.fieldLink RX6 31 "CardLoopsModel" "sort" "I", Cond.fieldLink RX6 75 "CardLoopsModel" "place" "I", Cond.fieldLink RX6 158 "CardLoopsModel" "snapMany" "I", Cond.methodLink RX6 118 yX6_go, Cond.instanceMethod yX6_go, Cond.selects RX6 yX6_go yX6_go, Cond.code yX6_go cX6_go 5 none, Cond.fieldLink RX6 28 "CardLoopsModel" "from" "I", Cond.fieldLink RX6 41 "CardLoopsModel" "word" "J", Cond.fieldLink RX6 45 "CardLoopsModel" "number" "I", Cond.constantLong RX6 52 (27)]
def wsL_law0_r16 : List Cond := [Cond.constantLong RX6 54 (96), Cond.methodLink RX6 34 yX6_isLetter, Cond.static yX6_isLetter, Cond.code yX6_isLetter cX6_isLetter 1 (some .boolean), Cond.methodLink RX6 38 yX6_isDigit, Cond.static yX6_isDigit, Cond.code yX6_isDigit cX6_isDigit 1 (some .boolean), Cond.methodLink RX6 48 yX6_tapeAt, Cond.instanceMethod yX6_tapeAt, Cond.selects RX6 yX6_tapeAt yX6_tapeAt, Cond.code yX6_tapeAt cX6_tapeAt 2 (some .int), Cond.methodLink RX6 145 yX6_readLine, Cond.instanceMethod yX6_readLine, Cond.selects RX6 yX6_readLine yX6_readLine, Cond.code yX6_readLine cX6_readLine 1 (some .boolean), Cond.constantLong RX6 140 (13703), Cond.methodLink RX6 124 yX6_isWorks, Cond.instanceMethod yX6_isWorks, Cond.selects RX6 yX6_isWorks yX6_isWorks, Cond.code yX6_isWorks cX6_isWorks 1 (some .boolean), Cond.constantLong RX6 60 (19), Cond.methodLink RX6 56 yX6_four, Cond.static yX6_four, Cond.code yX6_four cX6_four 4 (some .long)]
def wsL_law0_r17 : List Cond := [Cond.methodLink RX6 62 yX6_isWord, Cond.instanceMethod yX6_isWord, Cond.selects RX6 yX6_isWord yX6_isWord, Cond.code yX6_isWord cX6_isWord 3 (some .boolean), Cond.methodLink RX6 128 yX6_readWorks, Cond.instanceMethod yX6_readWorks, Cond.selects RX6 yX6_readWorks yX6_readWorks, Cond.code yX6_readWorks cX6_readWorks 1 (some .boolean), Cond.methodLink RX6 121 yX6_told, Cond.instanceMethod yX6_told, Cond.selects RX6 yX6_told yX6_told, Cond.code yX6_told cX6_told 4 (some .boolean), Cond.methodLink RX6 111 yX6_bad, Cond.instanceMethod yX6_bad, Cond.selects RX6 yX6_bad yX6_bad, Cond.code yX6_bad cX6_bad 2 (some .boolean), Cond.methodLink RX6 114 yX6_isIn, Cond.static yX6_isIn, Cond.code yX6_isIn cX6_isIn 3 (some .boolean), Cond.methodLink RX6 131 yX6_isStationWord, Cond.instanceMethod yX6_isStationWord, Cond.selects RX6 yX6_isStationWord yX6_isStationWord, Cond.code yX6_isStationWord cX6_isStationWord 1 (some .boolean), Cond.constantLong RX6 66 (9)]
def wsL_law0_r18 : List Cond := [Cond.constantLong RX6 68 (15), Cond.constantLong RX6 70 (14), Cond.methodLink RX6 134 yX6_readStation, Cond.instanceMethod yX6_readStation, Cond.selects RX6 yX6_readStation yX6_readStation, Cond.code yX6_readStation cX6_readStation 2 (some .boolean), Cond.methodLink RX6 137 yX6_readLoop, Cond.instanceMethod yX6_readLoop, Cond.selects RX6 yX6_readLoop yX6_readLoop, Cond.code yX6_readLoop cX6_readLoop 2 (some .boolean), Cond.methodLink RX6 142 yX6_readRun, Cond.instanceMethod yX6_readRun, Cond.selects RX6 yX6_readRun yX6_readRun, Cond.code yX6_readRun cX6_readRun 2 (some .boolean), Cond.methodLink RX6 148 yX6_readEnd, Cond.instanceMethod yX6_readEnd, Cond.selects RX6 yX6_readEnd yX6_readEnd, Cond.code yX6_readEnd cX6_readEnd 1 (some .boolean), Cond.methodLink RX6 151 yX6_begins, Cond.static yX6_begins, Cond.code yX6_begins cX6_begins 1 none, Cond.methodLink RX6 190 yX6_rounds, Cond.static yX6_rounds, Cond.code yX6_rounds cX6_rounds 3 (some .int)]
def wsL_law0_r19 : List Cond := [Cond.methodLink RX6 169 yX6_isIdle, Cond.static yX6_isIdle, Cond.code yX6_isIdle cX6_isIdle 2 (some .boolean), Cond.methodLink RX6 165 yX6_its, Cond.static yX6_its, Cond.code yX6_its cX6_its 3 (some .int), Cond.methodLink RX6 183 yX6_goesOn, Cond.static yX6_goesOn, Cond.code yX6_goesOn cX6_goesOn 5 (some .int), Cond.methodLink RX6 186 yX6_tries, Cond.static yX6_tries, Cond.code yX6_tries cX6_tries 6 none, Cond.methodLink RX6 173 yX6_waiting, Cond.static yX6_waiting, Cond.code yX6_waiting cX6_waiting 2 (some .int), Cond.methodLink RX6 177 yX6_hasCards, Cond.static yX6_hasCards, Cond.code yX6_hasCards cX6_hasCards 3 (some .boolean), Cond.methodLink RX6 180 yX6_kindOf, Cond.static yX6_kindOf, Cond.code yX6_kindOf cX6_kindOf 4 (some .int), Cond.methodLink RX6 161 yX6_perRound, Cond.static yX6_perRound, Cond.code yX6_perRound cX6_perRound 3 (some .int)]
def wsL_law0_r20 : List Cond := [Cond.methodLink RX6 154 yX6_copy, Cond.static yX6_copy, Cond.code yX6_copy cX6_copy 5 none, Cond.methodLink RL 34 yX5_fault, Cond.instanceMethod yX5_fault, Cond.selects RX5 yX5_fault yX5_fault, Cond.code yX5_fault cX5_fault 1 (some .int), Cond.fieldLink RX5 97 "CardLoops$Reader" "faultKind" "I", Cond.methodLink RL 37 yX6_fault, Cond.instanceMethod yX6_fault, Cond.selects RX6 yX6_fault yX6_fault, Cond.code yX6_fault cX6_fault 1 (some .int), Cond.methodLink RL 38 yX5_now, Cond.instanceMethod yX5_now, Cond.selects RX5 yX5_now yX5_now, Cond.code yX5_now cX5_now 2 (some .int), Cond.fieldLink RX5 100 "CardLoops$Plan" "stations" "I", Cond.fieldLink RX5 103 "CardLoops$Plan" "loops" "I", Cond.fieldLink RX5 106 "CardLoops$Plan" "runs" "I", Cond.fieldLink RX5 109 "CardLoops$Line" "time" "I", Cond.fieldLink RX5 119 "CardLoops$Line" "latestLead" "I", Cond.fieldLink RX5 122 "CardLoops$Line" "longestLead" "I", Cond.fieldLink RX5 125 "CardLoops$History" "count" "I", Cond.methodLink RX5 112 yX1_out]
def wsL_law0_r21 : List Cond := [Cond.instanceMethod yX1_out, Cond.selects RX1 yX1_out yX1_out, Cond.code yX1_out cX1_out 1 (some .int), Cond.methodLink RX5 116 yX1_onTheirWay, Cond.instanceMethod yX1_onTheirWay, Cond.selects RX1 yX1_onTheirWay yX1_onTheirWay, Cond.code yX1_onTheirWay cX1_onTheirWay 1 (some .int), Cond.methodLink RX1 67 yX1_out, Cond.methodLink RL 42 yX6_now, Cond.instanceMethod yX6_now, Cond.selects RX6 yX6_now yX6_now, Cond.code yX6_now cX6_now 2 (some .int), Cond.methodLink RL 43 yL_station, Cond.static yL_station, Cond.initialized RL, Cond.codeWith yL_station cL_station 5 (some .int) [(0, 10, 13, 13)], Cond.classLink RL 13 "java/util/NoSuchElementException", Cond.methodLink RL 7 yX5_station, Cond.instanceMethod yX5_station, Cond.selects RX5 yX5_station yX5_station, Cond.code yX5_station cX5_station 3 (some .int), Cond.classLink RX5 128 "java/util/NoSuchElementException", Cond.initialized "java/util/NoSuchElementException", Cond.fieldLink RX5 135 "CardLoops$Plan" "times" "[I"]
def wsL_law0_r22 : List Cond := [Cond.fieldLink RX5 138 "CardLoops$Plan" "setups" "[I", Cond.fieldLink RX5 154 "CardLoops$Line" "ends" "[I", Cond.fieldLink RX5 157 "CardLoops$Line" "minutes" "[I", Cond.methodLink RX5 141 yX1_stateOf, Cond.instanceMethod yX1_stateOf, Cond.selects RX1 yX1_stateOf yX1_stateOf, Cond.code yX1_stateOf cX1_stateOf 2 (some .int), Cond.methodLink RX1 94 yX1_setUpAt, Cond.instanceMethod yX1_setUpAt, Cond.selects RX1 yX1_setUpAt yX1_setUpAt, Cond.code yX1_setUpAt cX1_setUpAt 2 (some .int), Cond.methodLink RX5 144 yX1_kindAt, Cond.instanceMethod yX1_kindAt, Cond.selects RX1 yX1_kindAt yX1_kindAt, Cond.code yX1_kindAt cX1_kindAt 2 (some .int), Cond.methodLink RX5 147 yX1_waiting, Cond.methodLink RX5 150 yX1_isIdle, Cond.methodLink RL 48 yX6_station, Cond.instanceMethod yX6_station, Cond.selects RX6 yX6_station yX6_station, Cond.code yX6_station cX6_station 3 (some .int), Cond.methodLink RX6 202 yX6_refuse, Cond.instanceMethod yX6_refuse, Cond.selects RX6 yX6_refuse yX6_refuse]
def wsL_law0_r23 : List Cond := [Cond.code yX6_refuse cX6_refuse 1 (some .int), Cond.methodLink RX6 193 yX6_doing, Cond.static yX6_doing, Cond.code yX6_doing cX6_doing 2 (some .int), Cond.methodLink RL 49 yX6_thrown, Cond.instanceMethod yX6_thrown, Cond.selects RX6 yX6_thrown yX6_thrown, Cond.code yX6_thrown cX6_thrown 1 (some .int), Cond.methodLink RL 52 yX5_waits, Cond.instanceMethod yX5_waits, Cond.selects RX5 yX5_waits yX5_waits, Cond.code yX5_waits cX5_waits 3 (some .int), Cond.fieldLink RX5 162 "CardLoops$Line" "begun" "[I", Cond.methodLink RX5 165 yX1_kindOf, Cond.methodLink RL 55 yX6_waits_, Cond.instanceMethod yX6_waits_, Cond.selects RX6 yX6_waits_ yX6_waits_, Cond.code yX6_waits_ cX6_waits_ 3 (some .int), Cond.methodLink RL 56 yX5_loop, Cond.instanceMethod yX5_loop, Cond.selects RX5 yX5_loop yX5_loop, Cond.code yX5_loop cX5_loop 3 (some .int), Cond.fieldLink RX5 171 "CardLoops$Plan" "from" "[I", Cond.fieldLink RX5 174 "CardLoops$Plan" "to" "[I"]
def wsL_law0_r24 : List Cond := [Cond.fieldLink RX5 177 "CardLoops$Line" "cardsOf" "[I", Cond.methodLink RX5 168 yX5_isLoop, Cond.instanceMethod yX5_isLoop, Cond.selects RX5 yX5_isLoop yX5_isLoop, Cond.code yX5_isLoop cX5_isLoop 2 (some .boolean), Cond.methodLink RX5 180 yX1_free, Cond.methodLink RL 59 yX6_loop, Cond.instanceMethod yX6_loop, Cond.selects RX6 yX6_loop yX6_loop, Cond.code yX6_loop cX6_loop 3 (some .int), Cond.methodLink RX6 206 yX6_isLoop, Cond.instanceMethod yX6_isLoop, Cond.selects RX6 yX6_isLoop yX6_isLoop, Cond.code yX6_isLoop cX6_isLoop 2 (some .boolean), Cond.methodLink RL 60 yX5_next, Cond.instanceMethod yX5_next, Cond.selects RX5 yX5_next yX5_next, Cond.code yX5_next cX5_next 2 (some .int), Cond.methodLink RX5 183 yX5_isEmpty, Cond.instanceMethod yX5_isEmpty, Cond.selects RX5 yX5_isEmpty yX5_isEmpty, Cond.code yX5_isEmpty cX5_isEmpty 1 (some .boolean), Cond.methodLink RL 63 yX6_next, Cond.instanceMethod yX6_next]
def wsL_law0_r25 : List Cond := [Cond.selects RX6 yX6_next yX6_next, Cond.code yX6_next cX6_next 2 (some .int), Cond.methodLink RX6 209 yX6_isThere, Cond.instanceMethod yX6_isThere, Cond.selects RX6 yX6_isThere yX6_isThere, Cond.code yX6_isThere cX6_isThere 1 (some .boolean), Cond.methodLink RL 64 yX5_when, Cond.instanceMethod yX5_when, Cond.selects RX5 yX5_when yX5_when, Cond.code yX5_when cX5_when 4 (some .int), Cond.methodLink RX5 187 yX1_copyFrom, Cond.instanceMethod yX1_copyFrom, Cond.selects RX1 yX1_copyFrom yX1_copyFrom, Cond.code yX1_copyFrom cX1_copyFrom 2 none, Cond.methodLink RX5 189 yX1_leapTillOut, Cond.instanceMethod yX1_leapTillOut, Cond.selects RX1 yX1_leapTillOut yX1_leapTillOut, Cond.code yX1_leapTillOut cX1_leapTillOut 3 none, Cond.constant RX1 126 (1000000), Cond.methodLink RX1 127 yX1_nextThrough, Cond.instanceMethod yX1_nextThrough, Cond.selects RX1 yX1_nextThrough yX1_nextThrough, Cond.code yX1_nextThrough cX1_nextThrough 3 (some .int), Cond.constant RX1 125 (2147483647)]
def wsL_law0_r26 : List Cond := [Cond.methodLink RL 67 yX6_when, Cond.instanceMethod yX6_when, Cond.selects RX6 yX6_when yX6_when, Cond.code yX6_when cX6_when 3 (some .int), Cond.methodLink RX6 212 yX6_steps, Cond.static yX6_steps, Cond.code yX6_steps cX6_steps 1 (some .int), Cond.methodLink RX6 196 yX6_nextTime, Cond.static yX6_nextTime, Cond.code yX6_nextTime cX6_nextTime 3 (some .int), Cond.methodLink RX6 199 yX6_waits, Cond.static yX6_waits, Cond.code yX6_waits cX6_waits 5 none, Cond.methodLink RL 68 yX5_pace, Cond.instanceMethod yX5_pace, Cond.selects RX5 yX5_pace yX5_pace, Cond.code yX5_pace cX5_pace 2 (some .int), Cond.methodLink RX5 192 yX5_paceBy, Cond.instanceMethod yX5_paceBy, Cond.selects RX5 yX5_paceBy yX5_paceBy, Cond.code yX5_paceBy cX5_paceBy 3 (some .int), Cond.methodLink RX5 223 yX5_learnPace, Cond.instanceMethod yX5_learnPace, Cond.selects RX5 yX5_learnPace yX5_learnPace]
def wsL_law0_r27 : List Cond := [Cond.code yX5_learnPace cX5_learnPace 2 none, Cond.fieldLink RX5 253 "CardLoops$PaceFinder" "parts" "I", Cond.fieldLink RX5 256 "CardLoops$PaceFinder" "minutes" "I", Cond.methodLink RX5 250 yX2_search, Cond.instanceMethod yX2_search, Cond.selects RX2 yX2_search yX2_search, Cond.code yX2_search cX2_search 6 none, Cond.methodLink RX2 39 yJ7_fill_53178, Cond.methodLink RX2 45 yX1_startAnew, Cond.methodLink RX2 50 yX1_leapTillOut, Cond.methodLink RX2 53 yX2_lookAround, Cond.instanceMethod yX2_lookAround, Cond.selects RX2 yX2_lookAround yX2_lookAround, Cond.code yX2_lookAround cX2_lookAround 7 none, Cond.fieldLink RX2 69 "CardLoops$Line" "plan" "LCardLoops$Plan;", Cond.fieldLink RX2 73 "CardLoops$Plan" "stations" "I", Cond.fieldLink RX2 82 "CardLoops$Line" "ends" "[I", Cond.fieldLink RX2 85 "CardLoops$Line" "time" "I", Cond.methodLink RX2 65 yX1_placeInRuns, Cond.instanceMethod yX1_placeInRuns, Cond.selects RX1 yX1_placeInRuns yX1_placeInRuns, Cond.code yX1_placeInRuns cX1_placeInRuns 2 (some .int), Cond.methodLink RX2 78 yX1_isIdle, Cond.methodLink RX2 88 yX1_waiting]
def wsL_law0_r28 : List Cond := [Cond.methodLink RX2 57 yX2_enter, Cond.instanceMethod yX2_enter, Cond.selects RX2 yX2_enter yX2_enter, Cond.code yX2_enter cX2_enter 7 (some .int), Cond.constantLong RX2 91 (-7046029254386353131), Cond.constantLong RX2 93 (-4417276706812531889), Cond.static yX5_commonDivisor, Cond.code yX5_commonDivisor cX5_commonDivisor 6 (some .int), Cond.methodLink RX5 261 Lib.Math.max.name, Cond.methodLink RL 71 yX6_pace, Cond.instanceMethod yX6_pace, Cond.selects RX6 yX6_pace yX6_pace, Cond.code yX6_pace cX6_pace 2 (some .int), Cond.fieldLink RX6 232 "CardLoopsModel" "paceParts" "I", Cond.fieldLink RX6 235 "CardLoopsModel" "paceMinutes" "I", Cond.methodLink RX6 238 yX6_laysPace, Cond.instanceMethod yX6_laysPace, Cond.selects RX6 yX6_laysPace yX6_laysPace, Cond.code yX6_laysPace cX6_laysPace 4 (some .boolean), Cond.methodLink RX6 225 yX6_meets, Cond.instanceMethod yX6_meets, Cond.selects RX6 yX6_meets yX6_meets, Cond.code yX6_meets cX6_meets 7 none, Cond.fieldLink RX6 215 "CardLoopsModel" "laid" "I"]
def wsL_law0_r29 : List Cond := [Cond.constantLong RX6 221 (7), Cond.constantLong RX6 223 (31), Cond.methodLink RX6 218 yX6_lays_, Cond.instanceMethod yX6_lays_, Cond.selects RX6 yX6_lays_ yX6_lays_, Cond.code yX6_lays_ cX6_lays_ 3 none, Cond.methodLink RX6 228 yX6_isMet, Cond.instanceMethod yX6_isMet, Cond.selects RX6 yX6_isMet yX6_isMet, Cond.code yX6_isMet cX6_isMet 4 (some .boolean), Cond.methodLink RX6 7 yX6_divisor, Cond.static yX6_divisor, Cond.code yX6_divisor cX6_divisor 2 (some .int), Cond.methodLink RL 72 yX5_bound, Cond.instanceMethod yX5_bound, Cond.selects RX5 yX5_bound yX5_bound, Cond.code yX5_bound cX5_bound 6 (some .int), Cond.methodLink RX5 196 yX5_tightRing, Cond.instanceMethod yX5_tightRing, Cond.selects RX5 yX5_tightRing yX5_tightRing, Cond.code yX5_tightRing cX5_tightRing 4 (some .int), Cond.methodLink RX5 203 yX5_ringMinutes, Cond.instanceMethod yX5_ringMinutes, Cond.selects RX5 yX5_ringMinutes yX5_ringMinutes]
def wsL_law0_r30 : List Cond := [Cond.code yX5_ringMinutes cX5_ringMinutes 4 (some .int), Cond.methodLink RX5 199 yX5_ringCards, Cond.instanceMethod yX5_ringCards, Cond.selects RX5 yX5_ringCards yX5_ringCards, Cond.code yX5_ringCards cX5_ringCards 3 (some .int), Cond.methodLink RX5 206 yX5_commonDivisor, Cond.methodLink RL 75 yX6_bound, Cond.instanceMethod yX6_bound, Cond.selects RX6 yX6_bound yX6_bound, Cond.code yX6_bound cX6_bound 9 (some .int), Cond.methodLink RX6 241 yX6_ringOf, Cond.instanceMethod yX6_ringOf, Cond.selects RX6 yX6_ringOf yX6_ringOf, Cond.code yX6_ringOf cX6_ringOf 4 (some .int), Cond.methodLink RL 76 yX5_needs, Cond.instanceMethod yX5_needs, Cond.selects RX5 yX5_needs yX5_needs, Cond.code yX5_needs cX5_needs 4 (some .int), Cond.methodLink RX5 209 yX5_isPromise, Cond.static yX5_isPromise, Cond.code yX5_isPromise cX5_isPromise 2 (some .boolean), Cond.methodLink RL 80 yX6_needs, Cond.instanceMethod yX6_needs, Cond.selects RX6 yX6_needs yX6_needs]
def wsL_law0_r31 : List Cond := [Cond.code yX6_needs cX6_needs 5 (some .int), Cond.methodLink RL 81 yX5_least, Cond.instanceMethod yX5_least, Cond.selects RX5 yX5_least yX5_least, Cond.code yX5_least cX5_least 5 (some .int), Cond.methodLink RX5 213 arraycopyName, Cond.methodLink RX5 219 yX5_reaches, Cond.instanceMethod yX5_reaches, Cond.selects RX5 yX5_reaches yX5_reaches, Cond.code yX5_reaches cX5_reaches 4 (some .boolean), Cond.methodLink RX5 258 yX5_isForbidden, Cond.instanceMethod yX5_isForbidden, Cond.selects RX5 yX5_isForbidden yX5_isForbidden, Cond.code yX5_isForbidden cX5_isForbidden 5 (some .boolean), Cond.methodLink RL 84 yX6_least, Cond.instanceMethod yX6_least, Cond.selects RX6 yX6_least yX6_least, Cond.code yX6_least cX6_least 5 (some .int), Cond.methodLink RL 85 yX5_longer, Cond.instanceMethod yX5_longer, Cond.selects RX5 yX5_longer yX5_longer, Cond.code yX5_longer cX5_longer 3 (some .int), Cond.methodLink RL 88 yX6_longer, Cond.instanceMethod yX6_longer]
def wsL_law0_r32 : List Cond := [Cond.selects RX6 yX6_longer yX6_longer, Cond.code yX6_longer cX6_longer 3 (some .int), Cond.methodLink RX6 244 yX6_laysLonger, Cond.instanceMethod yX6_laysLonger, Cond.selects RX6 yX6_laysLonger yX6_laysLonger, Cond.code yX6_laysLonger cX6_laysLonger 3 (some .boolean), Cond.methodLink RL 89 yX5_longest, Cond.instanceMethod yX5_longest, Cond.selects RX5 yX5_longest yX5_longest, Cond.code yX5_longest cX5_longest 3 (some .int), Cond.methodLink RX5 226 yX5_isQuicker, Cond.instanceMethod yX5_isQuicker, Cond.selects RX5 yX5_isQuicker yX5_isQuicker, Cond.code yX5_isQuicker cX5_isQuicker 3 (some .boolean), Cond.methodLink RL 92 yX6_longest, Cond.instanceMethod yX6_longest, Cond.selects RX6 yX6_longest yX6_longest, Cond.code yX6_longest cX6_longest 5 (some .int), Cond.methodLink RL 93 yX5_pass, Cond.instanceMethod yX5_pass, Cond.selects RX5 yX5_pass yX5_pass, Cond.code yX5_pass cX5_pass 3 (some .int), Cond.constant RX5 229 (99999), Cond.methodLink RX5 230 yX0_keep]
def wsL_law0_r33 : List Cond := [Cond.instanceMethod yX0_keep, Cond.selects RX0 yX0_keep yX0_keep, Cond.code yX0_keep cX0_keep 2 none, Cond.methodLink RX0 31 Lib.Math.min.name, Cond.methodLink RX0 27 yX1_copyFrom, Cond.methodLink RX5 233 yX1_moveTo, Cond.instanceMethod yX1_moveTo, Cond.selects RX1 yX1_moveTo yX1_moveTo, Cond.code yX1_moveTo cX1_moveTo 4 none, Cond.methodLink RX1 130 Lib.Math.min.name, Cond.methodLink RX1 133 yX1_countMinutes, Cond.instanceMethod yX1_countMinutes, Cond.selects RX1 yX1_countMinutes yX1_countMinutes, Cond.code yX1_countMinutes cX1_countMinutes 6 none, Cond.methodLink RX1 136 yX1_stateOf, Cond.methodLink RL 96 yX6_pass, Cond.instanceMethod yX6_pass, Cond.selects RX6 yX6_pass yX6_pass, Cond.code yX6_pass cX6_pass 4 (some .int), Cond.constant RX6 247 (99999), Cond.methodLink RX6 248 yX6_snap, Cond.instanceMethod yX6_snap, Cond.selects RX6 yX6_snap yX6_snap, Cond.code yX6_snap cX6_snap 2 none]
def wsL_law0_r34 : List Cond := [Cond.methodLink RL 97 yX5_step, Cond.instanceMethod yX5_step, Cond.selects RX5 yX5_step yX5_step, Cond.code yX5_step cX5_step 2 (some .int), Cond.methodLink RX5 236 yX1_nextThrough, Cond.methodLink RL 100 yX6_step, Cond.instanceMethod yX6_step, Cond.selects RX6 yX6_step yX6_step, Cond.code yX6_step cX6_step 1 (some .int), Cond.methodLink RL 101 yX5_cards, Cond.instanceMethod yX5_cards, Cond.selects RX5 yX5_cards yX5_cards, Cond.code yX5_cards cX5_cards 4 (some .int), Cond.methodLink RX5 239 yX1_round, Cond.methodLink RL 104 yX6_cards, Cond.instanceMethod yX6_cards, Cond.selects RX6 yX6_cards yX6_cards, Cond.code yX6_cards cX6_cards 4 (some .int), Cond.methodLink RL 105 yX5_anew, Cond.instanceMethod yX5_anew, Cond.selects RX5 yX5_anew yX5_anew, Cond.code yX5_anew cX5_anew 1 (some .int), Cond.methodLink RL 108 yX6_anew, Cond.instanceMethod yX6_anew]
def wsL_law0_r35 : List Cond := [Cond.selects RX6 yX6_anew yX6_anew, Cond.code yX6_anew cX6_anew 1 (some .int), Cond.methodLink RL 109 yX5_undo, Cond.instanceMethod yX5_undo, Cond.selects RX5 yX5_undo yX5_undo, Cond.code yX5_undo cX5_undo 1 (some .int), Cond.methodLink RX5 242 yX0_giveBack, Cond.instanceMethod yX0_giveBack, Cond.selects RX0 yX0_giveBack yX0_giveBack, Cond.code yX0_giveBack cX0_giveBack 2 none, Cond.methodLink RL 112 yX6_undo, Cond.instanceMethod yX6_undo, Cond.selects RX6 yX6_undo yX6_undo, Cond.code yX6_undo cX6_undo 1 (some .int)]
def wsL_law0 : List Cond := (wsL_law0_r1 ++ (wsL_law0_r2 ++ (wsL_law0_r3 ++ (wsL_law0_r4 ++ (wsL_law0_r5 ++ (wsL_law0_r6 ++ (wsL_law0_r7 ++ (wsL_law0_r8 ++ (wsL_law0_r9 ++ (wsL_law0_r10 ++ (wsL_law0_r11 ++ (wsL_law0_r12 ++ (wsL_law0_r13 ++ (wsL_law0_r14 ++ (wsL_law0_r15 ++ (wsL_law0_r16 ++ (wsL_law0_r17 ++ (wsL_law0_r18 ++ (wsL_law0_r19 ++ (wsL_law0_r20 ++ (wsL_law0_r21 ++ (wsL_law0_r22 ++ (wsL_law0_r23 ++ (wsL_law0_r24 ++ (wsL_law0_r25 ++ (wsL_law0_r26 ++ (wsL_law0_r27 ++ (wsL_law0_r28 ++ (wsL_law0_r29 ++ (wsL_law0_r30 ++ (wsL_law0_r31 ++ (wsL_law0_r32 ++ (wsL_law0_r33 ++ (wsL_law0_r34 ++ wsL_law0_r35)))))))))))))))))))))))))))))))))) ++ wsX50 ++ wsX60 ++ wsX30 ++ wsX10 ++ wsX40 ++ wsX20 ++ wsX00 ++ ([] : List Cond)
theorem mc {a w : Cond} {l : List Cond} (h : w ∈ l) : w ∈ a :: l := List.mem_cons_of_mem _ h
theorem mr1 : ∀ w ∈ wsL_law0_r1, w ∈ wsL_law0 := fun _ h => List.mem_append_left _ (List.mem_append_left _ (List.mem_append_left _ (List.mem_append_left _ (List.mem_append_left _ (List.mem_append_left _ (List.mem_append_left _ (List.mem_append_left _ (List.mem_append_left _ h))))))))
theorem mr2 : ∀ w ∈ wsL_law0_r2, w ∈ wsL_law0 := fun _ h => List.mem_append_left _ (List.mem_append_left _ (List.mem_append_left _ (List.mem_append_left _ (List.mem_append_left _ (List.mem_append_left _ (List.mem_append_left _ (List.mem_append_left _ (List.mem_append_right _ (List.mem_append_left _ h)))))))))
theorem mr3 : ∀ w ∈ wsL_law0_r3, w ∈ wsL_law0 := fun _ h => List.mem_append_left _ (List.mem_append_left _ (List.mem_append_left _ (List.mem_append_left _ (List.mem_append_left _ (List.mem_append_left _ (List.mem_append_left _ (List.mem_append_left _ (List.mem_append_right _ (List.mem_append_right _ (List.mem_append_left _ h))))))))))
theorem mr4 : ∀ w ∈ wsL_law0_r4, w ∈ wsL_law0 := fun _ h => List.mem_append_left _ (List.mem_append_left _ (List.mem_append_left _ (List.mem_append_left _ (List.mem_append_left _ (List.mem_append_left _ (List.mem_append_left _ (List.mem_append_left _ (List.mem_append_right _ (List.mem_append_right _ (List.mem_append_right _ (List.mem_append_left _ h)))))))))))
theorem mr5 : ∀ w ∈ wsL_law0_r5, w ∈ wsL_law0 := fun _ h => List.mem_append_left _ (List.mem_append_left _ (List.mem_append_left _ (List.mem_append_left _ (List.mem_append_left _ (List.mem_append_left _ (List.mem_append_left _ (List.mem_append_left _ (List.mem_append_right _ (List.mem_append_right _ (List.mem_append_right _ (List.mem_append_right _ (List.mem_append_left _ h))))))))))))
theorem mr6 : ∀ w ∈ wsL_law0_r6, w ∈ wsL_law0 := fun _ h => List.mem_append_left _ (List.mem_append_left _ (List.mem_append_left _ (List.mem_append_left _ (List.mem_append_left _ (List.mem_append_left _ (List.mem_append_left _ (List.mem_append_left _ (List.mem_append_right _ (List.mem_append_right _ (List.mem_append_right _ (List.mem_append_right _ (List.mem_append_right _ (List.mem_append_left _ h)))))))))))))
theorem mr7 : ∀ w ∈ wsL_law0_r7, w ∈ wsL_law0 := fun _ h => List.mem_append_left _ (List.mem_append_left _ (List.mem_append_left _ (List.mem_append_left _ (List.mem_append_left _ (List.mem_append_left _ (List.mem_append_left _ (List.mem_append_left _ (List.mem_append_right _ (List.mem_append_right _ (List.mem_append_right _ (List.mem_append_right _ (List.mem_append_right _ (List.mem_append_right _ (List.mem_append_left _ h))))))))))))))
theorem mr8 : ∀ w ∈ wsL_law0_r8, w ∈ wsL_law0 := fun _ h => List.mem_append_left _ (List.mem_append_left _ (List.mem_append_left _ (List.mem_append_left _ (List.mem_append_left _ (List.mem_append_left _ (List.mem_append_left _ (List.mem_append_left _ (List.mem_append_right _ (List.mem_append_right _ (List.mem_append_right _ (List.mem_append_right _ (List.mem_append_right _ (List.mem_append_right _ (List.mem_append_right _ (List.mem_append_left _ h)))))))))))))))
theorem mr9 : ∀ w ∈ wsL_law0_r9, w ∈ wsL_law0 := fun _ h => List.mem_append_left _ (List.mem_append_left _ (List.mem_append_left _ (List.mem_append_left _ (List.mem_append_left _ (List.mem_append_left _ (List.mem_append_left _ (List.mem_append_left _ (List.mem_append_right _ (List.mem_append_right _ (List.mem_append_right _ (List.mem_append_right _ (List.mem_append_right _ (List.mem_append_right _ (List.mem_append_right _ (List.mem_append_right _ (List.mem_append_left _ h))))))))))))))))
theorem mr10 : ∀ w ∈ wsL_law0_r10, w ∈ wsL_law0 := fun _ h => List.mem_append_left _ (List.mem_append_left _ (List.mem_append_left _ (List.mem_append_left _ (List.mem_append_left _ (List.mem_append_left _ (List.mem_append_left _ (List.mem_append_left _ (List.mem_append_right _ (List.mem_append_right _ (List.mem_append_right _ (List.mem_append_right _ (List.mem_append_right _ (List.mem_append_right _ (List.mem_append_right _ (List.mem_append_right _ (List.mem_append_right _ (List.mem_append_left _ h)))))))))))))))))
theorem mr11 : ∀ w ∈ wsL_law0_r11, w ∈ wsL_law0 := fun _ h => List.mem_append_left _ (List.mem_append_left _ (List.mem_append_left _ (List.mem_append_left _ (List.mem_append_left _ (List.mem_append_left _ (List.mem_append_left _ (List.mem_append_left _ (List.mem_append_right _ (List.mem_append_right _ (List.mem_append_right _ (List.mem_append_right _ (List.mem_append_right _ (List.mem_append_right _ (List.mem_append_right _ (List.mem_append_right _ (List.mem_append_right _ (List.mem_append_right _ (List.mem_append_left _ h))))))))))))))))))
theorem mr12 : ∀ w ∈ wsL_law0_r12, w ∈ wsL_law0 := fun _ h => List.mem_append_left _ (List.mem_append_left _ (List.mem_append_left _ (List.mem_append_left _ (List.mem_append_left _ (List.mem_append_left _ (List.mem_append_left _ (List.mem_append_left _ (List.mem_append_right _ (List.mem_append_right _ (List.mem_append_right _ (List.mem_append_right _ (List.mem_append_right _ (List.mem_append_right _ (List.mem_append_right _ (List.mem_append_right _ (List.mem_append_right _ (List.mem_append_right _ (List.mem_append_right _ (List.mem_append_left _ h)))))))))))))))))))
theorem mr13 : ∀ w ∈ wsL_law0_r13, w ∈ wsL_law0 := fun _ h => List.mem_append_left _ (List.mem_append_left _ (List.mem_append_left _ (List.mem_append_left _ (List.mem_append_left _ (List.mem_append_left _ (List.mem_append_left _ (List.mem_append_left _ (List.mem_append_right _ (List.mem_append_right _ (List.mem_append_right _ (List.mem_append_right _ (List.mem_append_right _ (List.mem_append_right _ (List.mem_append_right _ (List.mem_append_right _ (List.mem_append_right _ (List.mem_append_right _ (List.mem_append_right _ (List.mem_append_right _ (List.mem_append_left _ h))))))))))))))))))))
theorem mr14 : ∀ w ∈ wsL_law0_r14, w ∈ wsL_law0 := fun _ h => List.mem_append_left _ (List.mem_append_left _ (List.mem_append_left _ (List.mem_append_left _ (List.mem_append_left _ (List.mem_append_left _ (List.mem_append_left _ (List.mem_append_left _ (List.mem_append_right _ (List.mem_append_right _ (List.mem_append_right _ (List.mem_append_right _ (List.mem_append_right _ (List.mem_append_right _ (List.mem_append_right _ (List.mem_append_right _ (List.mem_append_right _ (List.mem_append_right _ (List.mem_append_right _ (List.mem_append_right _ (List.mem_append_right _ (List.mem_append_left _ h)))))))))))))))))))))
theorem mr15 : ∀ w ∈ wsL_law0_r15, w ∈ wsL_law0 := fun _ h => List.mem_append_left _ (List.mem_append_left _ (List.mem_append_left _ (List.mem_append_left _ (List.mem_append_left _ (List.mem_append_left _ (List.mem_append_left _ (List.mem_append_left _ (List.mem_append_right _ (List.mem_append_right _ (List.mem_append_right _ (List.mem_append_right _ (List.mem_append_right _ (List.mem_append_right _ (List.mem_append_right _ (List.mem_append_right _ (List.mem_append_right _ (List.mem_append_right _ (List.mem_append_right _ (List.mem_append_right _ (List.mem_append_right _ (List.mem_append_right _ (List.mem_append_left _ h))))))))))))))))))))))
theorem mr16 : ∀ w ∈ wsL_law0_r16, w ∈ wsL_law0 := fun _ h => List.mem_append_left _ (List.mem_append_left _ (List.mem_append_left _ (List.mem_append_left _ (List.mem_append_left _ (List.mem_append_left _ (List.mem_append_left _ (List.mem_append_left _ (List.mem_append_right _ (List.mem_append_right _ (List.mem_append_right _ (List.mem_append_right _ (List.mem_append_right _ (List.mem_append_right _ (List.mem_append_right _ (List.mem_append_right _ (List.mem_append_right _ (List.mem_append_right _ (List.mem_append_right _ (List.mem_append_right _ (List.mem_append_right _ (List.mem_append_right _ (List.mem_append_right _ (List.mem_append_left _ h)))))))))))))))))))))))
theorem mr17 : ∀ w ∈ wsL_law0_r17, w ∈ wsL_law0 := fun _ h => List.mem_append_left _ (List.mem_append_left _ (List.mem_append_left _ (List.mem_append_left _ (List.mem_append_left _ (List.mem_append_left _ (List.mem_append_left _ (List.mem_append_left _ (List.mem_append_right _ (List.mem_append_right _ (List.mem_append_right _ (List.mem_append_right _ (List.mem_append_right _ (List.mem_append_right _ (List.mem_append_right _ (List.mem_append_right _ (List.mem_append_right _ (List.mem_append_right _ (List.mem_append_right _ (List.mem_append_right _ (List.mem_append_right _ (List.mem_append_right _ (List.mem_append_right _ (List.mem_append_right _ (List.mem_append_left _ h))))))))))))))))))))))))
theorem mr18 : ∀ w ∈ wsL_law0_r18, w ∈ wsL_law0 := fun _ h => List.mem_append_left _ (List.mem_append_left _ (List.mem_append_left _ (List.mem_append_left _ (List.mem_append_left _ (List.mem_append_left _ (List.mem_append_left _ (List.mem_append_left _ (List.mem_append_right _ (List.mem_append_right _ (List.mem_append_right _ (List.mem_append_right _ (List.mem_append_right _ (List.mem_append_right _ (List.mem_append_right _ (List.mem_append_right _ (List.mem_append_right _ (List.mem_append_right _ (List.mem_append_right _ (List.mem_append_right _ (List.mem_append_right _ (List.mem_append_right _ (List.mem_append_right _ (List.mem_append_right _ (List.mem_append_right _ (List.mem_append_left _ h)))))))))))))))))))))))))
theorem mr19 : ∀ w ∈ wsL_law0_r19, w ∈ wsL_law0 := fun _ h => List.mem_append_left _ (List.mem_append_left _ (List.mem_append_left _ (List.mem_append_left _ (List.mem_append_left _ (List.mem_append_left _ (List.mem_append_left _ (List.mem_append_left _ (List.mem_append_right _ (List.mem_append_right _ (List.mem_append_right _ (List.mem_append_right _ (List.mem_append_right _ (List.mem_append_right _ (List.mem_append_right _ (List.mem_append_right _ (List.mem_append_right _ (List.mem_append_right _ (List.mem_append_right _ (List.mem_append_right _ (List.mem_append_right _ (List.mem_append_right _ (List.mem_append_right _ (List.mem_append_right _ (List.mem_append_right _ (List.mem_append_right _ (List.mem_append_left _ h))))))))))))))))))))))))))
theorem mr20 : ∀ w ∈ wsL_law0_r20, w ∈ wsL_law0 := fun _ h => List.mem_append_left _ (List.mem_append_left _ (List.mem_append_left _ (List.mem_append_left _ (List.mem_append_left _ (List.mem_append_left _ (List.mem_append_left _ (List.mem_append_left _ (List.mem_append_right _ (List.mem_append_right _ (List.mem_append_right _ (List.mem_append_right _ (List.mem_append_right _ (List.mem_append_right _ (List.mem_append_right _ (List.mem_append_right _ (List.mem_append_right _ (List.mem_append_right _ (List.mem_append_right _ (List.mem_append_right _ (List.mem_append_right _ (List.mem_append_right _ (List.mem_append_right _ (List.mem_append_right _ (List.mem_append_right _ (List.mem_append_right _ (List.mem_append_right _ (List.mem_append_left _ h)))))))))))))))))))))))))))
theorem mr21 : ∀ w ∈ wsL_law0_r21, w ∈ wsL_law0 := fun _ h => List.mem_append_left _ (List.mem_append_left _ (List.mem_append_left _ (List.mem_append_left _ (List.mem_append_left _ (List.mem_append_left _ (List.mem_append_left _ (List.mem_append_left _ (List.mem_append_right _ (List.mem_append_right _ (List.mem_append_right _ (List.mem_append_right _ (List.mem_append_right _ (List.mem_append_right _ (List.mem_append_right _ (List.mem_append_right _ (List.mem_append_right _ (List.mem_append_right _ (List.mem_append_right _ (List.mem_append_right _ (List.mem_append_right _ (List.mem_append_right _ (List.mem_append_right _ (List.mem_append_right _ (List.mem_append_right _ (List.mem_append_right _ (List.mem_append_right _ (List.mem_append_right _ (List.mem_append_left _ h))))))))))))))))))))))))))))
theorem mr22 : ∀ w ∈ wsL_law0_r22, w ∈ wsL_law0 := fun _ h => List.mem_append_left _ (List.mem_append_left _ (List.mem_append_left _ (List.mem_append_left _ (List.mem_append_left _ (List.mem_append_left _ (List.mem_append_left _ (List.mem_append_left _ (List.mem_append_right _ (List.mem_append_right _ (List.mem_append_right _ (List.mem_append_right _ (List.mem_append_right _ (List.mem_append_right _ (List.mem_append_right _ (List.mem_append_right _ (List.mem_append_right _ (List.mem_append_right _ (List.mem_append_right _ (List.mem_append_right _ (List.mem_append_right _ (List.mem_append_right _ (List.mem_append_right _ (List.mem_append_right _ (List.mem_append_right _ (List.mem_append_right _ (List.mem_append_right _ (List.mem_append_right _ (List.mem_append_right _ (List.mem_append_left _ h)))))))))))))))))))))))))))))
theorem mr23 : ∀ w ∈ wsL_law0_r23, w ∈ wsL_law0 := fun _ h => List.mem_append_left _ (List.mem_append_left _ (List.mem_append_left _ (List.mem_append_left _ (List.mem_append_left _ (List.mem_append_left _ (List.mem_append_left _ (List.mem_append_left _ (List.mem_append_right _ (List.mem_append_right _ (List.mem_append_right _ (List.mem_append_right _ (List.mem_append_right _ (List.mem_append_right _ (List.mem_append_right _ (List.mem_append_right _ (List.mem_append_right _ (List.mem_append_right _ (List.mem_append_right _ (List.mem_append_right _ (List.mem_append_right _ (List.mem_append_right _ (List.mem_append_right _ (List.mem_append_right _ (List.mem_append_right _ (List.mem_append_right _ (List.mem_append_right _ (List.mem_append_right _ (List.mem_append_right _ (List.mem_append_right _ (List.mem_append_left _ h))))))))))))))))))))))))))))))
theorem mr24 : ∀ w ∈ wsL_law0_r24, w ∈ wsL_law0 := fun _ h => List.mem_append_left _ (List.mem_append_left _ (List.mem_append_left _ (List.mem_append_left _ (List.mem_append_left _ (List.mem_append_left _ (List.mem_append_left _ (List.mem_append_left _ (List.mem_append_right _ (List.mem_append_right _ (List.mem_append_right _ (List.mem_append_right _ (List.mem_append_right _ (List.mem_append_right _ (List.mem_append_right _ (List.mem_append_right _ (List.mem_append_right _ (List.mem_append_right _ (List.mem_append_right _ (List.mem_append_right _ (List.mem_append_right _ (List.mem_append_right _ (List.mem_append_right _ (List.mem_append_right _ (List.mem_append_right _ (List.mem_append_right _ (List.mem_append_right _ (List.mem_append_right _ (List.mem_append_right _ (List.mem_append_right _ (List.mem_append_right _ (List.mem_append_left _ h)))))))))))))))))))))))))))))))
theorem mr25 : ∀ w ∈ wsL_law0_r25, w ∈ wsL_law0 := fun _ h => List.mem_append_left _ (List.mem_append_left _ (List.mem_append_left _ (List.mem_append_left _ (List.mem_append_left _ (List.mem_append_left _ (List.mem_append_left _ (List.mem_append_left _ (List.mem_append_right _ (List.mem_append_right _ (List.mem_append_right _ (List.mem_append_right _ (List.mem_append_right _ (List.mem_append_right _ (List.mem_append_right _ (List.mem_append_right _ (List.mem_append_right _ (List.mem_append_right _ (List.mem_append_right _ (List.mem_append_right _ (List.mem_append_right _ (List.mem_append_right _ (List.mem_append_right _ (List.mem_append_right _ (List.mem_append_right _ (List.mem_append_right _ (List.mem_append_right _ (List.mem_append_right _ (List.mem_append_right _ (List.mem_append_right _ (List.mem_append_right _ (List.mem_append_right _ (List.mem_append_left _ h))))))))))))))))))))))))))))))))
theorem mr26 : ∀ w ∈ wsL_law0_r26, w ∈ wsL_law0 := fun _ h => List.mem_append_left _ (List.mem_append_left _ (List.mem_append_left _ (List.mem_append_left _ (List.mem_append_left _ (List.mem_append_left _ (List.mem_append_left _ (List.mem_append_left _ (List.mem_append_right _ (List.mem_append_right _ (List.mem_append_right _ (List.mem_append_right _ (List.mem_append_right _ (List.mem_append_right _ (List.mem_append_right _ (List.mem_append_right _ (List.mem_append_right _ (List.mem_append_right _ (List.mem_append_right _ (List.mem_append_right _ (List.mem_append_right _ (List.mem_append_right _ (List.mem_append_right _ (List.mem_append_right _ (List.mem_append_right _ (List.mem_append_right _ (List.mem_append_right _ (List.mem_append_right _ (List.mem_append_right _ (List.mem_append_right _ (List.mem_append_right _ (List.mem_append_right _ (List.mem_append_right _ (List.mem_append_left _ h)))))))))))))))))))))))))))))))))
theorem mr27 : ∀ w ∈ wsL_law0_r27, w ∈ wsL_law0 := fun _ h => List.mem_append_left _ (List.mem_append_left _ (List.mem_append_left _ (List.mem_append_left _ (List.mem_append_left _ (List.mem_append_left _ (List.mem_append_left _ (List.mem_append_left _ (List.mem_append_right _ (List.mem_append_right _ (List.mem_append_right _ (List.mem_append_right _ (List.mem_append_right _ (List.mem_append_right _ (List.mem_append_right _ (List.mem_append_right _ (List.mem_append_right _ (List.mem_append_right _ (List.mem_append_right _ (List.mem_append_right _ (List.mem_append_right _ (List.mem_append_right _ (List.mem_append_right _ (List.mem_append_right _ (List.mem_append_right _ (List.mem_append_right _ (List.mem_append_right _ (List.mem_append_right _ (List.mem_append_right _ (List.mem_append_right _ (List.mem_append_right _ (List.mem_append_right _ (List.mem_append_right _ (List.mem_append_right _ (List.mem_append_left _ h))))))))))))))))))))))))))))))))))
theorem mr28 : ∀ w ∈ wsL_law0_r28, w ∈ wsL_law0 := fun _ h => List.mem_append_left _ (List.mem_append_left _ (List.mem_append_left _ (List.mem_append_left _ (List.mem_append_left _ (List.mem_append_left _ (List.mem_append_left _ (List.mem_append_left _ (List.mem_append_right _ (List.mem_append_right _ (List.mem_append_right _ (List.mem_append_right _ (List.mem_append_right _ (List.mem_append_right _ (List.mem_append_right _ (List.mem_append_right _ (List.mem_append_right _ (List.mem_append_right _ (List.mem_append_right _ (List.mem_append_right _ (List.mem_append_right _ (List.mem_append_right _ (List.mem_append_right _ (List.mem_append_right _ (List.mem_append_right _ (List.mem_append_right _ (List.mem_append_right _ (List.mem_append_right _ (List.mem_append_right _ (List.mem_append_right _ (List.mem_append_right _ (List.mem_append_right _ (List.mem_append_right _ (List.mem_append_right _ (List.mem_append_right _ (List.mem_append_left _ h)))))))))))))))))))))))))))))))))))
theorem mr29 : ∀ w ∈ wsL_law0_r29, w ∈ wsL_law0 := fun _ h => List.mem_append_left _ (List.mem_append_left _ (List.mem_append_left _ (List.mem_append_left _ (List.mem_append_left _ (List.mem_append_left _ (List.mem_append_left _ (List.mem_append_left _ (List.mem_append_right _ (List.mem_append_right _ (List.mem_append_right _ (List.mem_append_right _ (List.mem_append_right _ (List.mem_append_right _ (List.mem_append_right _ (List.mem_append_right _ (List.mem_append_right _ (List.mem_append_right _ (List.mem_append_right _ (List.mem_append_right _ (List.mem_append_right _ (List.mem_append_right _ (List.mem_append_right _ (List.mem_append_right _ (List.mem_append_right _ (List.mem_append_right _ (List.mem_append_right _ (List.mem_append_right _ (List.mem_append_right _ (List.mem_append_right _ (List.mem_append_right _ (List.mem_append_right _ (List.mem_append_right _ (List.mem_append_right _ (List.mem_append_right _ (List.mem_append_right _ (List.mem_append_left _ h))))))))))))))))))))))))))))))))))))
theorem mr30 : ∀ w ∈ wsL_law0_r30, w ∈ wsL_law0 := fun _ h => List.mem_append_left _ (List.mem_append_left _ (List.mem_append_left _ (List.mem_append_left _ (List.mem_append_left _ (List.mem_append_left _ (List.mem_append_left _ (List.mem_append_left _ (List.mem_append_right _ (List.mem_append_right _ (List.mem_append_right _ (List.mem_append_right _ (List.mem_append_right _ (List.mem_append_right _ (List.mem_append_right _ (List.mem_append_right _ (List.mem_append_right _ (List.mem_append_right _ (List.mem_append_right _ (List.mem_append_right _ (List.mem_append_right _ (List.mem_append_right _ (List.mem_append_right _ (List.mem_append_right _ (List.mem_append_right _ (List.mem_append_right _ (List.mem_append_right _ (List.mem_append_right _ (List.mem_append_right _ (List.mem_append_right _ (List.mem_append_right _ (List.mem_append_right _ (List.mem_append_right _ (List.mem_append_right _ (List.mem_append_right _ (List.mem_append_right _ (List.mem_append_right _ (List.mem_append_left _ h)))))))))))))))))))))))))))))))))))))
theorem mr31 : ∀ w ∈ wsL_law0_r31, w ∈ wsL_law0 := fun _ h => List.mem_append_left _ (List.mem_append_left _ (List.mem_append_left _ (List.mem_append_left _ (List.mem_append_left _ (List.mem_append_left _ (List.mem_append_left _ (List.mem_append_left _ (List.mem_append_right _ (List.mem_append_right _ (List.mem_append_right _ (List.mem_append_right _ (List.mem_append_right _ (List.mem_append_right _ (List.mem_append_right _ (List.mem_append_right _ (List.mem_append_right _ (List.mem_append_right _ (List.mem_append_right _ (List.mem_append_right _ (List.mem_append_right _ (List.mem_append_right _ (List.mem_append_right _ (List.mem_append_right _ (List.mem_append_right _ (List.mem_append_right _ (List.mem_append_right _ (List.mem_append_right _ (List.mem_append_right _ (List.mem_append_right _ (List.mem_append_right _ (List.mem_append_right _ (List.mem_append_right _ (List.mem_append_right _ (List.mem_append_right _ (List.mem_append_right _ (List.mem_append_right _ (List.mem_append_right _ (List.mem_append_left _ h))))))))))))))))))))))))))))))))))))))
theorem mr32 : ∀ w ∈ wsL_law0_r32, w ∈ wsL_law0 := fun _ h => List.mem_append_left _ (List.mem_append_left _ (List.mem_append_left _ (List.mem_append_left _ (List.mem_append_left _ (List.mem_append_left _ (List.mem_append_left _ (List.mem_append_left _ (List.mem_append_right _ (List.mem_append_right _ (List.mem_append_right _ (List.mem_append_right _ (List.mem_append_right _ (List.mem_append_right _ (List.mem_append_right _ (List.mem_append_right _ (List.mem_append_right _ (List.mem_append_right _ (List.mem_append_right _ (List.mem_append_right _ (List.mem_append_right _ (List.mem_append_right _ (List.mem_append_right _ (List.mem_append_right _ (List.mem_append_right _ (List.mem_append_right _ (List.mem_append_right _ (List.mem_append_right _ (List.mem_append_right _ (List.mem_append_right _ (List.mem_append_right _ (List.mem_append_right _ (List.mem_append_right _ (List.mem_append_right _ (List.mem_append_right _ (List.mem_append_right _ (List.mem_append_right _ (List.mem_append_right _ (List.mem_append_right _ (List.mem_append_left _ h)))))))))))))))))))))))))))))))))))))))
theorem mr33 : ∀ w ∈ wsL_law0_r33, w ∈ wsL_law0 := fun _ h => List.mem_append_left _ (List.mem_append_left _ (List.mem_append_left _ (List.mem_append_left _ (List.mem_append_left _ (List.mem_append_left _ (List.mem_append_left _ (List.mem_append_left _ (List.mem_append_right _ (List.mem_append_right _ (List.mem_append_right _ (List.mem_append_right _ (List.mem_append_right _ (List.mem_append_right _ (List.mem_append_right _ (List.mem_append_right _ (List.mem_append_right _ (List.mem_append_right _ (List.mem_append_right _ (List.mem_append_right _ (List.mem_append_right _ (List.mem_append_right _ (List.mem_append_right _ (List.mem_append_right _ (List.mem_append_right _ (List.mem_append_right _ (List.mem_append_right _ (List.mem_append_right _ (List.mem_append_right _ (List.mem_append_right _ (List.mem_append_right _ (List.mem_append_right _ (List.mem_append_right _ (List.mem_append_right _ (List.mem_append_right _ (List.mem_append_right _ (List.mem_append_right _ (List.mem_append_right _ (List.mem_append_right _ (List.mem_append_right _ (List.mem_append_left _ h))))))))))))))))))))))))))))))))))))))))
theorem mr34 : ∀ w ∈ wsL_law0_r34, w ∈ wsL_law0 := fun _ h => List.mem_append_left _ (List.mem_append_left _ (List.mem_append_left _ (List.mem_append_left _ (List.mem_append_left _ (List.mem_append_left _ (List.mem_append_left _ (List.mem_append_left _ (List.mem_append_right _ (List.mem_append_right _ (List.mem_append_right _ (List.mem_append_right _ (List.mem_append_right _ (List.mem_append_right _ (List.mem_append_right _ (List.mem_append_right _ (List.mem_append_right _ (List.mem_append_right _ (List.mem_append_right _ (List.mem_append_right _ (List.mem_append_right _ (List.mem_append_right _ (List.mem_append_right _ (List.mem_append_right _ (List.mem_append_right _ (List.mem_append_right _ (List.mem_append_right _ (List.mem_append_right _ (List.mem_append_right _ (List.mem_append_right _ (List.mem_append_right _ (List.mem_append_right _ (List.mem_append_right _ (List.mem_append_right _ (List.mem_append_right _ (List.mem_append_right _ (List.mem_append_right _ (List.mem_append_right _ (List.mem_append_right _ (List.mem_append_right _ (List.mem_append_right _ (List.mem_append_left _ h)))))))))))))))))))))))))))))))))))))))))
theorem mr35 : ∀ w ∈ wsL_law0_r35, w ∈ wsL_law0 := fun _ h => List.mem_append_left _ (List.mem_append_left _ (List.mem_append_left _ (List.mem_append_left _ (List.mem_append_left _ (List.mem_append_left _ (List.mem_append_left _ (List.mem_append_left _ (List.mem_append_right _ (List.mem_append_right _ (List.mem_append_right _ (List.mem_append_right _ (List.mem_append_right _ (List.mem_append_right _ (List.mem_append_right _ (List.mem_append_right _ (List.mem_append_right _ (List.mem_append_right _ (List.mem_append_right _ (List.mem_append_right _ (List.mem_append_right _ (List.mem_append_right _ (List.mem_append_right _ (List.mem_append_right _ (List.mem_append_right _ (List.mem_append_right _ (List.mem_append_right _ (List.mem_append_right _ (List.mem_append_right _ (List.mem_append_right _ (List.mem_append_right _ (List.mem_append_right _ (List.mem_append_right _ (List.mem_append_right _ (List.mem_append_right _ (List.mem_append_right _ (List.mem_append_right _ (List.mem_append_right _ (List.mem_append_right _ (List.mem_append_right _ (List.mem_append_right _ (List.mem_append_right _ (h))))))))))))))))))))))))))))))))))))))))))
theorem inw5 : ∀ w ∈ wsX50, w ∈ wsL_law0 := fun _ h => List.mem_append_left _ (List.mem_append_left _ (List.mem_append_left _ (List.mem_append_left _ (List.mem_append_left _ (List.mem_append_left _ (List.mem_append_left _ (List.mem_append_right _ h)))))))
theorem inx5 {a : Cond} : ∀ w ∈ wsX50, w ∈ a :: wsL_law0 := fun w h => List.mem_cons_of_mem _ (inw5 w h)
theorem inw6 : ∀ w ∈ wsX60, w ∈ wsL_law0 := fun _ h => List.mem_append_left _ (List.mem_append_left _ (List.mem_append_left _ (List.mem_append_left _ (List.mem_append_left _ (List.mem_append_left _ (List.mem_append_right _ h))))))
theorem inx6 {a : Cond} : ∀ w ∈ wsX60, w ∈ a :: wsL_law0 := fun w h => List.mem_cons_of_mem _ (inw6 w h)
theorem inw3 : ∀ w ∈ wsX30, w ∈ wsL_law0 := fun _ h => List.mem_append_left _ (List.mem_append_left _ (List.mem_append_left _ (List.mem_append_left _ (List.mem_append_left _ (List.mem_append_right _ h)))))
theorem inx3 {a : Cond} : ∀ w ∈ wsX30, w ∈ a :: wsL_law0 := fun w h => List.mem_cons_of_mem _ (inw3 w h)
theorem inw1 : ∀ w ∈ wsX10, w ∈ wsL_law0 := fun _ h => List.mem_append_left _ (List.mem_append_left _ (List.mem_append_left _ (List.mem_append_left _ (List.mem_append_right _ h))))
theorem inx1 {a : Cond} : ∀ w ∈ wsX10, w ∈ a :: wsL_law0 := fun w h => List.mem_cons_of_mem _ (inw1 w h)
theorem inw4 : ∀ w ∈ wsX40, w ∈ wsL_law0 := fun _ h => List.mem_append_left _ (List.mem_append_left _ (List.mem_append_left _ (List.mem_append_right _ h)))
theorem inx4 {a : Cond} : ∀ w ∈ wsX40, w ∈ a :: wsL_law0 := fun w h => List.mem_cons_of_mem _ (inw4 w h)
theorem inw2 : ∀ w ∈ wsX20, w ∈ wsL_law0 := fun _ h => List.mem_append_left _ (List.mem_append_left _ (List.mem_append_right _ h))
theorem inx2 {a : Cond} : ∀ w ∈ wsX20, w ∈ a :: wsL_law0 := fun w h => List.mem_cons_of_mem _ (inw2 w h)
theorem inw0 : ∀ w ∈ wsX00, w ∈ wsL_law0 := fun _ h => List.mem_append_left _ (List.mem_append_right _ h)
theorem inx0 {a : Cond} : ∀ w ∈ wsX00, w ∈ a :: wsL_law0 := fun w h => List.mem_cons_of_mem _ (inw0 w h)
theorem wd1_0 : Cond.classLink RL 8 RX5 ∈ wsL_law0 := mr1 _ (List.mem_of_getElem? (i := 0) rfl)
theorem wd1_1 : Cond.instantiable RX5 11 ∈ wsL_law0 := mr1 _ (List.mem_of_getElem? (i := 1) rfl)
theorem wd1_2 : Cond.initialized RX5 ∈ wsL_law0 := mr1 _ (List.mem_of_getElem? (i := 2) rfl)
theorem wd1_3 : Cond.classLink RL 16 RX6 ∈ wsL_law0 := mr1 _ (List.mem_of_getElem? (i := 3) rfl)
theorem wd1_4 : Cond.instantiable RX6 22 ∈ wsL_law0 := mr1 _ (List.mem_of_getElem? (i := 4) rfl)
theorem wd1_5 : Cond.initialized RX6 ∈ wsL_law0 := mr1 _ (List.mem_of_getElem? (i := 5) rfl)
theorem wd1_6 : Cond.arrayClass .long ∈ wsL_law0 := mr1 _ (List.mem_of_getElem? (i := 6) rfl)
theorem wd1_7 : Cond.methodLink RL 15 yX5_init ∈ wsL_law0 := mr1 _ (List.mem_of_getElem? (i := 7) rfl)
theorem wd1_8 : Cond.instanceMethod yX5_init ∈ wsL_law0 := mr1 _ (List.mem_of_getElem? (i := 8) rfl)
theorem wd1_9 : Cond.code yX5_init cX5_init 4 none ∈ wsL_law0 := mr1 _ (List.mem_of_getElem? (i := 9) rfl)
theorem wd1_10 : Cond.methodLink RX5 3 objectInit ∈ wsL_law0 := mr1 _ (List.mem_of_getElem? (i := 10) rfl)
theorem wd1_11 : Cond.instanceMethod objectInit ∈ wsL_law0 := mr1 _ (List.mem_of_getElem? (i := 11) rfl)
theorem wd1_12 : Cond.code objectInit ⟨#[0xb1]⟩ 1 none ∈ wsL_law0 := mr1 _ (List.mem_of_getElem? (i := 12) rfl)
theorem wd1_13 : Cond.fieldLink RX5 9 "CardLoops" "tapeLength" "I" ∈ wsL_law0 := mr1 _ (List.mem_of_getElem? (i := 13) rfl)
theorem wd1_14 : Cond.arrayClass .int ∈ wsL_law0 := mr1 _ (List.mem_of_getElem? (i := 14) rfl)
theorem wd1_15 : Cond.fieldLink RX5 13 "CardLoops" "trialCards" "[I" ∈ wsL_law0 := mr1 _ (List.mem_of_getElem? (i := 15) rfl)
theorem wd1_16 : Cond.fieldLink RX5 17 "CardLoops" "knownParts" "[I" ∈ wsL_law0 := mr1 _ (List.mem_of_getElem? (i := 16) rfl)
theorem wd1_17 : Cond.fieldLink RX5 20 "CardLoops" "knownMinutes" "[I" ∈ wsL_law0 := mr1 _ (List.mem_of_getElem? (i := 17) rfl)
theorem wd1_18 : Cond.classLink RX5 23 RX3 ∈ wsL_law0 := mr1 _ (List.mem_of_getElem? (i := 18) rfl)
theorem wd1_19 : Cond.instantiable RX3 10 ∈ wsL_law0 := mr1 _ (List.mem_of_getElem? (i := 19) rfl)
theorem wd1_20 : Cond.initialized RX3 ∈ wsL_law0 := mr1 _ (List.mem_of_getElem? (i := 20) rfl)
theorem wd1_21 : Cond.classLink RX5 26 RX1 ∈ wsL_law0 := mr1 _ (List.mem_of_getElem? (i := 21) rfl)
theorem wd1_22 : Cond.instantiable RX1 11 ∈ wsL_law0 := mr1 _ (List.mem_of_getElem? (i := 22) rfl)
theorem wd1_23 : Cond.initialized RX1 ∈ wsL_law0 := mr1 _ (List.mem_of_getElem? (i := 23) rfl)
theorem wd2_0 : Cond.fieldLink RX5 31 "CardLoops" "tape" "[I" ∈ wsL_law0 := mr2 _ (List.mem_of_getElem? (i := 0) rfl)
theorem wd2_1 : Cond.fieldLink RX5 34 "CardLoops" "plan" "LCardLoops$Plan;" ∈ wsL_law0 := mr2 _ (List.mem_of_getElem? (i := 1) rfl)
theorem wd2_2 : Cond.classLink RX5 38 RX4 ∈ wsL_law0 := mr2 _ (List.mem_of_getElem? (i := 2) rfl)
theorem wd2_3 : Cond.instantiable RX4 8 ∈ wsL_law0 := mr2 _ (List.mem_of_getElem? (i := 3) rfl)
theorem wd2_4 : Cond.initialized RX4 ∈ wsL_law0 := mr2 _ (List.mem_of_getElem? (i := 4) rfl)
theorem wd2_5 : Cond.fieldLink RX5 43 "CardLoops" "reader" "LCardLoops$Reader;" ∈ wsL_law0 := mr2 _ (List.mem_of_getElem? (i := 5) rfl)
theorem wd2_6 : Cond.fieldLink RX5 47 "CardLoops" "line" "LCardLoops$Line;" ∈ wsL_law0 := mr2 _ (List.mem_of_getElem? (i := 6) rfl)
theorem wd2_7 : Cond.fieldLink RX5 51 "CardLoops" "trial" "LCardLoops$Line;" ∈ wsL_law0 := mr2 _ (List.mem_of_getElem? (i := 7) rfl)
theorem wd2_8 : Cond.classLink RX5 54 RX2 ∈ wsL_law0 := mr2 _ (List.mem_of_getElem? (i := 8) rfl)
theorem wd2_9 : Cond.instantiable RX2 8 ∈ wsL_law0 := mr2 _ (List.mem_of_getElem? (i := 9) rfl)
theorem wd2_10 : Cond.initialized RX2 ∈ wsL_law0 := mr2 _ (List.mem_of_getElem? (i := 10) rfl)
theorem wd2_11 : Cond.fieldLink RX5 59 "CardLoops" "finder" "LCardLoops$PaceFinder;" ∈ wsL_law0 := mr2 _ (List.mem_of_getElem? (i := 11) rfl)
theorem wd2_12 : Cond.classLink RX5 63 RX0 ∈ wsL_law0 := mr2 _ (List.mem_of_getElem? (i := 12) rfl)
theorem wd2_13 : Cond.instantiable RX0 3 ∈ wsL_law0 := mr2 _ (List.mem_of_getElem? (i := 13) rfl)
theorem wd2_14 : Cond.initialized RX0 ∈ wsL_law0 := mr2 _ (List.mem_of_getElem? (i := 14) rfl)
theorem wd2_15 : Cond.fieldLink RX5 66 "CardLoops" "history" "LCardLoops$History;" ∈ wsL_law0 := mr2 _ (List.mem_of_getElem? (i := 15) rfl)
theorem wd2_16 : Cond.instanceMethod yX3_init ∈ wsL_law0 := mr2 _ (List.mem_of_getElem? (i := 16) rfl)
theorem wd2_17 : Cond.code yX3_init cX3_init 1 none ∈ wsL_law0 := mr2 _ (List.mem_of_getElem? (i := 17) rfl)
theorem wd2_18 : Cond.methodLink RX3 3 objectInit ∈ wsL_law0 := mr2 _ (List.mem_of_getElem? (i := 18) rfl)
theorem wd2_19 : Cond.fieldLink RX3 9 "CardLoops$Plan" "times" "[I" ∈ wsL_law0 := mr2 _ (List.mem_of_getElem? (i := 19) rfl)
theorem wd2_20 : Cond.fieldLink RX3 15 "CardLoops$Plan" "setups" "[I" ∈ wsL_law0 := mr2 _ (List.mem_of_getElem? (i := 20) rfl)
theorem wd2_21 : Cond.fieldLink RX3 18 "CardLoops$Plan" "from" "[I" ∈ wsL_law0 := mr2 _ (List.mem_of_getElem? (i := 21) rfl)
theorem wd2_22 : Cond.fieldLink RX3 21 "CardLoops$Plan" "to" "[I" ∈ wsL_law0 := mr2 _ (List.mem_of_getElem? (i := 22) rfl)
theorem wd2_23 : Cond.fieldLink RX3 24 "CardLoops$Plan" "toldCards" "[I" ∈ wsL_law0 := mr2 _ (List.mem_of_getElem? (i := 23) rfl)
theorem wd3_0 : Cond.fieldLink RX3 27 "CardLoops$Plan" "kinds" "[I" ∈ wsL_law0 := mr3 _ (List.mem_of_getElem? (i := 0) rfl)
theorem wd3_1 : Cond.fieldLink RX3 30 "CardLoops$Plan" "stations" "I" ∈ wsL_law0 := mr3 _ (List.mem_of_getElem? (i := 1) rfl)
theorem wd3_2 : Cond.fieldLink RX3 34 "CardLoops$Plan" "loops" "I" ∈ wsL_law0 := mr3 _ (List.mem_of_getElem? (i := 2) rfl)
theorem wd3_3 : Cond.fieldLink RX3 37 "CardLoops$Plan" "runs" "I" ∈ wsL_law0 := mr3 _ (List.mem_of_getElem? (i := 3) rfl)
theorem wd3_4 : Cond.fieldLink RX3 40 "CardLoops$Plan" "places" "I" ∈ wsL_law0 := mr3 _ (List.mem_of_getElem? (i := 4) rfl)
theorem wd3_5 : Cond.methodLink RX5 28 yX1_init ∈ wsL_law0 := mr3 _ (List.mem_of_getElem? (i := 5) rfl)
theorem wd3_6 : Cond.instanceMethod yX1_init ∈ wsL_law0 := mr3 _ (List.mem_of_getElem? (i := 6) rfl)
theorem wd3_7 : Cond.code yX1_init cX1_init 2 none ∈ wsL_law0 := mr3 _ (List.mem_of_getElem? (i := 7) rfl)
theorem wd3_8 : Cond.methodLink RX1 3 objectInit ∈ wsL_law0 := mr3 _ (List.mem_of_getElem? (i := 8) rfl)
theorem wd3_9 : Cond.fieldLink RX1 9 "CardLoops$Line" "begun" "[I" ∈ wsL_law0 := mr3 _ (List.mem_of_getElem? (i := 9) rfl)
theorem wd3_10 : Cond.fieldLink RX1 15 "CardLoops$Line" "through" "[I" ∈ wsL_law0 := mr3 _ (List.mem_of_getElem? (i := 10) rfl)
theorem wd3_11 : Cond.fieldLink RX1 18 "CardLoops$Line" "ends" "[I" ∈ wsL_law0 := mr3 _ (List.mem_of_getElem? (i := 11) rfl)
theorem wd3_12 : Cond.fieldLink RX1 21 "CardLoops$Line" "cardsOf" "[I" ∈ wsL_law0 := mr3 _ (List.mem_of_getElem? (i := 12) rfl)
theorem wd3_13 : Cond.fieldLink RX1 24 "CardLoops$Line" "births" "[I" ∈ wsL_law0 := mr3 _ (List.mem_of_getElem? (i := 13) rfl)
theorem wd3_14 : Cond.fieldLink RX1 27 "CardLoops$Line" "minutes" "[I" ∈ wsL_law0 := mr3 _ (List.mem_of_getElem? (i := 14) rfl)
theorem wd3_15 : Cond.fieldLink RX1 30 "CardLoops$Line" "factor" "I" ∈ wsL_law0 := mr3 _ (List.mem_of_getElem? (i := 15) rfl)
theorem wd3_16 : Cond.fieldLink RX1 34 "CardLoops$Line" "time" "I" ∈ wsL_law0 := mr3 _ (List.mem_of_getElem? (i := 16) rfl)
theorem wd3_17 : Cond.fieldLink RX1 37 "CardLoops$Line" "latestLead" "I" ∈ wsL_law0 := mr3 _ (List.mem_of_getElem? (i := 17) rfl)
theorem wd3_18 : Cond.fieldLink RX1 40 "CardLoops$Line" "longestLead" "I" ∈ wsL_law0 := mr3 _ (List.mem_of_getElem? (i := 18) rfl)
theorem wd3_19 : Cond.fieldLink RX1 43 "CardLoops$Line" "plan" "LCardLoops$Plan;" ∈ wsL_law0 := mr3 _ (List.mem_of_getElem? (i := 19) rfl)
theorem wd3_20 : Cond.methodLink RX5 40 yX4_init ∈ wsL_law0 := mr3 _ (List.mem_of_getElem? (i := 20) rfl)
theorem wd3_21 : Cond.instanceMethod yX4_init ∈ wsL_law0 := mr3 _ (List.mem_of_getElem? (i := 21) rfl)
theorem wd3_22 : Cond.code yX4_init cX4_init 2 none ∈ wsL_law0 := mr3 _ (List.mem_of_getElem? (i := 22) rfl)
theorem wd3_23 : Cond.methodLink RX4 3 objectInit ∈ wsL_law0 := mr3 _ (List.mem_of_getElem? (i := 23) rfl)
theorem wd4_0 : Cond.classLink RX4 9 RX3 ∈ wsL_law0 := mr4 _ (List.mem_of_getElem? (i := 0) rfl)
theorem wd4_1 : Cond.fieldLink RX4 12 "CardLoops$Reader" "draft" "LCardLoops$Plan;" ∈ wsL_law0 := mr4 _ (List.mem_of_getElem? (i := 1) rfl)
theorem wd4_2 : Cond.fieldLink RX4 18 "CardLoops$Reader" "length" "I" ∈ wsL_law0 := mr4 _ (List.mem_of_getElem? (i := 2) rfl)
theorem wd4_3 : Cond.fieldLink RX4 22 "CardLoops$Reader" "faultKind" "I" ∈ wsL_law0 := mr4 _ (List.mem_of_getElem? (i := 3) rfl)
theorem wd4_4 : Cond.fieldLink RX4 25 "CardLoops$Reader" "faultPlace" "I" ∈ wsL_law0 := mr4 _ (List.mem_of_getElem? (i := 4) rfl)
theorem wd4_5 : Cond.fieldLink RX4 28 "CardLoops$Reader" "at" "I" ∈ wsL_law0 := mr4 _ (List.mem_of_getElem? (i := 5) rfl)
theorem wd4_6 : Cond.fieldLink RX4 31 "CardLoops$Reader" "tokenSort" "I" ∈ wsL_law0 := mr4 _ (List.mem_of_getElem? (i := 6) rfl)
theorem wd4_7 : Cond.fieldLink RX4 34 "CardLoops$Reader" "tokenStart" "I" ∈ wsL_law0 := mr4 _ (List.mem_of_getElem? (i := 7) rfl)
theorem wd4_8 : Cond.fieldLink RX4 37 "CardLoops$Reader" "tape" "[I" ∈ wsL_law0 := mr4 _ (List.mem_of_getElem? (i := 8) rfl)
theorem wd4_9 : Cond.methodLink RX5 56 yX2_init ∈ wsL_law0 := mr4 _ (List.mem_of_getElem? (i := 9) rfl)
theorem wd4_10 : Cond.instanceMethod yX2_init ∈ wsL_law0 := mr4 _ (List.mem_of_getElem? (i := 10) rfl)
theorem wd4_11 : Cond.code yX2_init cX2_init 2 none ∈ wsL_law0 := mr4 _ (List.mem_of_getElem? (i := 11) rfl)
theorem wd4_12 : Cond.methodLink RX2 3 objectInit ∈ wsL_law0 := mr4 _ (List.mem_of_getElem? (i := 12) rfl)
theorem wd4_13 : Cond.fieldLink RX2 9 "CardLoops$PaceFinder" "busy" "[J" ∈ wsL_law0 := mr4 _ (List.mem_of_getElem? (i := 13) rfl)
theorem wd4_14 : Cond.fieldLink RX2 15 "CardLoops$PaceFinder" "queues" "[I" ∈ wsL_law0 := mr4 _ (List.mem_of_getElem? (i := 14) rfl)
theorem wd4_15 : Cond.fieldLink RX2 19 "CardLoops$PaceFinder" "times" "[I" ∈ wsL_law0 := mr4 _ (List.mem_of_getElem? (i := 15) rfl)
theorem wd4_16 : Cond.fieldLink RX2 22 "CardLoops$PaceFinder" "heads" "[I" ∈ wsL_law0 := mr4 _ (List.mem_of_getElem? (i := 16) rfl)
theorem wd4_17 : Cond.fieldLink RX2 25 "CardLoops$PaceFinder" "chain" "[I" ∈ wsL_law0 := mr4 _ (List.mem_of_getElem? (i := 17) rfl)
theorem wd4_18 : Cond.fieldLink RX2 28 "CardLoops$PaceFinder" "parts" "I" ∈ wsL_law0 := mr4 _ (List.mem_of_getElem? (i := 18) rfl)
theorem wd4_19 : Cond.fieldLink RX2 32 "CardLoops$PaceFinder" "minutes" "I" ∈ wsL_law0 := mr4 _ (List.mem_of_getElem? (i := 19) rfl)
theorem wd4_20 : Cond.fieldLink RX2 35 "CardLoops$PaceFinder" "trial" "LCardLoops$Line;" ∈ wsL_law0 := mr4 _ (List.mem_of_getElem? (i := 20) rfl)
theorem wd4_21 : Cond.methodLink RX5 65 yX0_init ∈ wsL_law0 := mr4 _ (List.mem_of_getElem? (i := 21) rfl)
theorem wd4_22 : Cond.instanceMethod yX0_init ∈ wsL_law0 := mr4 _ (List.mem_of_getElem? (i := 22) rfl)
theorem wd4_23 : Cond.code yX0_init cX0_init 3 none ∈ wsL_law0 := mr4 _ (List.mem_of_getElem? (i := 23) rfl)
theorem wd5_0 : Cond.methodLink RX0 3 objectInit ∈ wsL_law0 := mr5 _ (List.mem_of_getElem? (i := 0) rfl)
theorem wd5_1 : Cond.classLink RX0 9 RX1 ∈ wsL_law0 := mr5 _ (List.mem_of_getElem? (i := 1) rfl)
theorem wd5_2 : Cond.fieldLink RX0 11 "CardLoops$History" "kept" "[LCardLoops$Line;" ∈ wsL_law0 := mr5 _ (List.mem_of_getElem? (i := 2) rfl)
theorem wd5_3 : Cond.fieldLink RX0 17 "CardLoops$History" "count" "I" ∈ wsL_law0 := mr5 _ (List.mem_of_getElem? (i := 3) rfl)
theorem wd5_4 : Cond.fieldLink RX0 21 "CardLoops$History" "top" "I" ∈ wsL_law0 := mr5 _ (List.mem_of_getElem? (i := 4) rfl)
theorem wd5_5 : Cond.methodLink RX0 24 yX1_init ∈ wsL_law0 := mr5 _ (List.mem_of_getElem? (i := 5) rfl)
theorem wd5_6 : Cond.methodLink RL 18 yX6_init ∈ wsL_law0 := mr5 _ (List.mem_of_getElem? (i := 6) rfl)
theorem wd5_7 : Cond.instanceMethod yX6_init ∈ wsL_law0 := mr5 _ (List.mem_of_getElem? (i := 7) rfl)
theorem wd5_8 : Cond.code yX6_init cX6_init 1 none ∈ wsL_law0 := mr5 _ (List.mem_of_getElem? (i := 8) rfl)
theorem wd5_9 : Cond.methodLink RX6 78 objectInit ∈ wsL_law0 := mr5 _ (List.mem_of_getElem? (i := 9) rfl)
theorem wd5_10 : Cond.fieldLink RX6 11 "CardLoopsModel" "tape" "[I" ∈ wsL_law0 := mr5 _ (List.mem_of_getElem? (i := 10) rfl)
theorem wd5_11 : Cond.fieldLink RX6 84 "CardLoopsModel" "now" "[I" ∈ wsL_law0 := mr5 _ (List.mem_of_getElem? (i := 11) rfl)
theorem wd5_12 : Cond.fieldLink RX6 87 "CardLoopsModel" "read" "[I" ∈ wsL_law0 := mr5 _ (List.mem_of_getElem? (i := 12) rfl)
theorem wd5_13 : Cond.fieldLink RX6 90 "CardLoopsModel" "paper" "[I" ∈ wsL_law0 := mr5 _ (List.mem_of_getElem? (i := 13) rfl)
theorem wd5_14 : Cond.fieldLink RX6 93 "CardLoopsModel" "snaps" "[I" ∈ wsL_law0 := mr5 _ (List.mem_of_getElem? (i := 14) rfl)
theorem wd5_15 : Cond.constant RX6 96 (87000) ∈ wsL_law0 := mr5 _ (List.mem_of_getElem? (i := 15) rfl)
theorem wd5_16 : Cond.fieldLink RX6 97 "CardLoopsModel" "met" "[I" ∈ wsL_law0 := mr5 _ (List.mem_of_getElem? (i := 16) rfl)
theorem wd5_17 : Cond.fieldLink RX6 100 "CardLoopsModel" "metAt" "[I" ∈ wsL_law0 := mr5 _ (List.mem_of_getElem? (i := 17) rfl)
theorem wd5_18 : Cond.fieldLink RX6 103 "CardLoopsModel" "metSum" "[J" ∈ wsL_law0 := mr5 _ (List.mem_of_getElem? (i := 18) rfl)
theorem wd5_19 : Cond.methodLink RX6 107 yX6_clears ∈ wsL_law0 := mr5 _ (List.mem_of_getElem? (i := 19) rfl)
theorem wd5_20 : Cond.static yX6_clears ∈ wsL_law0 := mr5 _ (List.mem_of_getElem? (i := 20) rfl)
theorem wd5_21 : Cond.code yX6_clears cX6_clears 2 none ∈ wsL_law0 := mr5 _ (List.mem_of_getElem? (i := 21) rfl)
theorem wd5_22 : Cond.methodLink RL 19 yX5_feed ∈ wsL_law0 := mr5 _ (List.mem_of_getElem? (i := 22) rfl)
theorem wd5_23 : Cond.instanceMethod yX5_feed ∈ wsL_law0 := mr5 _ (List.mem_of_getElem? (i := 23) rfl)
theorem wd6_0 : Cond.selects RX5 yX5_feed yX5_feed ∈ wsL_law0 := mr6 _ (List.mem_of_getElem? (i := 0) rfl)
theorem wd6_1 : Cond.code yX5_feed cX5_feed 6 (some .int) ∈ wsL_law0 := mr6 _ (List.mem_of_getElem? (i := 1) rfl)
theorem wd6_2 : Cond.methodLink RX5 70 yX5_putBytes ∈ wsL_law0 := mr6 _ (List.mem_of_getElem? (i := 2) rfl)
theorem wd6_3 : Cond.instanceMethod yX5_putBytes ∈ wsL_law0 := mr6 _ (List.mem_of_getElem? (i := 3) rfl)
theorem wd6_4 : Cond.selects RX5 yX5_putBytes yX5_putBytes ∈ wsL_law0 := mr6 _ (List.mem_of_getElem? (i := 4) rfl)
theorem wd6_5 : Cond.code yX5_putBytes cX5_putBytes 3 none ∈ wsL_law0 := mr6 _ (List.mem_of_getElem? (i := 5) rfl)
theorem wd6_6 : Cond.methodLink RL 23 yX6_feed ∈ wsL_law0 := mr6 _ (List.mem_of_getElem? (i := 6) rfl)
theorem wd6_7 : Cond.instanceMethod yX6_feed ∈ wsL_law0 := mr6 _ (List.mem_of_getElem? (i := 7) rfl)
theorem wd6_8 : Cond.selects RX6 yX6_feed yX6_feed ∈ wsL_law0 := mr6 _ (List.mem_of_getElem? (i := 8) rfl)
theorem wd6_9 : Cond.code yX6_feed cX6_feed 6 (some .int) ∈ wsL_law0 := mr6 _ (List.mem_of_getElem? (i := 9) rfl)
theorem wd6_10 : Cond.fieldLink RX6 1 "CardLoopsModel" "thrown" "I" ∈ wsL_law0 := mr6 _ (List.mem_of_getElem? (i := 10) rfl)
theorem wd6_11 : Cond.fieldLink RX6 15 "CardLoopsModel" "taped" "I" ∈ wsL_law0 := mr6 _ (List.mem_of_getElem? (i := 11) rfl)
theorem wd6_12 : Cond.methodLink RX6 18 yX6_lays ∈ wsL_law0 := mr6 _ (List.mem_of_getElem? (i := 12) rfl)
theorem wd6_13 : Cond.instanceMethod yX6_lays ∈ wsL_law0 := mr6 _ (List.mem_of_getElem? (i := 13) rfl)
theorem wd6_14 : Cond.selects RX6 yX6_lays yX6_lays ∈ wsL_law0 := mr6 _ (List.mem_of_getElem? (i := 14) rfl)
theorem wd6_15 : Cond.code yX6_lays cX6_lays 3 none ∈ wsL_law0 := mr6 _ (List.mem_of_getElem? (i := 15) rfl)
theorem wd6_16 : Cond.methodLink RL 24 yX5_end ∈ wsL_law0 := mr6 _ (List.mem_of_getElem? (i := 16) rfl)
theorem wd6_17 : Cond.instanceMethod yX5_end ∈ wsL_law0 := mr6 _ (List.mem_of_getElem? (i := 17) rfl)
theorem wd6_18 : Cond.selects RX5 yX5_end yX5_end ∈ wsL_law0 := mr6 _ (List.mem_of_getElem? (i := 18) rfl)
theorem wd6_19 : Cond.code yX5_end cX5_end 2 (some .boolean) ∈ wsL_law0 := mr6 _ (List.mem_of_getElem? (i := 19) rfl)
theorem wd6_20 : Cond.methodLink RL 28 yX6_end ∈ wsL_law0 := mr6 _ (List.mem_of_getElem? (i := 20) rfl)
theorem wd6_21 : Cond.instanceMethod yX6_end ∈ wsL_law0 := mr6 _ (List.mem_of_getElem? (i := 21) rfl)
theorem wd6_22 : Cond.selects RX6 yX6_end yX6_end ∈ wsL_law0 := mr6 _ (List.mem_of_getElem? (i := 22) rfl)
theorem wd6_23 : Cond.code yX6_end cX6_end 2 (some .boolean) ∈ wsL_law0 := mr6 _ (List.mem_of_getElem? (i := 23) rfl)
theorem wd7_0 : Cond.methodLink RL 29 yX5_text ∈ wsL_law0 := mr7 _ (List.mem_of_getElem? (i := 0) rfl)
theorem wd7_1 : Cond.instanceMethod yX5_text ∈ wsL_law0 := mr7 _ (List.mem_of_getElem? (i := 1) rfl)
theorem wd7_2 : Cond.selects RX5 yX5_text yX5_text ∈ wsL_law0 := mr7 _ (List.mem_of_getElem? (i := 2) rfl)
theorem wd7_3 : Cond.code yX5_text cX5_text 2 (some .int) ∈ wsL_law0 := mr7 _ (List.mem_of_getElem? (i := 3) rfl)
theorem wd7_4 : Cond.fieldLink RX5 78 "CardLoops$Reader" "draft" "LCardLoops$Plan;" ∈ wsL_law0 := mr7 _ (List.mem_of_getElem? (i := 4) rfl)
theorem wd7_5 : Cond.fieldLink RX5 84 "CardLoops$Plan" "toldCards" "[I" ∈ wsL_law0 := mr7 _ (List.mem_of_getElem? (i := 5) rfl)
theorem wd7_6 : Cond.methodLink RX5 74 yX4_read ∈ wsL_law0 := mr7 _ (List.mem_of_getElem? (i := 6) rfl)
theorem wd7_7 : Cond.instanceMethod yX4_read ∈ wsL_law0 := mr7 _ (List.mem_of_getElem? (i := 7) rfl)
theorem wd7_8 : Cond.selects RX4 yX4_read yX4_read ∈ wsL_law0 := mr7 _ (List.mem_of_getElem? (i := 8) rfl)
theorem wd7_9 : Cond.code yX4_read cX4_read 3 (some .int) ∈ wsL_law0 := mr7 _ (List.mem_of_getElem? (i := 9) rfl)
theorem wd7_10 : Cond.methodLink RX4 41 Lib.Math.min.name ∈ wsL_law0 := mr7 _ (List.mem_of_getElem? (i := 10) rfl)
theorem wd7_11 : Cond.static Lib.Math.min.name ∈ wsL_law0 := mr7 _ (List.mem_of_getElem? (i := 11) rfl)
theorem wd7_12 : Cond.initialized "java/lang/Math" ∈ wsL_law0 := mr7 _ (List.mem_of_getElem? (i := 12) rfl)
theorem wd7_13 : Cond.code Lib.Math.min.name Lib.Math.min.code 2 (some .int) ∈ wsL_law0 := mr7 _ (List.mem_of_getElem? (i := 13) rfl)
theorem wd7_14 : Cond.fieldLink RX4 57 "CardLoops$Plan" "stations" "I" ∈ wsL_law0 := mr7 _ (List.mem_of_getElem? (i := 14) rfl)
theorem wd7_15 : Cond.methodLink RX4 47 yX3_clear ∈ wsL_law0 := mr7 _ (List.mem_of_getElem? (i := 15) rfl)
theorem wd7_16 : Cond.instanceMethod yX3_clear ∈ wsL_law0 := mr7 _ (List.mem_of_getElem? (i := 16) rfl)
theorem wd7_17 : Cond.selects RX3 yX3_clear yX3_clear ∈ wsL_law0 := mr7 _ (List.mem_of_getElem? (i := 17) rfl)
theorem wd7_18 : Cond.code yX3_clear cX3_clear 1 none ∈ wsL_law0 := mr7 _ (List.mem_of_getElem? (i := 18) rfl)
theorem wd7_19 : Cond.methodLink RX4 50 yX4_readToken ∈ wsL_law0 := mr7 _ (List.mem_of_getElem? (i := 19) rfl)
theorem wd7_20 : Cond.instanceMethod yX4_readToken ∈ wsL_law0 := mr7 _ (List.mem_of_getElem? (i := 20) rfl)
theorem wd7_21 : Cond.selects RX4 yX4_readToken yX4_readToken ∈ wsL_law0 := mr7 _ (List.mem_of_getElem? (i := 21) rfl)
theorem wd7_22 : Cond.code yX4_readToken cX4_readToken 1 none ∈ wsL_law0 := mr7 _ (List.mem_of_getElem? (i := 22) rfl)
theorem wd7_23 : Cond.methodLink RX4 111 yX4_isBlank ∈ wsL_law0 := mr7 _ (List.mem_of_getElem? (i := 23) rfl)
theorem wd8_0 : Cond.static yX4_isBlank ∈ wsL_law0 := mr8 _ (List.mem_of_getElem? (i := 0) rfl)
theorem wd8_1 : Cond.code yX4_isBlank cX4_isBlank 1 (some .boolean) ∈ wsL_law0 := mr8 _ (List.mem_of_getElem? (i := 1) rfl)
theorem wd8_2 : Cond.methodLink RX4 115 yX4_readLump ∈ wsL_law0 := mr8 _ (List.mem_of_getElem? (i := 2) rfl)
theorem wd8_3 : Cond.instanceMethod yX4_readLump ∈ wsL_law0 := mr8 _ (List.mem_of_getElem? (i := 3) rfl)
theorem wd8_4 : Cond.selects RX4 yX4_readLump yX4_readLump ∈ wsL_law0 := mr8 _ (List.mem_of_getElem? (i := 4) rfl)
theorem wd8_5 : Cond.code yX4_readLump cX4_readLump 4 none ∈ wsL_law0 := mr8 _ (List.mem_of_getElem? (i := 5) rfl)
theorem wd8_6 : Cond.methodLink RX4 53 yX4_readLine ∈ wsL_law0 := mr8 _ (List.mem_of_getElem? (i := 6) rfl)
theorem wd8_7 : Cond.instanceMethod yX4_readLine ∈ wsL_law0 := mr8 _ (List.mem_of_getElem? (i := 7) rfl)
theorem wd8_8 : Cond.selects RX4 yX4_readLine yX4_readLine ∈ wsL_law0 := mr8 _ (List.mem_of_getElem? (i := 8) rfl)
theorem wd8_9 : Cond.code yX4_readLine cX4_readLine 2 none ∈ wsL_law0 := mr8 _ (List.mem_of_getElem? (i := 9) rfl)
theorem wd8_10 : Cond.methodLink RX4 66 yX4_isWord ∈ wsL_law0 := mr8 _ (List.mem_of_getElem? (i := 10) rfl)
theorem wd8_11 : Cond.instanceMethod yX4_isWord ∈ wsL_law0 := mr8 _ (List.mem_of_getElem? (i := 11) rfl)
theorem wd8_12 : Cond.selects RX4 yX4_isWord yX4_isWord ∈ wsL_law0 := mr8 _ (List.mem_of_getElem? (i := 12) rfl)
theorem wd8_13 : Cond.code yX4_isWord cX4_isWord 3 (some .boolean) ∈ wsL_law0 := mr8 _ (List.mem_of_getElem? (i := 13) rfl)
theorem wd8_14 : Cond.methodLink RX4 118 yJ0_length_8abf5 ∈ wsL_law0 := mr8 _ (List.mem_of_getElem? (i := 14) rfl)
theorem wd8_15 : Cond.instanceMethod yJ0_length_8abf5 ∈ wsL_law0 := mr8 _ (List.mem_of_getElem? (i := 15) rfl)
theorem wd8_16 : Cond.selects RJ0 yJ0_length_8abf5 yJ0_length_8abf5 ∈ wsL_law0 := mr8 _ (List.mem_of_getElem? (i := 16) rfl)
theorem wd8_17 : Cond.initialized RJ0 ∈ wsL_law0 := mr8 _ (List.mem_of_getElem? (i := 17) rfl)
theorem wd8_18 : Cond.code yJ0_length_8abf5 cJ0_length_8abf5 1 (some .int) ∈ wsL_law0 := mr8 _ (List.mem_of_getElem? (i := 18) rfl)
theorem wd8_19 : Cond.fieldLink RJ0 9 "java/lang/String" "value" "[B" ∈ wsL_law0 := mr8 _ (List.mem_of_getElem? (i := 19) rfl)
theorem wd8_20 : Cond.methodLink RJ0 335 yJ0_coder_7d493 ∈ wsL_law0 := mr8 _ (List.mem_of_getElem? (i := 20) rfl)
theorem wd8_21 : Cond.instanceMethod yJ0_coder_7d493 ∈ wsL_law0 := mr8 _ (List.mem_of_getElem? (i := 21) rfl)
theorem wd8_22 : Cond.selects RJ0 yJ0_coder_7d493 yJ0_coder_7d493 ∈ wsL_law0 := mr8 _ (List.mem_of_getElem? (i := 22) rfl)
theorem wd8_23 : Cond.code yJ0_coder_7d493 cJ0_coder_7d493 1 (some .byte) ∈ wsL_law0 := mr8 _ (List.mem_of_getElem? (i := 23) rfl)
theorem wd9_0 : Cond.fieldLink RJ0 38 "java/lang/String" "COMPACT_STRINGS" "Z" ∈ wsL_law0 := mr9 _ (List.mem_of_getElem? (i := 0) rfl)
theorem wd9_1 : Cond.fieldLink RJ0 15 "java/lang/String" "coder" "B" ∈ wsL_law0 := mr9 _ (List.mem_of_getElem? (i := 1) rfl)
theorem wd9_2 : Cond.methodLink RX4 123 yJ0_charAt_5068e ∈ wsL_law0 := mr9 _ (List.mem_of_getElem? (i := 2) rfl)
theorem wd9_3 : Cond.instanceMethod yJ0_charAt_5068e ∈ wsL_law0 := mr9 _ (List.mem_of_getElem? (i := 3) rfl)
theorem wd9_4 : Cond.selects RJ0 yJ0_charAt_5068e yJ0_charAt_5068e ∈ wsL_law0 := mr9 _ (List.mem_of_getElem? (i := 4) rfl)
theorem wd9_5 : Cond.code yJ0_charAt_5068e cJ0_charAt_5068e 2 (some .char) ∈ wsL_law0 := mr9 _ (List.mem_of_getElem? (i := 5) rfl)
theorem wd9_6 : Cond.methodLink RJ0 492 yJ0_isLatin1_aae02 ∈ wsL_law0 := mr9 _ (List.mem_of_getElem? (i := 6) rfl)
theorem wd9_7 : Cond.instanceMethod yJ0_isLatin1_aae02 ∈ wsL_law0 := mr9 _ (List.mem_of_getElem? (i := 7) rfl)
theorem wd9_8 : Cond.selects RJ0 yJ0_isLatin1_aae02 yJ0_isLatin1_aae02 ∈ wsL_law0 := mr9 _ (List.mem_of_getElem? (i := 8) rfl)
theorem wd9_9 : Cond.code yJ0_isLatin1_aae02 cJ0_isLatin1_aae02 1 (some .boolean) ∈ wsL_law0 := mr9 _ (List.mem_of_getElem? (i := 9) rfl)
theorem wd9_10 : Cond.methodLink RJ0 495 yJ1_charAt_3b067 ∈ wsL_law0 := mr9 _ (List.mem_of_getElem? (i := 10) rfl)
theorem wd9_11 : Cond.static yJ1_charAt_3b067 ∈ wsL_law0 := mr9 _ (List.mem_of_getElem? (i := 11) rfl)
theorem wd9_12 : Cond.initialized RJ1 ∈ wsL_law0 := mr9 _ (List.mem_of_getElem? (i := 12) rfl)
theorem wd9_13 : Cond.code yJ1_charAt_3b067 cJ1_charAt_3b067 2 (some .char) ∈ wsL_law0 := mr9 _ (List.mem_of_getElem? (i := 13) rfl)
theorem wd9_14 : Cond.methodLink RJ1 9 yJ0_checkIndex_df160 ∈ wsL_law0 := mr9 _ (List.mem_of_getElem? (i := 14) rfl)
theorem wd9_15 : Cond.static yJ0_checkIndex_df160 ∈ wsL_law0 := mr9 _ (List.mem_of_getElem? (i := 15) rfl)
theorem wd9_16 : Cond.code yJ0_checkIndex_df160 cJ0_checkIndex_df160 2 none ∈ wsL_law0 := mr9 _ (List.mem_of_getElem? (i := 16) rfl)
theorem wd9_17 : Cond.fieldLink RJ0 1053 "jdk/internal/util/Preconditions" "SIOOBE_FORMATTER" "Ljava/util/function/BiFunction;" ∈ wsL_law0 := mr9 _ (List.mem_of_getElem? (i := 17) rfl)
theorem wd9_18 : Cond.methodLink RJ0 1059 yJ3_checkIndex_8e157 ∈ wsL_law0 := mr9 _ (List.mem_of_getElem? (i := 18) rfl)
theorem wd9_19 : Cond.static yJ3_checkIndex_8e157 ∈ wsL_law0 := mr9 _ (List.mem_of_getElem? (i := 19) rfl)
theorem wd9_20 : Cond.initialized RJ3 ∈ wsL_law0 := mr9 _ (List.mem_of_getElem? (i := 20) rfl)
theorem wd9_21 : Cond.code yJ3_checkIndex_8e157 cJ3_checkIndex_8e157 3 (some .int) ∈ wsL_law0 := mr9 _ (List.mem_of_getElem? (i := 21) rfl)
theorem wd9_22 : Cond.methodLink RJ0 498 yJ2_charAt_3b067 ∈ wsL_law0 := mr9 _ (List.mem_of_getElem? (i := 22) rfl)
theorem wd9_23 : Cond.static yJ2_charAt_3b067 ∈ wsL_law0 := mr9 _ (List.mem_of_getElem? (i := 23) rfl)
theorem wd10_0 : Cond.initialized RJ2 ∈ wsL_law0 := mr10 _ (List.mem_of_getElem? (i := 0) rfl)
theorem wd10_1 : Cond.code yJ2_charAt_3b067 cJ2_charAt_3b067 2 (some .char) ∈ wsL_law0 := mr10 _ (List.mem_of_getElem? (i := 1) rfl)
theorem wd10_2 : Cond.methodLink RJ2 67 yJ2_checkIndex_2214a ∈ wsL_law0 := mr10 _ (List.mem_of_getElem? (i := 2) rfl)
theorem wd10_3 : Cond.static yJ2_checkIndex_2214a ∈ wsL_law0 := mr10 _ (List.mem_of_getElem? (i := 3) rfl)
theorem wd10_4 : Cond.code yJ2_checkIndex_2214a cJ2_checkIndex_2214a 2 none ∈ wsL_law0 := mr10 _ (List.mem_of_getElem? (i := 4) rfl)
theorem wd10_5 : Cond.methodLink RJ2 48 yJ2_length_9d52b ∈ wsL_law0 := mr10 _ (List.mem_of_getElem? (i := 5) rfl)
theorem wd10_6 : Cond.static yJ2_length_9d52b ∈ wsL_law0 := mr10 _ (List.mem_of_getElem? (i := 6) rfl)
theorem wd10_7 : Cond.code yJ2_length_9d52b cJ2_length_9d52b 1 (some .int) ∈ wsL_law0 := mr10 _ (List.mem_of_getElem? (i := 7) rfl)
theorem wd10_8 : Cond.methodLink RJ2 414 yJ0_checkIndex_df160 ∈ wsL_law0 := mr10 _ (List.mem_of_getElem? (i := 8) rfl)
theorem wd10_9 : Cond.methodLink RJ2 71 yJ2_getChar_3b067 ∈ wsL_law0 := mr10 _ (List.mem_of_getElem? (i := 9) rfl)
theorem wd10_10 : Cond.static yJ2_getChar_3b067 ∈ wsL_law0 := mr10 _ (List.mem_of_getElem? (i := 10) rfl)
theorem wd10_11 : Cond.code yJ2_getChar_3b067 cJ2_getChar_3b067 2 (some .char) ∈ wsL_law0 := mr10 _ (List.mem_of_getElem? (i := 11) rfl)
theorem wd10_12 : Cond.fieldLink RJ2 44 "java/lang/StringUTF16" "$assertionsDisabled" "Z" ∈ wsL_law0 := mr10 _ (List.mem_of_getElem? (i := 12) rfl)
theorem wd10_13 : Cond.fieldLink RJ2 59 "java/lang/StringUTF16" "HI_BYTE_SHIFT" "I" ∈ wsL_law0 := mr10 _ (List.mem_of_getElem? (i := 13) rfl)
theorem wd10_14 : Cond.fieldLink RJ2 63 "java/lang/StringUTF16" "LO_BYTE_SHIFT" "I" ∈ wsL_law0 := mr10 _ (List.mem_of_getElem? (i := 14) rfl)
theorem wd10_15 : Cond.methodLink RX4 70 yX4_readWorks ∈ wsL_law0 := mr10 _ (List.mem_of_getElem? (i := 15) rfl)
theorem wd10_16 : Cond.instanceMethod yX4_readWorks ∈ wsL_law0 := mr10 _ (List.mem_of_getElem? (i := 16) rfl)
theorem wd10_17 : Cond.selects RX4 yX4_readWorks yX4_readWorks ∈ wsL_law0 := mr10 _ (List.mem_of_getElem? (i := 17) rfl)
theorem wd10_18 : Cond.code yX4_readWorks cX4_readWorks 2 none ∈ wsL_law0 := mr10 _ (List.mem_of_getElem? (i := 18) rfl)
theorem wd10_19 : Cond.methodLink RX4 88 yX4_readNumber ∈ wsL_law0 := mr10 _ (List.mem_of_getElem? (i := 19) rfl)
theorem wd10_20 : Cond.instanceMethod yX4_readNumber ∈ wsL_law0 := mr10 _ (List.mem_of_getElem? (i := 20) rfl)
theorem wd10_21 : Cond.selects RX4 yX4_readNumber yX4_readNumber ∈ wsL_law0 := mr10 _ (List.mem_of_getElem? (i := 21) rfl)
theorem wd10_22 : Cond.code yX4_readNumber cX4_readNumber 5 (some .int) ∈ wsL_law0 := mr10 _ (List.mem_of_getElem? (i := 22) rfl)
theorem wd10_23 : Cond.methodLink RX4 60 yX4_fail ∈ wsL_law0 := mr10 _ (List.mem_of_getElem? (i := 23) rfl)
theorem wd11_0 : Cond.instanceMethod yX4_fail ∈ wsL_law0 := mr11 _ (List.mem_of_getElem? (i := 0) rfl)
theorem wd11_1 : Cond.selects RX4 yX4_fail yX4_fail ∈ wsL_law0 := mr11 _ (List.mem_of_getElem? (i := 1) rfl)
theorem wd11_2 : Cond.code yX4_fail cX4_fail 2 none ∈ wsL_law0 := mr11 _ (List.mem_of_getElem? (i := 2) rfl)
theorem wd11_3 : Cond.methodLink RX4 91 yX4_readSign ∈ wsL_law0 := mr11 _ (List.mem_of_getElem? (i := 3) rfl)
theorem wd11_4 : Cond.instanceMethod yX4_readSign ∈ wsL_law0 := mr11 _ (List.mem_of_getElem? (i := 4) rfl)
theorem wd11_5 : Cond.selects RX4 yX4_readSign yX4_readSign ∈ wsL_law0 := mr11 _ (List.mem_of_getElem? (i := 5) rfl)
theorem wd11_6 : Cond.code yX4_readSign cX4_readSign 1 none ∈ wsL_law0 := mr11 _ (List.mem_of_getElem? (i := 6) rfl)
theorem wd11_7 : Cond.methodLink RX4 94 yX3_addLoop ∈ wsL_law0 := mr11 _ (List.mem_of_getElem? (i := 7) rfl)
theorem wd11_8 : Cond.instanceMethod yX3_addLoop ∈ wsL_law0 := mr11 _ (List.mem_of_getElem? (i := 8) rfl)
theorem wd11_9 : Cond.selects RX3 yX3_addLoop yX3_addLoop ∈ wsL_law0 := mr11 _ (List.mem_of_getElem? (i := 9) rfl)
theorem wd11_10 : Cond.code yX3_addLoop cX3_addLoop 4 none ∈ wsL_law0 := mr11 _ (List.mem_of_getElem? (i := 10) rfl)
theorem wd11_11 : Cond.methodLink RX4 75 yX4_readStation ∈ wsL_law0 := mr11 _ (List.mem_of_getElem? (i := 11) rfl)
theorem wd11_12 : Cond.instanceMethod yX4_readStation ∈ wsL_law0 := mr11 _ (List.mem_of_getElem? (i := 12) rfl)
theorem wd11_13 : Cond.selects RX4 yX4_readStation yX4_readStation ∈ wsL_law0 := mr11 _ (List.mem_of_getElem? (i := 13) rfl)
theorem wd11_14 : Cond.code yX4_readStation cX4_readStation 3 none ∈ wsL_law0 := mr11 _ (List.mem_of_getElem? (i := 14) rfl)
theorem wd11_15 : Cond.methodLink RX4 98 yX3_addStation ∈ wsL_law0 := mr11 _ (List.mem_of_getElem? (i := 15) rfl)
theorem wd11_16 : Cond.instanceMethod yX3_addStation ∈ wsL_law0 := mr11 _ (List.mem_of_getElem? (i := 16) rfl)
theorem wd11_17 : Cond.selects RX3 yX3_addStation yX3_addStation ∈ wsL_law0 := mr11 _ (List.mem_of_getElem? (i := 17) rfl)
theorem wd11_18 : Cond.code yX3_addStation cX3_addStation 3 none ∈ wsL_law0 := mr11 _ (List.mem_of_getElem? (i := 18) rfl)
theorem wd11_19 : Cond.methodLink RX4 80 yX4_readLoop ∈ wsL_law0 := mr11 _ (List.mem_of_getElem? (i := 19) rfl)
theorem wd11_20 : Cond.instanceMethod yX4_readLoop ∈ wsL_law0 := mr11 _ (List.mem_of_getElem? (i := 20) rfl)
theorem wd11_21 : Cond.selects RX4 yX4_readLoop yX4_readLoop ∈ wsL_law0 := mr11 _ (List.mem_of_getElem? (i := 21) rfl)
theorem wd11_22 : Cond.code yX4_readLoop cX4_readLoop 4 none ∈ wsL_law0 := mr11 _ (List.mem_of_getElem? (i := 22) rfl)
theorem wd11_23 : Cond.fieldLink RX4 102 "CardLoops$Plan" "loops" "I" ∈ wsL_law0 := mr11 _ (List.mem_of_getElem? (i := 23) rfl)
theorem wd12_0 : Cond.methodLink RX4 85 yX4_readRun ∈ wsL_law0 := mr12 _ (List.mem_of_getElem? (i := 0) rfl)
theorem wd12_1 : Cond.instanceMethod yX4_readRun ∈ wsL_law0 := mr12 _ (List.mem_of_getElem? (i := 1) rfl)
theorem wd12_2 : Cond.selects RX4 yX4_readRun yX4_readRun ∈ wsL_law0 := mr12 _ (List.mem_of_getElem? (i := 2) rfl)
theorem wd12_3 : Cond.code yX4_readRun cX4_readRun 3 none ∈ wsL_law0 := mr12 _ (List.mem_of_getElem? (i := 3) rfl)
theorem wd12_4 : Cond.fieldLink RX4 105 "CardLoops$Plan" "runs" "I" ∈ wsL_law0 := mr12 _ (List.mem_of_getElem? (i := 4) rfl)
theorem wd12_5 : Cond.methodLink RX4 108 yX3_addRun ∈ wsL_law0 := mr12 _ (List.mem_of_getElem? (i := 5) rfl)
theorem wd12_6 : Cond.instanceMethod yX3_addRun ∈ wsL_law0 := mr12 _ (List.mem_of_getElem? (i := 6) rfl)
theorem wd12_7 : Cond.selects RX3 yX3_addRun yX3_addRun ∈ wsL_law0 := mr12 _ (List.mem_of_getElem? (i := 7) rfl)
theorem wd12_8 : Cond.code yX3_addRun cX3_addRun 4 none ∈ wsL_law0 := mr12 _ (List.mem_of_getElem? (i := 8) rfl)
theorem wd12_9 : Cond.methodLink RX5 81 yX3_copyFrom ∈ wsL_law0 := mr12 _ (List.mem_of_getElem? (i := 9) rfl)
theorem wd12_10 : Cond.instanceMethod yX3_copyFrom ∈ wsL_law0 := mr12 _ (List.mem_of_getElem? (i := 10) rfl)
theorem wd12_11 : Cond.selects RX3 yX3_copyFrom yX3_copyFrom ∈ wsL_law0 := mr12 _ (List.mem_of_getElem? (i := 11) rfl)
theorem wd12_12 : Cond.code yX3_copyFrom cX3_copyFrom 2 none ∈ wsL_law0 := mr12 _ (List.mem_of_getElem? (i := 12) rfl)
theorem wd12_13 : Cond.methodLink RX3 43 arraycopyName ∈ wsL_law0 := mr12 _ (List.mem_of_getElem? (i := 13) rfl)
theorem wd12_14 : Cond.native arraycopyName ∈ wsL_law0 := mr12 _ (List.mem_of_getElem? (i := 14) rfl)
theorem wd12_15 : Cond.static arraycopyName ∈ wsL_law0 := mr12 _ (List.mem_of_getElem? (i := 15) rfl)
theorem wd12_16 : Cond.initialized "java/lang/System" ∈ wsL_law0 := mr12 _ (List.mem_of_getElem? (i := 16) rfl)
theorem wd12_17 : Cond.methodLink RX5 87 yX1_startAnew ∈ wsL_law0 := mr12 _ (List.mem_of_getElem? (i := 17) rfl)
theorem wd12_18 : Cond.instanceMethod yX1_startAnew ∈ wsL_law0 := mr12 _ (List.mem_of_getElem? (i := 18) rfl)
theorem wd12_19 : Cond.selects RX1 yX1_startAnew yX1_startAnew ∈ wsL_law0 := mr12 _ (List.mem_of_getElem? (i := 19) rfl)
theorem wd12_20 : Cond.code yX1_startAnew cX1_startAnew 3 none ∈ wsL_law0 := mr12 _ (List.mem_of_getElem? (i := 20) rfl)
theorem wd12_21 : Cond.methodLink RX1 47 arraycopyName ∈ wsL_law0 := mr12 _ (List.mem_of_getElem? (i := 21) rfl)
theorem wd12_22 : Cond.methodLink RX1 53 yJ7_fill_53178 ∈ wsL_law0 := mr12 _ (List.mem_of_getElem? (i := 22) rfl)
theorem wd12_23 : Cond.static yJ7_fill_53178 ∈ wsL_law0 := mr12 _ (List.mem_of_getElem? (i := 23) rfl)
theorem wd13_0 : Cond.initialized RJ7 ∈ wsL_law0 := mr13 _ (List.mem_of_getElem? (i := 0) rfl)
theorem wd13_1 : Cond.code yJ7_fill_53178 cJ7_fill_53178 4 none ∈ wsL_law0 := mr13 _ (List.mem_of_getElem? (i := 1) rfl)
theorem wd13_2 : Cond.methodLink RX1 59 yX1_round ∈ wsL_law0 := mr13 _ (List.mem_of_getElem? (i := 2) rfl)
theorem wd13_3 : Cond.instanceMethod yX1_round ∈ wsL_law0 := mr13 _ (List.mem_of_getElem? (i := 3) rfl)
theorem wd13_4 : Cond.selects RX1 yX1_round yX1_round ∈ wsL_law0 := mr13 _ (List.mem_of_getElem? (i := 4) rfl)
theorem wd13_5 : Cond.code yX1_round cX1_round 2 none ∈ wsL_law0 := mr13 _ (List.mem_of_getElem? (i := 5) rfl)
theorem wd13_6 : Cond.fieldLink RX1 62 "CardLoops$Plan" "stations" "I" ∈ wsL_law0 := mr13 _ (List.mem_of_getElem? (i := 6) rfl)
theorem wd13_7 : Cond.methodLink RX1 83 yX1_isIdle ∈ wsL_law0 := mr13 _ (List.mem_of_getElem? (i := 7) rfl)
theorem wd13_8 : Cond.instanceMethod yX1_isIdle ∈ wsL_law0 := mr13 _ (List.mem_of_getElem? (i := 8) rfl)
theorem wd13_9 : Cond.selects RX1 yX1_isIdle yX1_isIdle ∈ wsL_law0 := mr13 _ (List.mem_of_getElem? (i := 9) rfl)
theorem wd13_10 : Cond.code yX1_isIdle cX1_isIdle 2 (some .boolean) ∈ wsL_law0 := mr13 _ (List.mem_of_getElem? (i := 10) rfl)
theorem wd13_11 : Cond.methodLink RX1 100 yX1_finish ∈ wsL_law0 := mr13 _ (List.mem_of_getElem? (i := 11) rfl)
theorem wd13_12 : Cond.instanceMethod yX1_finish ∈ wsL_law0 := mr13 _ (List.mem_of_getElem? (i := 12) rfl)
theorem wd13_13 : Cond.selects RX1 yX1_finish yX1_finish ∈ wsL_law0 := mr13 _ (List.mem_of_getElem? (i := 13) rfl)
theorem wd13_14 : Cond.code yX1_finish cX1_finish 3 none ∈ wsL_law0 := mr13 _ (List.mem_of_getElem? (i := 14) rfl)
theorem wd13_15 : Cond.methodLink RX1 110 Lib.Math.max.name ∈ wsL_law0 := mr13 _ (List.mem_of_getElem? (i := 15) rfl)
theorem wd13_16 : Cond.static Lib.Math.max.name ∈ wsL_law0 := mr13 _ (List.mem_of_getElem? (i := 16) rfl)
theorem wd13_17 : Cond.code Lib.Math.max.name Lib.Math.max.code 2 (some .int) ∈ wsL_law0 := mr13 _ (List.mem_of_getElem? (i := 17) rfl)
theorem wd13_18 : Cond.methodLink RX1 104 yX1_canBegin ∈ wsL_law0 := mr13 _ (List.mem_of_getElem? (i := 18) rfl)
theorem wd13_19 : Cond.instanceMethod yX1_canBegin ∈ wsL_law0 := mr13 _ (List.mem_of_getElem? (i := 19) rfl)
theorem wd13_20 : Cond.selects RX1 yX1_canBegin yX1_canBegin ∈ wsL_law0 := mr13 _ (List.mem_of_getElem? (i := 20) rfl)
theorem wd13_21 : Cond.code yX1_canBegin cX1_canBegin 3 (some .boolean) ∈ wsL_law0 := mr13 _ (List.mem_of_getElem? (i := 21) rfl)
theorem wd13_22 : Cond.fieldLink RX1 116 "CardLoops$Plan" "loops" "I" ∈ wsL_law0 := mr13 _ (List.mem_of_getElem? (i := 22) rfl)
theorem wd13_23 : Cond.fieldLink RX1 71 "CardLoops$Plan" "from" "[I" ∈ wsL_law0 := mr13 _ (List.mem_of_getElem? (i := 23) rfl)
theorem wd14_0 : Cond.methodLink RX1 97 yX1_waiting ∈ wsL_law0 := mr14 _ (List.mem_of_getElem? (i := 0) rfl)
theorem wd14_1 : Cond.instanceMethod yX1_waiting ∈ wsL_law0 := mr14 _ (List.mem_of_getElem? (i := 1) rfl)
theorem wd14_2 : Cond.selects RX1 yX1_waiting yX1_waiting ∈ wsL_law0 := mr14 _ (List.mem_of_getElem? (i := 2) rfl)
theorem wd14_3 : Cond.code yX1_waiting cX1_waiting 2 (some .int) ∈ wsL_law0 := mr14 _ (List.mem_of_getElem? (i := 3) rfl)
theorem wd14_4 : Cond.methodLink RX1 119 yX1_free ∈ wsL_law0 := mr14 _ (List.mem_of_getElem? (i := 4) rfl)
theorem wd14_5 : Cond.instanceMethod yX1_free ∈ wsL_law0 := mr14 _ (List.mem_of_getElem? (i := 5) rfl)
theorem wd14_6 : Cond.selects RX1 yX1_free yX1_free ∈ wsL_law0 := mr14 _ (List.mem_of_getElem? (i := 6) rfl)
theorem wd14_7 : Cond.code yX1_free cX1_free 2 (some .int) ∈ wsL_law0 := mr14 _ (List.mem_of_getElem? (i := 7) rfl)
theorem wd14_8 : Cond.fieldLink RX1 74 "CardLoops$Plan" "to" "[I" ∈ wsL_law0 := mr14 _ (List.mem_of_getElem? (i := 8) rfl)
theorem wd14_9 : Cond.methodLink RX1 107 yX1_begin ∈ wsL_law0 := mr14 _ (List.mem_of_getElem? (i := 9) rfl)
theorem wd14_10 : Cond.instanceMethod yX1_begin ∈ wsL_law0 := mr14 _ (List.mem_of_getElem? (i := 10) rfl)
theorem wd14_11 : Cond.selects RX1 yX1_begin yX1_begin ∈ wsL_law0 := mr14 _ (List.mem_of_getElem? (i := 11) rfl)
theorem wd14_12 : Cond.code yX1_begin cX1_begin 4 none ∈ wsL_law0 := mr14 _ (List.mem_of_getElem? (i := 12) rfl)
theorem wd14_13 : Cond.fieldLink RX1 122 "CardLoops$Plan" "setups" "[I" ∈ wsL_law0 := mr14 _ (List.mem_of_getElem? (i := 13) rfl)
theorem wd14_14 : Cond.fieldLink RX1 91 "CardLoops$Plan" "times" "[I" ∈ wsL_law0 := mr14 _ (List.mem_of_getElem? (i := 14) rfl)
theorem wd14_15 : Cond.methodLink RX1 87 yX1_kindOf ∈ wsL_law0 := mr14 _ (List.mem_of_getElem? (i := 15) rfl)
theorem wd14_16 : Cond.instanceMethod yX1_kindOf ∈ wsL_law0 := mr14 _ (List.mem_of_getElem? (i := 16) rfl)
theorem wd14_17 : Cond.selects RX1 yX1_kindOf yX1_kindOf ∈ wsL_law0 := mr14 _ (List.mem_of_getElem? (i := 17) rfl)
theorem wd14_18 : Cond.code yX1_kindOf cX1_kindOf 2 (some .int) ∈ wsL_law0 := mr14 _ (List.mem_of_getElem? (i := 18) rfl)
theorem wd14_19 : Cond.fieldLink RX1 77 "CardLoops$Plan" "places" "I" ∈ wsL_law0 := mr14 _ (List.mem_of_getElem? (i := 19) rfl)
theorem wd14_20 : Cond.fieldLink RX1 80 "CardLoops$Plan" "kinds" "[I" ∈ wsL_law0 := mr14 _ (List.mem_of_getElem? (i := 20) rfl)
theorem wd14_21 : Cond.methodLink RX5 91 yX0_clear ∈ wsL_law0 := mr14 _ (List.mem_of_getElem? (i := 21) rfl)
theorem wd14_22 : Cond.instanceMethod yX0_clear ∈ wsL_law0 := mr14 _ (List.mem_of_getElem? (i := 22) rfl)
theorem wd14_23 : Cond.selects RX0 yX0_clear yX0_clear ∈ wsL_law0 := mr14 _ (List.mem_of_getElem? (i := 23) rfl)
theorem wd15_0 : Cond.code yX0_clear cX0_clear 1 none ∈ wsL_law0 := mr15 _ (List.mem_of_getElem? (i := 0) rfl)
theorem wd15_1 : Cond.methodLink RX5 94 yX5_forgetPaces ∈ wsL_law0 := mr15 _ (List.mem_of_getElem? (i := 1) rfl)
theorem wd15_2 : Cond.instanceMethod yX5_forgetPaces ∈ wsL_law0 := mr15 _ (List.mem_of_getElem? (i := 2) rfl)
theorem wd15_3 : Cond.selects RX5 yX5_forgetPaces yX5_forgetPaces ∈ wsL_law0 := mr15 _ (List.mem_of_getElem? (i := 3) rfl)
theorem wd15_4 : Cond.code yX5_forgetPaces cX5_forgetPaces 1 none ∈ wsL_law0 := mr15 _ (List.mem_of_getElem? (i := 4) rfl)
theorem wd15_5 : Cond.methodLink RX5 245 yJ7_fill_53178 ∈ wsL_law0 := mr15 _ (List.mem_of_getElem? (i := 5) rfl)
theorem wd15_6 : Cond.methodLink RL 33 yX6_text ∈ wsL_law0 := mr15 _ (List.mem_of_getElem? (i := 6) rfl)
theorem wd15_7 : Cond.instanceMethod yX6_text ∈ wsL_law0 := mr15 _ (List.mem_of_getElem? (i := 7) rfl)
theorem wd15_8 : Cond.selects RX6 yX6_text yX6_text ∈ wsL_law0 := mr15 _ (List.mem_of_getElem? (i := 8) rfl)
theorem wd15_9 : Cond.code yX6_text cX6_text 3 (some .int) ∈ wsL_law0 := mr15 _ (List.mem_of_getElem? (i := 9) rfl)
theorem wd15_10 : Cond.fieldLink RX6 22 "CardLoopsModel" "size" "I" ∈ wsL_law0 := mr15 _ (List.mem_of_getElem? (i := 10) rfl)
theorem wd15_11 : Cond.fieldLink RX6 72 "CardLoopsModel" "fault" "I" ∈ wsL_law0 := mr15 _ (List.mem_of_getElem? (i := 11) rfl)
theorem wd15_12 : Cond.fieldLink RX6 25 "CardLoopsModel" "to" "I" ∈ wsL_law0 := mr15 _ (List.mem_of_getElem? (i := 12) rfl)
theorem wd15_13 : Cond.fieldLink RX6 31 "CardLoopsModel" "sort" "I" ∈ wsL_law0 := mr15 _ (List.mem_of_getElem? (i := 13) rfl)
theorem wd15_14 : Cond.fieldLink RX6 75 "CardLoopsModel" "place" "I" ∈ wsL_law0 := mr15 _ (List.mem_of_getElem? (i := 14) rfl)
theorem wd15_15 : Cond.fieldLink RX6 158 "CardLoopsModel" "snapMany" "I" ∈ wsL_law0 := mr15 _ (List.mem_of_getElem? (i := 15) rfl)
theorem wd15_16 : Cond.methodLink RX6 118 yX6_go ∈ wsL_law0 := mr15 _ (List.mem_of_getElem? (i := 16) rfl)
theorem wd15_17 : Cond.instanceMethod yX6_go ∈ wsL_law0 := mr15 _ (List.mem_of_getElem? (i := 17) rfl)
theorem wd15_18 : Cond.selects RX6 yX6_go yX6_go ∈ wsL_law0 := mr15 _ (List.mem_of_getElem? (i := 18) rfl)
theorem wd15_19 : Cond.code yX6_go cX6_go 5 none ∈ wsL_law0 := mr15 _ (List.mem_of_getElem? (i := 19) rfl)
theorem wd15_20 : Cond.fieldLink RX6 28 "CardLoopsModel" "from" "I" ∈ wsL_law0 := mr15 _ (List.mem_of_getElem? (i := 20) rfl)
theorem wd15_21 : Cond.fieldLink RX6 41 "CardLoopsModel" "word" "J" ∈ wsL_law0 := mr15 _ (List.mem_of_getElem? (i := 21) rfl)
theorem wd15_22 : Cond.fieldLink RX6 45 "CardLoopsModel" "number" "I" ∈ wsL_law0 := mr15 _ (List.mem_of_getElem? (i := 22) rfl)
theorem wd15_23 : Cond.constantLong RX6 52 (27) ∈ wsL_law0 := mr15 _ (List.mem_of_getElem? (i := 23) rfl)
theorem wd16_0 : Cond.constantLong RX6 54 (96) ∈ wsL_law0 := mr16 _ (List.mem_of_getElem? (i := 0) rfl)
theorem wd16_1 : Cond.methodLink RX6 34 yX6_isLetter ∈ wsL_law0 := mr16 _ (List.mem_of_getElem? (i := 1) rfl)
theorem wd16_2 : Cond.static yX6_isLetter ∈ wsL_law0 := mr16 _ (List.mem_of_getElem? (i := 2) rfl)
theorem wd16_3 : Cond.code yX6_isLetter cX6_isLetter 1 (some .boolean) ∈ wsL_law0 := mr16 _ (List.mem_of_getElem? (i := 3) rfl)
theorem wd16_4 : Cond.methodLink RX6 38 yX6_isDigit ∈ wsL_law0 := mr16 _ (List.mem_of_getElem? (i := 4) rfl)
theorem wd16_5 : Cond.static yX6_isDigit ∈ wsL_law0 := mr16 _ (List.mem_of_getElem? (i := 5) rfl)
theorem wd16_6 : Cond.code yX6_isDigit cX6_isDigit 1 (some .boolean) ∈ wsL_law0 := mr16 _ (List.mem_of_getElem? (i := 6) rfl)
theorem wd16_7 : Cond.methodLink RX6 48 yX6_tapeAt ∈ wsL_law0 := mr16 _ (List.mem_of_getElem? (i := 7) rfl)
theorem wd16_8 : Cond.instanceMethod yX6_tapeAt ∈ wsL_law0 := mr16 _ (List.mem_of_getElem? (i := 8) rfl)
theorem wd16_9 : Cond.selects RX6 yX6_tapeAt yX6_tapeAt ∈ wsL_law0 := mr16 _ (List.mem_of_getElem? (i := 9) rfl)
theorem wd16_10 : Cond.code yX6_tapeAt cX6_tapeAt 2 (some .int) ∈ wsL_law0 := mr16 _ (List.mem_of_getElem? (i := 10) rfl)
theorem wd16_11 : Cond.methodLink RX6 145 yX6_readLine ∈ wsL_law0 := mr16 _ (List.mem_of_getElem? (i := 11) rfl)
theorem wd16_12 : Cond.instanceMethod yX6_readLine ∈ wsL_law0 := mr16 _ (List.mem_of_getElem? (i := 12) rfl)
theorem wd16_13 : Cond.selects RX6 yX6_readLine yX6_readLine ∈ wsL_law0 := mr16 _ (List.mem_of_getElem? (i := 13) rfl)
theorem wd16_14 : Cond.code yX6_readLine cX6_readLine 1 (some .boolean) ∈ wsL_law0 := mr16 _ (List.mem_of_getElem? (i := 14) rfl)
theorem wd16_15 : Cond.constantLong RX6 140 (13703) ∈ wsL_law0 := mr16 _ (List.mem_of_getElem? (i := 15) rfl)
theorem wd16_16 : Cond.methodLink RX6 124 yX6_isWorks ∈ wsL_law0 := mr16 _ (List.mem_of_getElem? (i := 16) rfl)
theorem wd16_17 : Cond.instanceMethod yX6_isWorks ∈ wsL_law0 := mr16 _ (List.mem_of_getElem? (i := 17) rfl)
theorem wd16_18 : Cond.selects RX6 yX6_isWorks yX6_isWorks ∈ wsL_law0 := mr16 _ (List.mem_of_getElem? (i := 18) rfl)
theorem wd16_19 : Cond.code yX6_isWorks cX6_isWorks 1 (some .boolean) ∈ wsL_law0 := mr16 _ (List.mem_of_getElem? (i := 19) rfl)
theorem wd16_20 : Cond.constantLong RX6 60 (19) ∈ wsL_law0 := mr16 _ (List.mem_of_getElem? (i := 20) rfl)
theorem wd16_21 : Cond.methodLink RX6 56 yX6_four ∈ wsL_law0 := mr16 _ (List.mem_of_getElem? (i := 21) rfl)
theorem wd16_22 : Cond.static yX6_four ∈ wsL_law0 := mr16 _ (List.mem_of_getElem? (i := 22) rfl)
theorem wd16_23 : Cond.code yX6_four cX6_four 4 (some .long) ∈ wsL_law0 := mr16 _ (List.mem_of_getElem? (i := 23) rfl)
theorem wd17_0 : Cond.methodLink RX6 62 yX6_isWord ∈ wsL_law0 := mr17 _ (List.mem_of_getElem? (i := 0) rfl)
theorem wd17_1 : Cond.instanceMethod yX6_isWord ∈ wsL_law0 := mr17 _ (List.mem_of_getElem? (i := 1) rfl)
theorem wd17_2 : Cond.selects RX6 yX6_isWord yX6_isWord ∈ wsL_law0 := mr17 _ (List.mem_of_getElem? (i := 2) rfl)
theorem wd17_3 : Cond.code yX6_isWord cX6_isWord 3 (some .boolean) ∈ wsL_law0 := mr17 _ (List.mem_of_getElem? (i := 3) rfl)
theorem wd17_4 : Cond.methodLink RX6 128 yX6_readWorks ∈ wsL_law0 := mr17 _ (List.mem_of_getElem? (i := 4) rfl)
theorem wd17_5 : Cond.instanceMethod yX6_readWorks ∈ wsL_law0 := mr17 _ (List.mem_of_getElem? (i := 5) rfl)
theorem wd17_6 : Cond.selects RX6 yX6_readWorks yX6_readWorks ∈ wsL_law0 := mr17 _ (List.mem_of_getElem? (i := 6) rfl)
theorem wd17_7 : Cond.code yX6_readWorks cX6_readWorks 1 (some .boolean) ∈ wsL_law0 := mr17 _ (List.mem_of_getElem? (i := 7) rfl)
theorem wd17_8 : Cond.methodLink RX6 121 yX6_told ∈ wsL_law0 := mr17 _ (List.mem_of_getElem? (i := 8) rfl)
theorem wd17_9 : Cond.instanceMethod yX6_told ∈ wsL_law0 := mr17 _ (List.mem_of_getElem? (i := 9) rfl)
theorem wd17_10 : Cond.selects RX6 yX6_told yX6_told ∈ wsL_law0 := mr17 _ (List.mem_of_getElem? (i := 10) rfl)
theorem wd17_11 : Cond.code yX6_told cX6_told 4 (some .boolean) ∈ wsL_law0 := mr17 _ (List.mem_of_getElem? (i := 11) rfl)
theorem wd17_12 : Cond.methodLink RX6 111 yX6_bad ∈ wsL_law0 := mr17 _ (List.mem_of_getElem? (i := 12) rfl)
theorem wd17_13 : Cond.instanceMethod yX6_bad ∈ wsL_law0 := mr17 _ (List.mem_of_getElem? (i := 13) rfl)
theorem wd17_14 : Cond.selects RX6 yX6_bad yX6_bad ∈ wsL_law0 := mr17 _ (List.mem_of_getElem? (i := 14) rfl)
theorem wd17_15 : Cond.code yX6_bad cX6_bad 2 (some .boolean) ∈ wsL_law0 := mr17 _ (List.mem_of_getElem? (i := 15) rfl)
theorem wd17_16 : Cond.methodLink RX6 114 yX6_isIn ∈ wsL_law0 := mr17 _ (List.mem_of_getElem? (i := 16) rfl)
theorem wd17_17 : Cond.static yX6_isIn ∈ wsL_law0 := mr17 _ (List.mem_of_getElem? (i := 17) rfl)
theorem wd17_18 : Cond.code yX6_isIn cX6_isIn 3 (some .boolean) ∈ wsL_law0 := mr17 _ (List.mem_of_getElem? (i := 18) rfl)
theorem wd17_19 : Cond.methodLink RX6 131 yX6_isStationWord ∈ wsL_law0 := mr17 _ (List.mem_of_getElem? (i := 19) rfl)
theorem wd17_20 : Cond.instanceMethod yX6_isStationWord ∈ wsL_law0 := mr17 _ (List.mem_of_getElem? (i := 20) rfl)
theorem wd17_21 : Cond.selects RX6 yX6_isStationWord yX6_isStationWord ∈ wsL_law0 := mr17 _ (List.mem_of_getElem? (i := 21) rfl)
theorem wd17_22 : Cond.code yX6_isStationWord cX6_isStationWord 1 (some .boolean) ∈ wsL_law0 := mr17 _ (List.mem_of_getElem? (i := 22) rfl)
theorem wd17_23 : Cond.constantLong RX6 66 (9) ∈ wsL_law0 := mr17 _ (List.mem_of_getElem? (i := 23) rfl)
theorem wd18_0 : Cond.constantLong RX6 68 (15) ∈ wsL_law0 := mr18 _ (List.mem_of_getElem? (i := 0) rfl)
theorem wd18_1 : Cond.constantLong RX6 70 (14) ∈ wsL_law0 := mr18 _ (List.mem_of_getElem? (i := 1) rfl)
theorem wd18_2 : Cond.methodLink RX6 134 yX6_readStation ∈ wsL_law0 := mr18 _ (List.mem_of_getElem? (i := 2) rfl)
theorem wd18_3 : Cond.instanceMethod yX6_readStation ∈ wsL_law0 := mr18 _ (List.mem_of_getElem? (i := 3) rfl)
theorem wd18_4 : Cond.selects RX6 yX6_readStation yX6_readStation ∈ wsL_law0 := mr18 _ (List.mem_of_getElem? (i := 4) rfl)
theorem wd18_5 : Cond.code yX6_readStation cX6_readStation 2 (some .boolean) ∈ wsL_law0 := mr18 _ (List.mem_of_getElem? (i := 5) rfl)
theorem wd18_6 : Cond.methodLink RX6 137 yX6_readLoop ∈ wsL_law0 := mr18 _ (List.mem_of_getElem? (i := 6) rfl)
theorem wd18_7 : Cond.instanceMethod yX6_readLoop ∈ wsL_law0 := mr18 _ (List.mem_of_getElem? (i := 7) rfl)
theorem wd18_8 : Cond.selects RX6 yX6_readLoop yX6_readLoop ∈ wsL_law0 := mr18 _ (List.mem_of_getElem? (i := 8) rfl)
theorem wd18_9 : Cond.code yX6_readLoop cX6_readLoop 2 (some .boolean) ∈ wsL_law0 := mr18 _ (List.mem_of_getElem? (i := 9) rfl)
theorem wd18_10 : Cond.methodLink RX6 142 yX6_readRun ∈ wsL_law0 := mr18 _ (List.mem_of_getElem? (i := 10) rfl)
theorem wd18_11 : Cond.instanceMethod yX6_readRun ∈ wsL_law0 := mr18 _ (List.mem_of_getElem? (i := 11) rfl)
theorem wd18_12 : Cond.selects RX6 yX6_readRun yX6_readRun ∈ wsL_law0 := mr18 _ (List.mem_of_getElem? (i := 12) rfl)
theorem wd18_13 : Cond.code yX6_readRun cX6_readRun 2 (some .boolean) ∈ wsL_law0 := mr18 _ (List.mem_of_getElem? (i := 13) rfl)
theorem wd18_14 : Cond.methodLink RX6 148 yX6_readEnd ∈ wsL_law0 := mr18 _ (List.mem_of_getElem? (i := 14) rfl)
theorem wd18_15 : Cond.instanceMethod yX6_readEnd ∈ wsL_law0 := mr18 _ (List.mem_of_getElem? (i := 15) rfl)
theorem wd18_16 : Cond.selects RX6 yX6_readEnd yX6_readEnd ∈ wsL_law0 := mr18 _ (List.mem_of_getElem? (i := 16) rfl)
theorem wd18_17 : Cond.code yX6_readEnd cX6_readEnd 1 (some .boolean) ∈ wsL_law0 := mr18 _ (List.mem_of_getElem? (i := 17) rfl)
theorem wd18_18 : Cond.methodLink RX6 151 yX6_begins ∈ wsL_law0 := mr18 _ (List.mem_of_getElem? (i := 18) rfl)
theorem wd18_19 : Cond.static yX6_begins ∈ wsL_law0 := mr18 _ (List.mem_of_getElem? (i := 19) rfl)
theorem wd18_20 : Cond.code yX6_begins cX6_begins 1 none ∈ wsL_law0 := mr18 _ (List.mem_of_getElem? (i := 20) rfl)
theorem wd18_21 : Cond.methodLink RX6 190 yX6_rounds ∈ wsL_law0 := mr18 _ (List.mem_of_getElem? (i := 21) rfl)
theorem wd18_22 : Cond.static yX6_rounds ∈ wsL_law0 := mr18 _ (List.mem_of_getElem? (i := 22) rfl)
theorem wd18_23 : Cond.code yX6_rounds cX6_rounds 3 (some .int) ∈ wsL_law0 := mr18 _ (List.mem_of_getElem? (i := 23) rfl)
theorem wd19_0 : Cond.methodLink RX6 169 yX6_isIdle ∈ wsL_law0 := mr19 _ (List.mem_of_getElem? (i := 0) rfl)
theorem wd19_1 : Cond.static yX6_isIdle ∈ wsL_law0 := mr19 _ (List.mem_of_getElem? (i := 1) rfl)
theorem wd19_2 : Cond.code yX6_isIdle cX6_isIdle 2 (some .boolean) ∈ wsL_law0 := mr19 _ (List.mem_of_getElem? (i := 2) rfl)
theorem wd19_3 : Cond.methodLink RX6 165 yX6_its ∈ wsL_law0 := mr19 _ (List.mem_of_getElem? (i := 3) rfl)
theorem wd19_4 : Cond.static yX6_its ∈ wsL_law0 := mr19 _ (List.mem_of_getElem? (i := 4) rfl)
theorem wd19_5 : Cond.code yX6_its cX6_its 3 (some .int) ∈ wsL_law0 := mr19 _ (List.mem_of_getElem? (i := 5) rfl)
theorem wd19_6 : Cond.methodLink RX6 183 yX6_goesOn ∈ wsL_law0 := mr19 _ (List.mem_of_getElem? (i := 6) rfl)
theorem wd19_7 : Cond.static yX6_goesOn ∈ wsL_law0 := mr19 _ (List.mem_of_getElem? (i := 7) rfl)
theorem wd19_8 : Cond.code yX6_goesOn cX6_goesOn 5 (some .int) ∈ wsL_law0 := mr19 _ (List.mem_of_getElem? (i := 8) rfl)
theorem wd19_9 : Cond.methodLink RX6 186 yX6_tries ∈ wsL_law0 := mr19 _ (List.mem_of_getElem? (i := 9) rfl)
theorem wd19_10 : Cond.static yX6_tries ∈ wsL_law0 := mr19 _ (List.mem_of_getElem? (i := 10) rfl)
theorem wd19_11 : Cond.code yX6_tries cX6_tries 6 none ∈ wsL_law0 := mr19 _ (List.mem_of_getElem? (i := 11) rfl)
theorem wd19_12 : Cond.methodLink RX6 173 yX6_waiting ∈ wsL_law0 := mr19 _ (List.mem_of_getElem? (i := 12) rfl)
theorem wd19_13 : Cond.static yX6_waiting ∈ wsL_law0 := mr19 _ (List.mem_of_getElem? (i := 13) rfl)
theorem wd19_14 : Cond.code yX6_waiting cX6_waiting 2 (some .int) ∈ wsL_law0 := mr19 _ (List.mem_of_getElem? (i := 14) rfl)
theorem wd19_15 : Cond.methodLink RX6 177 yX6_hasCards ∈ wsL_law0 := mr19 _ (List.mem_of_getElem? (i := 15) rfl)
theorem wd19_16 : Cond.static yX6_hasCards ∈ wsL_law0 := mr19 _ (List.mem_of_getElem? (i := 16) rfl)
theorem wd19_17 : Cond.code yX6_hasCards cX6_hasCards 3 (some .boolean) ∈ wsL_law0 := mr19 _ (List.mem_of_getElem? (i := 17) rfl)
theorem wd19_18 : Cond.methodLink RX6 180 yX6_kindOf ∈ wsL_law0 := mr19 _ (List.mem_of_getElem? (i := 18) rfl)
theorem wd19_19 : Cond.static yX6_kindOf ∈ wsL_law0 := mr19 _ (List.mem_of_getElem? (i := 19) rfl)
theorem wd19_20 : Cond.code yX6_kindOf cX6_kindOf 4 (some .int) ∈ wsL_law0 := mr19 _ (List.mem_of_getElem? (i := 20) rfl)
theorem wd19_21 : Cond.methodLink RX6 161 yX6_perRound ∈ wsL_law0 := mr19 _ (List.mem_of_getElem? (i := 21) rfl)
theorem wd19_22 : Cond.static yX6_perRound ∈ wsL_law0 := mr19 _ (List.mem_of_getElem? (i := 22) rfl)
theorem wd19_23 : Cond.code yX6_perRound cX6_perRound 3 (some .int) ∈ wsL_law0 := mr19 _ (List.mem_of_getElem? (i := 23) rfl)
theorem wd20_0 : Cond.methodLink RX6 154 yX6_copy ∈ wsL_law0 := mr20 _ (List.mem_of_getElem? (i := 0) rfl)
theorem wd20_1 : Cond.static yX6_copy ∈ wsL_law0 := mr20 _ (List.mem_of_getElem? (i := 1) rfl)
theorem wd20_2 : Cond.code yX6_copy cX6_copy 5 none ∈ wsL_law0 := mr20 _ (List.mem_of_getElem? (i := 2) rfl)
theorem wd20_3 : Cond.methodLink RL 34 yX5_fault ∈ wsL_law0 := mr20 _ (List.mem_of_getElem? (i := 3) rfl)
theorem wd20_4 : Cond.instanceMethod yX5_fault ∈ wsL_law0 := mr20 _ (List.mem_of_getElem? (i := 4) rfl)
theorem wd20_5 : Cond.selects RX5 yX5_fault yX5_fault ∈ wsL_law0 := mr20 _ (List.mem_of_getElem? (i := 5) rfl)
theorem wd20_6 : Cond.code yX5_fault cX5_fault 1 (some .int) ∈ wsL_law0 := mr20 _ (List.mem_of_getElem? (i := 6) rfl)
theorem wd20_7 : Cond.fieldLink RX5 97 "CardLoops$Reader" "faultKind" "I" ∈ wsL_law0 := mr20 _ (List.mem_of_getElem? (i := 7) rfl)
theorem wd20_8 : Cond.methodLink RL 37 yX6_fault ∈ wsL_law0 := mr20 _ (List.mem_of_getElem? (i := 8) rfl)
theorem wd20_9 : Cond.instanceMethod yX6_fault ∈ wsL_law0 := mr20 _ (List.mem_of_getElem? (i := 9) rfl)
theorem wd20_10 : Cond.selects RX6 yX6_fault yX6_fault ∈ wsL_law0 := mr20 _ (List.mem_of_getElem? (i := 10) rfl)
theorem wd20_11 : Cond.code yX6_fault cX6_fault 1 (some .int) ∈ wsL_law0 := mr20 _ (List.mem_of_getElem? (i := 11) rfl)
theorem wd20_12 : Cond.methodLink RL 38 yX5_now ∈ wsL_law0 := mr20 _ (List.mem_of_getElem? (i := 12) rfl)
theorem wd20_13 : Cond.instanceMethod yX5_now ∈ wsL_law0 := mr20 _ (List.mem_of_getElem? (i := 13) rfl)
theorem wd20_14 : Cond.selects RX5 yX5_now yX5_now ∈ wsL_law0 := mr20 _ (List.mem_of_getElem? (i := 14) rfl)
theorem wd20_15 : Cond.code yX5_now cX5_now 2 (some .int) ∈ wsL_law0 := mr20 _ (List.mem_of_getElem? (i := 15) rfl)
theorem wd20_16 : Cond.fieldLink RX5 100 "CardLoops$Plan" "stations" "I" ∈ wsL_law0 := mr20 _ (List.mem_of_getElem? (i := 16) rfl)
theorem wd20_17 : Cond.fieldLink RX5 103 "CardLoops$Plan" "loops" "I" ∈ wsL_law0 := mr20 _ (List.mem_of_getElem? (i := 17) rfl)
theorem wd20_18 : Cond.fieldLink RX5 106 "CardLoops$Plan" "runs" "I" ∈ wsL_law0 := mr20 _ (List.mem_of_getElem? (i := 18) rfl)
theorem wd20_19 : Cond.fieldLink RX5 109 "CardLoops$Line" "time" "I" ∈ wsL_law0 := mr20 _ (List.mem_of_getElem? (i := 19) rfl)
theorem wd20_20 : Cond.fieldLink RX5 119 "CardLoops$Line" "latestLead" "I" ∈ wsL_law0 := mr20 _ (List.mem_of_getElem? (i := 20) rfl)
theorem wd20_21 : Cond.fieldLink RX5 122 "CardLoops$Line" "longestLead" "I" ∈ wsL_law0 := mr20 _ (List.mem_of_getElem? (i := 21) rfl)
theorem wd20_22 : Cond.fieldLink RX5 125 "CardLoops$History" "count" "I" ∈ wsL_law0 := mr20 _ (List.mem_of_getElem? (i := 22) rfl)
theorem wd20_23 : Cond.methodLink RX5 112 yX1_out ∈ wsL_law0 := mr20 _ (List.mem_of_getElem? (i := 23) rfl)
theorem wd21_0 : Cond.instanceMethod yX1_out ∈ wsL_law0 := mr21 _ (List.mem_of_getElem? (i := 0) rfl)
theorem wd21_1 : Cond.selects RX1 yX1_out yX1_out ∈ wsL_law0 := mr21 _ (List.mem_of_getElem? (i := 1) rfl)
theorem wd21_2 : Cond.code yX1_out cX1_out 1 (some .int) ∈ wsL_law0 := mr21 _ (List.mem_of_getElem? (i := 2) rfl)
theorem wd21_3 : Cond.methodLink RX5 116 yX1_onTheirWay ∈ wsL_law0 := mr21 _ (List.mem_of_getElem? (i := 3) rfl)
theorem wd21_4 : Cond.instanceMethod yX1_onTheirWay ∈ wsL_law0 := mr21 _ (List.mem_of_getElem? (i := 4) rfl)
theorem wd21_5 : Cond.selects RX1 yX1_onTheirWay yX1_onTheirWay ∈ wsL_law0 := mr21 _ (List.mem_of_getElem? (i := 5) rfl)
theorem wd21_6 : Cond.code yX1_onTheirWay cX1_onTheirWay 1 (some .int) ∈ wsL_law0 := mr21 _ (List.mem_of_getElem? (i := 6) rfl)
theorem wd21_7 : Cond.methodLink RX1 67 yX1_out ∈ wsL_law0 := mr21 _ (List.mem_of_getElem? (i := 7) rfl)
theorem wd21_8 : Cond.methodLink RL 42 yX6_now ∈ wsL_law0 := mr21 _ (List.mem_of_getElem? (i := 8) rfl)
theorem wd21_9 : Cond.instanceMethod yX6_now ∈ wsL_law0 := mr21 _ (List.mem_of_getElem? (i := 9) rfl)
theorem wd21_10 : Cond.selects RX6 yX6_now yX6_now ∈ wsL_law0 := mr21 _ (List.mem_of_getElem? (i := 10) rfl)
theorem wd21_11 : Cond.code yX6_now cX6_now 2 (some .int) ∈ wsL_law0 := mr21 _ (List.mem_of_getElem? (i := 11) rfl)
theorem wd21_12 : Cond.methodLink RL 43 yL_station ∈ wsL_law0 := mr21 _ (List.mem_of_getElem? (i := 12) rfl)
theorem wd21_13 : Cond.static yL_station ∈ wsL_law0 := mr21 _ (List.mem_of_getElem? (i := 13) rfl)
theorem wd21_14 : Cond.initialized RL ∈ wsL_law0 := mr21 _ (List.mem_of_getElem? (i := 14) rfl)
theorem wd21_15 : Cond.codeWith yL_station cL_station 5 (some .int) [(0, 10, 13, 13)] ∈ wsL_law0 := mr21 _ (List.mem_of_getElem? (i := 15) rfl)
theorem wd21_16 : Cond.classLink RL 13 "java/util/NoSuchElementException" ∈ wsL_law0 := mr21 _ (List.mem_of_getElem? (i := 16) rfl)
theorem wd21_17 : Cond.methodLink RL 7 yX5_station ∈ wsL_law0 := mr21 _ (List.mem_of_getElem? (i := 17) rfl)
theorem wd21_18 : Cond.instanceMethod yX5_station ∈ wsL_law0 := mr21 _ (List.mem_of_getElem? (i := 18) rfl)
theorem wd21_19 : Cond.selects RX5 yX5_station yX5_station ∈ wsL_law0 := mr21 _ (List.mem_of_getElem? (i := 19) rfl)
theorem wd21_20 : Cond.code yX5_station cX5_station 3 (some .int) ∈ wsL_law0 := mr21 _ (List.mem_of_getElem? (i := 20) rfl)
theorem wd21_21 : Cond.classLink RX5 128 "java/util/NoSuchElementException" ∈ wsL_law0 := mr21 _ (List.mem_of_getElem? (i := 21) rfl)
theorem wd21_22 : Cond.initialized "java/util/NoSuchElementException" ∈ wsL_law0 := mr21 _ (List.mem_of_getElem? (i := 22) rfl)
theorem wd21_23 : Cond.fieldLink RX5 135 "CardLoops$Plan" "times" "[I" ∈ wsL_law0 := mr21 _ (List.mem_of_getElem? (i := 23) rfl)
theorem wd22_0 : Cond.fieldLink RX5 138 "CardLoops$Plan" "setups" "[I" ∈ wsL_law0 := mr22 _ (List.mem_of_getElem? (i := 0) rfl)
theorem wd22_1 : Cond.fieldLink RX5 154 "CardLoops$Line" "ends" "[I" ∈ wsL_law0 := mr22 _ (List.mem_of_getElem? (i := 1) rfl)
theorem wd22_2 : Cond.fieldLink RX5 157 "CardLoops$Line" "minutes" "[I" ∈ wsL_law0 := mr22 _ (List.mem_of_getElem? (i := 2) rfl)
theorem wd22_3 : Cond.methodLink RX5 141 yX1_stateOf ∈ wsL_law0 := mr22 _ (List.mem_of_getElem? (i := 3) rfl)
theorem wd22_4 : Cond.instanceMethod yX1_stateOf ∈ wsL_law0 := mr22 _ (List.mem_of_getElem? (i := 4) rfl)
theorem wd22_5 : Cond.selects RX1 yX1_stateOf yX1_stateOf ∈ wsL_law0 := mr22 _ (List.mem_of_getElem? (i := 5) rfl)
theorem wd22_6 : Cond.code yX1_stateOf cX1_stateOf 2 (some .int) ∈ wsL_law0 := mr22 _ (List.mem_of_getElem? (i := 6) rfl)
theorem wd22_7 : Cond.methodLink RX1 94 yX1_setUpAt ∈ wsL_law0 := mr22 _ (List.mem_of_getElem? (i := 7) rfl)
theorem wd22_8 : Cond.instanceMethod yX1_setUpAt ∈ wsL_law0 := mr22 _ (List.mem_of_getElem? (i := 8) rfl)
theorem wd22_9 : Cond.selects RX1 yX1_setUpAt yX1_setUpAt ∈ wsL_law0 := mr22 _ (List.mem_of_getElem? (i := 9) rfl)
theorem wd22_10 : Cond.code yX1_setUpAt cX1_setUpAt 2 (some .int) ∈ wsL_law0 := mr22 _ (List.mem_of_getElem? (i := 10) rfl)
theorem wd22_11 : Cond.methodLink RX5 144 yX1_kindAt ∈ wsL_law0 := mr22 _ (List.mem_of_getElem? (i := 11) rfl)
theorem wd22_12 : Cond.instanceMethod yX1_kindAt ∈ wsL_law0 := mr22 _ (List.mem_of_getElem? (i := 12) rfl)
theorem wd22_13 : Cond.selects RX1 yX1_kindAt yX1_kindAt ∈ wsL_law0 := mr22 _ (List.mem_of_getElem? (i := 13) rfl)
theorem wd22_14 : Cond.code yX1_kindAt cX1_kindAt 2 (some .int) ∈ wsL_law0 := mr22 _ (List.mem_of_getElem? (i := 14) rfl)
theorem wd22_15 : Cond.methodLink RX5 147 yX1_waiting ∈ wsL_law0 := mr22 _ (List.mem_of_getElem? (i := 15) rfl)
theorem wd22_16 : Cond.methodLink RX5 150 yX1_isIdle ∈ wsL_law0 := mr22 _ (List.mem_of_getElem? (i := 16) rfl)
theorem wd22_17 : Cond.methodLink RL 48 yX6_station ∈ wsL_law0 := mr22 _ (List.mem_of_getElem? (i := 17) rfl)
theorem wd22_18 : Cond.instanceMethod yX6_station ∈ wsL_law0 := mr22 _ (List.mem_of_getElem? (i := 18) rfl)
theorem wd22_19 : Cond.selects RX6 yX6_station yX6_station ∈ wsL_law0 := mr22 _ (List.mem_of_getElem? (i := 19) rfl)
theorem wd22_20 : Cond.code yX6_station cX6_station 3 (some .int) ∈ wsL_law0 := mr22 _ (List.mem_of_getElem? (i := 20) rfl)
theorem wd22_21 : Cond.methodLink RX6 202 yX6_refuse ∈ wsL_law0 := mr22 _ (List.mem_of_getElem? (i := 21) rfl)
theorem wd22_22 : Cond.instanceMethod yX6_refuse ∈ wsL_law0 := mr22 _ (List.mem_of_getElem? (i := 22) rfl)
theorem wd22_23 : Cond.selects RX6 yX6_refuse yX6_refuse ∈ wsL_law0 := mr22 _ (List.mem_of_getElem? (i := 23) rfl)
theorem wd23_0 : Cond.code yX6_refuse cX6_refuse 1 (some .int) ∈ wsL_law0 := mr23 _ (List.mem_of_getElem? (i := 0) rfl)
theorem wd23_1 : Cond.methodLink RX6 193 yX6_doing ∈ wsL_law0 := mr23 _ (List.mem_of_getElem? (i := 1) rfl)
theorem wd23_2 : Cond.static yX6_doing ∈ wsL_law0 := mr23 _ (List.mem_of_getElem? (i := 2) rfl)
theorem wd23_3 : Cond.code yX6_doing cX6_doing 2 (some .int) ∈ wsL_law0 := mr23 _ (List.mem_of_getElem? (i := 3) rfl)
theorem wd23_4 : Cond.methodLink RL 49 yX6_thrown ∈ wsL_law0 := mr23 _ (List.mem_of_getElem? (i := 4) rfl)
theorem wd23_5 : Cond.instanceMethod yX6_thrown ∈ wsL_law0 := mr23 _ (List.mem_of_getElem? (i := 5) rfl)
theorem wd23_6 : Cond.selects RX6 yX6_thrown yX6_thrown ∈ wsL_law0 := mr23 _ (List.mem_of_getElem? (i := 6) rfl)
theorem wd23_7 : Cond.code yX6_thrown cX6_thrown 1 (some .int) ∈ wsL_law0 := mr23 _ (List.mem_of_getElem? (i := 7) rfl)
theorem wd23_8 : Cond.methodLink RL 52 yX5_waits ∈ wsL_law0 := mr23 _ (List.mem_of_getElem? (i := 8) rfl)
theorem wd23_9 : Cond.instanceMethod yX5_waits ∈ wsL_law0 := mr23 _ (List.mem_of_getElem? (i := 9) rfl)
theorem wd23_10 : Cond.selects RX5 yX5_waits yX5_waits ∈ wsL_law0 := mr23 _ (List.mem_of_getElem? (i := 10) rfl)
theorem wd23_11 : Cond.code yX5_waits cX5_waits 3 (some .int) ∈ wsL_law0 := mr23 _ (List.mem_of_getElem? (i := 11) rfl)
theorem wd23_12 : Cond.fieldLink RX5 162 "CardLoops$Line" "begun" "[I" ∈ wsL_law0 := mr23 _ (List.mem_of_getElem? (i := 12) rfl)
theorem wd23_13 : Cond.methodLink RX5 165 yX1_kindOf ∈ wsL_law0 := mr23 _ (List.mem_of_getElem? (i := 13) rfl)
theorem wd23_14 : Cond.methodLink RL 55 yX6_waits_ ∈ wsL_law0 := mr23 _ (List.mem_of_getElem? (i := 14) rfl)
theorem wd23_15 : Cond.instanceMethod yX6_waits_ ∈ wsL_law0 := mr23 _ (List.mem_of_getElem? (i := 15) rfl)
theorem wd23_16 : Cond.selects RX6 yX6_waits_ yX6_waits_ ∈ wsL_law0 := mr23 _ (List.mem_of_getElem? (i := 16) rfl)
theorem wd23_17 : Cond.code yX6_waits_ cX6_waits_ 3 (some .int) ∈ wsL_law0 := mr23 _ (List.mem_of_getElem? (i := 17) rfl)
theorem wd23_18 : Cond.methodLink RL 56 yX5_loop ∈ wsL_law0 := mr23 _ (List.mem_of_getElem? (i := 18) rfl)
theorem wd23_19 : Cond.instanceMethod yX5_loop ∈ wsL_law0 := mr23 _ (List.mem_of_getElem? (i := 19) rfl)
theorem wd23_20 : Cond.selects RX5 yX5_loop yX5_loop ∈ wsL_law0 := mr23 _ (List.mem_of_getElem? (i := 20) rfl)
theorem wd23_21 : Cond.code yX5_loop cX5_loop 3 (some .int) ∈ wsL_law0 := mr23 _ (List.mem_of_getElem? (i := 21) rfl)
theorem wd23_22 : Cond.fieldLink RX5 171 "CardLoops$Plan" "from" "[I" ∈ wsL_law0 := mr23 _ (List.mem_of_getElem? (i := 22) rfl)
theorem wd23_23 : Cond.fieldLink RX5 174 "CardLoops$Plan" "to" "[I" ∈ wsL_law0 := mr23 _ (List.mem_of_getElem? (i := 23) rfl)
theorem wd24_0 : Cond.fieldLink RX5 177 "CardLoops$Line" "cardsOf" "[I" ∈ wsL_law0 := mr24 _ (List.mem_of_getElem? (i := 0) rfl)
theorem wd24_1 : Cond.methodLink RX5 168 yX5_isLoop ∈ wsL_law0 := mr24 _ (List.mem_of_getElem? (i := 1) rfl)
theorem wd24_2 : Cond.instanceMethod yX5_isLoop ∈ wsL_law0 := mr24 _ (List.mem_of_getElem? (i := 2) rfl)
theorem wd24_3 : Cond.selects RX5 yX5_isLoop yX5_isLoop ∈ wsL_law0 := mr24 _ (List.mem_of_getElem? (i := 3) rfl)
theorem wd24_4 : Cond.code yX5_isLoop cX5_isLoop 2 (some .boolean) ∈ wsL_law0 := mr24 _ (List.mem_of_getElem? (i := 4) rfl)
theorem wd24_5 : Cond.methodLink RX5 180 yX1_free ∈ wsL_law0 := mr24 _ (List.mem_of_getElem? (i := 5) rfl)
theorem wd24_6 : Cond.methodLink RL 59 yX6_loop ∈ wsL_law0 := mr24 _ (List.mem_of_getElem? (i := 6) rfl)
theorem wd24_7 : Cond.instanceMethod yX6_loop ∈ wsL_law0 := mr24 _ (List.mem_of_getElem? (i := 7) rfl)
theorem wd24_8 : Cond.selects RX6 yX6_loop yX6_loop ∈ wsL_law0 := mr24 _ (List.mem_of_getElem? (i := 8) rfl)
theorem wd24_9 : Cond.code yX6_loop cX6_loop 3 (some .int) ∈ wsL_law0 := mr24 _ (List.mem_of_getElem? (i := 9) rfl)
theorem wd24_10 : Cond.methodLink RX6 206 yX6_isLoop ∈ wsL_law0 := mr24 _ (List.mem_of_getElem? (i := 10) rfl)
theorem wd24_11 : Cond.instanceMethod yX6_isLoop ∈ wsL_law0 := mr24 _ (List.mem_of_getElem? (i := 11) rfl)
theorem wd24_12 : Cond.selects RX6 yX6_isLoop yX6_isLoop ∈ wsL_law0 := mr24 _ (List.mem_of_getElem? (i := 12) rfl)
theorem wd24_13 : Cond.code yX6_isLoop cX6_isLoop 2 (some .boolean) ∈ wsL_law0 := mr24 _ (List.mem_of_getElem? (i := 13) rfl)
theorem wd24_14 : Cond.methodLink RL 60 yX5_next ∈ wsL_law0 := mr24 _ (List.mem_of_getElem? (i := 14) rfl)
theorem wd24_15 : Cond.instanceMethod yX5_next ∈ wsL_law0 := mr24 _ (List.mem_of_getElem? (i := 15) rfl)
theorem wd24_16 : Cond.selects RX5 yX5_next yX5_next ∈ wsL_law0 := mr24 _ (List.mem_of_getElem? (i := 16) rfl)
theorem wd24_17 : Cond.code yX5_next cX5_next 2 (some .int) ∈ wsL_law0 := mr24 _ (List.mem_of_getElem? (i := 17) rfl)
theorem wd24_18 : Cond.methodLink RX5 183 yX5_isEmpty ∈ wsL_law0 := mr24 _ (List.mem_of_getElem? (i := 18) rfl)
theorem wd24_19 : Cond.instanceMethod yX5_isEmpty ∈ wsL_law0 := mr24 _ (List.mem_of_getElem? (i := 19) rfl)
theorem wd24_20 : Cond.selects RX5 yX5_isEmpty yX5_isEmpty ∈ wsL_law0 := mr24 _ (List.mem_of_getElem? (i := 20) rfl)
theorem wd24_21 : Cond.code yX5_isEmpty cX5_isEmpty 1 (some .boolean) ∈ wsL_law0 := mr24 _ (List.mem_of_getElem? (i := 21) rfl)
theorem wd24_22 : Cond.methodLink RL 63 yX6_next ∈ wsL_law0 := mr24 _ (List.mem_of_getElem? (i := 22) rfl)
theorem wd24_23 : Cond.instanceMethod yX6_next ∈ wsL_law0 := mr24 _ (List.mem_of_getElem? (i := 23) rfl)
theorem wd25_0 : Cond.selects RX6 yX6_next yX6_next ∈ wsL_law0 := mr25 _ (List.mem_of_getElem? (i := 0) rfl)
theorem wd25_1 : Cond.code yX6_next cX6_next 2 (some .int) ∈ wsL_law0 := mr25 _ (List.mem_of_getElem? (i := 1) rfl)
theorem wd25_2 : Cond.methodLink RX6 209 yX6_isThere ∈ wsL_law0 := mr25 _ (List.mem_of_getElem? (i := 2) rfl)
theorem wd25_3 : Cond.instanceMethod yX6_isThere ∈ wsL_law0 := mr25 _ (List.mem_of_getElem? (i := 3) rfl)
theorem wd25_4 : Cond.selects RX6 yX6_isThere yX6_isThere ∈ wsL_law0 := mr25 _ (List.mem_of_getElem? (i := 4) rfl)
theorem wd25_5 : Cond.code yX6_isThere cX6_isThere 1 (some .boolean) ∈ wsL_law0 := mr25 _ (List.mem_of_getElem? (i := 5) rfl)
theorem wd25_6 : Cond.methodLink RL 64 yX5_when ∈ wsL_law0 := mr25 _ (List.mem_of_getElem? (i := 6) rfl)
theorem wd25_7 : Cond.instanceMethod yX5_when ∈ wsL_law0 := mr25 _ (List.mem_of_getElem? (i := 7) rfl)
theorem wd25_8 : Cond.selects RX5 yX5_when yX5_when ∈ wsL_law0 := mr25 _ (List.mem_of_getElem? (i := 8) rfl)
theorem wd25_9 : Cond.code yX5_when cX5_when 4 (some .int) ∈ wsL_law0 := mr25 _ (List.mem_of_getElem? (i := 9) rfl)
theorem wd25_10 : Cond.methodLink RX5 187 yX1_copyFrom ∈ wsL_law0 := mr25 _ (List.mem_of_getElem? (i := 10) rfl)
theorem wd25_11 : Cond.instanceMethod yX1_copyFrom ∈ wsL_law0 := mr25 _ (List.mem_of_getElem? (i := 11) rfl)
theorem wd25_12 : Cond.selects RX1 yX1_copyFrom yX1_copyFrom ∈ wsL_law0 := mr25 _ (List.mem_of_getElem? (i := 12) rfl)
theorem wd25_13 : Cond.code yX1_copyFrom cX1_copyFrom 2 none ∈ wsL_law0 := mr25 _ (List.mem_of_getElem? (i := 13) rfl)
theorem wd25_14 : Cond.methodLink RX5 189 yX1_leapTillOut ∈ wsL_law0 := mr25 _ (List.mem_of_getElem? (i := 14) rfl)
theorem wd25_15 : Cond.instanceMethod yX1_leapTillOut ∈ wsL_law0 := mr25 _ (List.mem_of_getElem? (i := 15) rfl)
theorem wd25_16 : Cond.selects RX1 yX1_leapTillOut yX1_leapTillOut ∈ wsL_law0 := mr25 _ (List.mem_of_getElem? (i := 16) rfl)
theorem wd25_17 : Cond.code yX1_leapTillOut cX1_leapTillOut 3 none ∈ wsL_law0 := mr25 _ (List.mem_of_getElem? (i := 17) rfl)
theorem wd25_18 : Cond.constant RX1 126 (1000000) ∈ wsL_law0 := mr25 _ (List.mem_of_getElem? (i := 18) rfl)
theorem wd25_19 : Cond.methodLink RX1 127 yX1_nextThrough ∈ wsL_law0 := mr25 _ (List.mem_of_getElem? (i := 19) rfl)
theorem wd25_20 : Cond.instanceMethod yX1_nextThrough ∈ wsL_law0 := mr25 _ (List.mem_of_getElem? (i := 20) rfl)
theorem wd25_21 : Cond.selects RX1 yX1_nextThrough yX1_nextThrough ∈ wsL_law0 := mr25 _ (List.mem_of_getElem? (i := 21) rfl)
theorem wd25_22 : Cond.code yX1_nextThrough cX1_nextThrough 3 (some .int) ∈ wsL_law0 := mr25 _ (List.mem_of_getElem? (i := 22) rfl)
theorem wd25_23 : Cond.constant RX1 125 (2147483647) ∈ wsL_law0 := mr25 _ (List.mem_of_getElem? (i := 23) rfl)
theorem wd26_0 : Cond.methodLink RL 67 yX6_when ∈ wsL_law0 := mr26 _ (List.mem_of_getElem? (i := 0) rfl)
theorem wd26_1 : Cond.instanceMethod yX6_when ∈ wsL_law0 := mr26 _ (List.mem_of_getElem? (i := 1) rfl)
theorem wd26_2 : Cond.selects RX6 yX6_when yX6_when ∈ wsL_law0 := mr26 _ (List.mem_of_getElem? (i := 2) rfl)
theorem wd26_3 : Cond.code yX6_when cX6_when 3 (some .int) ∈ wsL_law0 := mr26 _ (List.mem_of_getElem? (i := 3) rfl)
theorem wd26_4 : Cond.methodLink RX6 212 yX6_steps ∈ wsL_law0 := mr26 _ (List.mem_of_getElem? (i := 4) rfl)
theorem wd26_5 : Cond.static yX6_steps ∈ wsL_law0 := mr26 _ (List.mem_of_getElem? (i := 5) rfl)
theorem wd26_6 : Cond.code yX6_steps cX6_steps 1 (some .int) ∈ wsL_law0 := mr26 _ (List.mem_of_getElem? (i := 6) rfl)
theorem wd26_7 : Cond.methodLink RX6 196 yX6_nextTime ∈ wsL_law0 := mr26 _ (List.mem_of_getElem? (i := 7) rfl)
theorem wd26_8 : Cond.static yX6_nextTime ∈ wsL_law0 := mr26 _ (List.mem_of_getElem? (i := 8) rfl)
theorem wd26_9 : Cond.code yX6_nextTime cX6_nextTime 3 (some .int) ∈ wsL_law0 := mr26 _ (List.mem_of_getElem? (i := 9) rfl)
theorem wd26_10 : Cond.methodLink RX6 199 yX6_waits ∈ wsL_law0 := mr26 _ (List.mem_of_getElem? (i := 10) rfl)
theorem wd26_11 : Cond.static yX6_waits ∈ wsL_law0 := mr26 _ (List.mem_of_getElem? (i := 11) rfl)
theorem wd26_12 : Cond.code yX6_waits cX6_waits 5 none ∈ wsL_law0 := mr26 _ (List.mem_of_getElem? (i := 12) rfl)
theorem wd26_13 : Cond.methodLink RL 68 yX5_pace ∈ wsL_law0 := mr26 _ (List.mem_of_getElem? (i := 13) rfl)
theorem wd26_14 : Cond.instanceMethod yX5_pace ∈ wsL_law0 := mr26 _ (List.mem_of_getElem? (i := 14) rfl)
theorem wd26_15 : Cond.selects RX5 yX5_pace yX5_pace ∈ wsL_law0 := mr26 _ (List.mem_of_getElem? (i := 15) rfl)
theorem wd26_16 : Cond.code yX5_pace cX5_pace 2 (some .int) ∈ wsL_law0 := mr26 _ (List.mem_of_getElem? (i := 16) rfl)
theorem wd26_17 : Cond.methodLink RX5 192 yX5_paceBy ∈ wsL_law0 := mr26 _ (List.mem_of_getElem? (i := 17) rfl)
theorem wd26_18 : Cond.instanceMethod yX5_paceBy ∈ wsL_law0 := mr26 _ (List.mem_of_getElem? (i := 18) rfl)
theorem wd26_19 : Cond.selects RX5 yX5_paceBy yX5_paceBy ∈ wsL_law0 := mr26 _ (List.mem_of_getElem? (i := 19) rfl)
theorem wd26_20 : Cond.code yX5_paceBy cX5_paceBy 3 (some .int) ∈ wsL_law0 := mr26 _ (List.mem_of_getElem? (i := 20) rfl)
theorem wd26_21 : Cond.methodLink RX5 223 yX5_learnPace ∈ wsL_law0 := mr26 _ (List.mem_of_getElem? (i := 21) rfl)
theorem wd26_22 : Cond.instanceMethod yX5_learnPace ∈ wsL_law0 := mr26 _ (List.mem_of_getElem? (i := 22) rfl)
theorem wd26_23 : Cond.selects RX5 yX5_learnPace yX5_learnPace ∈ wsL_law0 := mr26 _ (List.mem_of_getElem? (i := 23) rfl)
theorem wd27_0 : Cond.code yX5_learnPace cX5_learnPace 2 none ∈ wsL_law0 := mr27 _ (List.mem_of_getElem? (i := 0) rfl)
theorem wd27_1 : Cond.fieldLink RX5 253 "CardLoops$PaceFinder" "parts" "I" ∈ wsL_law0 := mr27 _ (List.mem_of_getElem? (i := 1) rfl)
theorem wd27_2 : Cond.fieldLink RX5 256 "CardLoops$PaceFinder" "minutes" "I" ∈ wsL_law0 := mr27 _ (List.mem_of_getElem? (i := 2) rfl)
theorem wd27_3 : Cond.methodLink RX5 250 yX2_search ∈ wsL_law0 := mr27 _ (List.mem_of_getElem? (i := 3) rfl)
theorem wd27_4 : Cond.instanceMethod yX2_search ∈ wsL_law0 := mr27 _ (List.mem_of_getElem? (i := 4) rfl)
theorem wd27_5 : Cond.selects RX2 yX2_search yX2_search ∈ wsL_law0 := mr27 _ (List.mem_of_getElem? (i := 5) rfl)
theorem wd27_6 : Cond.code yX2_search cX2_search 6 none ∈ wsL_law0 := mr27 _ (List.mem_of_getElem? (i := 6) rfl)
theorem wd27_7 : Cond.methodLink RX2 39 yJ7_fill_53178 ∈ wsL_law0 := mr27 _ (List.mem_of_getElem? (i := 7) rfl)
theorem wd27_8 : Cond.methodLink RX2 45 yX1_startAnew ∈ wsL_law0 := mr27 _ (List.mem_of_getElem? (i := 8) rfl)
theorem wd27_9 : Cond.methodLink RX2 50 yX1_leapTillOut ∈ wsL_law0 := mr27 _ (List.mem_of_getElem? (i := 9) rfl)
theorem wd27_10 : Cond.methodLink RX2 53 yX2_lookAround ∈ wsL_law0 := mr27 _ (List.mem_of_getElem? (i := 10) rfl)
theorem wd27_11 : Cond.instanceMethod yX2_lookAround ∈ wsL_law0 := mr27 _ (List.mem_of_getElem? (i := 11) rfl)
theorem wd27_12 : Cond.selects RX2 yX2_lookAround yX2_lookAround ∈ wsL_law0 := mr27 _ (List.mem_of_getElem? (i := 12) rfl)
theorem wd27_13 : Cond.code yX2_lookAround cX2_lookAround 7 none ∈ wsL_law0 := mr27 _ (List.mem_of_getElem? (i := 13) rfl)
theorem wd27_14 : Cond.fieldLink RX2 69 "CardLoops$Line" "plan" "LCardLoops$Plan;" ∈ wsL_law0 := mr27 _ (List.mem_of_getElem? (i := 14) rfl)
theorem wd27_15 : Cond.fieldLink RX2 73 "CardLoops$Plan" "stations" "I" ∈ wsL_law0 := mr27 _ (List.mem_of_getElem? (i := 15) rfl)
theorem wd27_16 : Cond.fieldLink RX2 82 "CardLoops$Line" "ends" "[I" ∈ wsL_law0 := mr27 _ (List.mem_of_getElem? (i := 16) rfl)
theorem wd27_17 : Cond.fieldLink RX2 85 "CardLoops$Line" "time" "I" ∈ wsL_law0 := mr27 _ (List.mem_of_getElem? (i := 17) rfl)
theorem wd27_18 : Cond.methodLink RX2 65 yX1_placeInRuns ∈ wsL_law0 := mr27 _ (List.mem_of_getElem? (i := 18) rfl)
theorem wd27_19 : Cond.instanceMethod yX1_placeInRuns ∈ wsL_law0 := mr27 _ (List.mem_of_getElem? (i := 19) rfl)
theorem wd27_20 : Cond.selects RX1 yX1_placeInRuns yX1_placeInRuns ∈ wsL_law0 := mr27 _ (List.mem_of_getElem? (i := 20) rfl)
theorem wd27_21 : Cond.code yX1_placeInRuns cX1_placeInRuns 2 (some .int) ∈ wsL_law0 := mr27 _ (List.mem_of_getElem? (i := 21) rfl)
theorem wd27_22 : Cond.methodLink RX2 78 yX1_isIdle ∈ wsL_law0 := mr27 _ (List.mem_of_getElem? (i := 22) rfl)
theorem wd27_23 : Cond.methodLink RX2 88 yX1_waiting ∈ wsL_law0 := mr27 _ (List.mem_of_getElem? (i := 23) rfl)
theorem wd28_0 : Cond.methodLink RX2 57 yX2_enter ∈ wsL_law0 := mr28 _ (List.mem_of_getElem? (i := 0) rfl)
theorem wd28_1 : Cond.instanceMethod yX2_enter ∈ wsL_law0 := mr28 _ (List.mem_of_getElem? (i := 1) rfl)
theorem wd28_2 : Cond.selects RX2 yX2_enter yX2_enter ∈ wsL_law0 := mr28 _ (List.mem_of_getElem? (i := 2) rfl)
theorem wd28_3 : Cond.code yX2_enter cX2_enter 7 (some .int) ∈ wsL_law0 := mr28 _ (List.mem_of_getElem? (i := 3) rfl)
theorem wd28_4 : Cond.constantLong RX2 91 (-7046029254386353131) ∈ wsL_law0 := mr28 _ (List.mem_of_getElem? (i := 4) rfl)
theorem wd28_5 : Cond.constantLong RX2 93 (-4417276706812531889) ∈ wsL_law0 := mr28 _ (List.mem_of_getElem? (i := 5) rfl)
theorem wd28_6 : Cond.static yX5_commonDivisor ∈ wsL_law0 := mr28 _ (List.mem_of_getElem? (i := 6) rfl)
theorem wd28_7 : Cond.code yX5_commonDivisor cX5_commonDivisor 6 (some .int) ∈ wsL_law0 := mr28 _ (List.mem_of_getElem? (i := 7) rfl)
theorem wd28_8 : Cond.methodLink RX5 261 Lib.Math.max.name ∈ wsL_law0 := mr28 _ (List.mem_of_getElem? (i := 8) rfl)
theorem wd28_9 : Cond.methodLink RL 71 yX6_pace ∈ wsL_law0 := mr28 _ (List.mem_of_getElem? (i := 9) rfl)
theorem wd28_10 : Cond.instanceMethod yX6_pace ∈ wsL_law0 := mr28 _ (List.mem_of_getElem? (i := 10) rfl)
theorem wd28_11 : Cond.selects RX6 yX6_pace yX6_pace ∈ wsL_law0 := mr28 _ (List.mem_of_getElem? (i := 11) rfl)
theorem wd28_12 : Cond.code yX6_pace cX6_pace 2 (some .int) ∈ wsL_law0 := mr28 _ (List.mem_of_getElem? (i := 12) rfl)
theorem wd28_13 : Cond.fieldLink RX6 232 "CardLoopsModel" "paceParts" "I" ∈ wsL_law0 := mr28 _ (List.mem_of_getElem? (i := 13) rfl)
theorem wd28_14 : Cond.fieldLink RX6 235 "CardLoopsModel" "paceMinutes" "I" ∈ wsL_law0 := mr28 _ (List.mem_of_getElem? (i := 14) rfl)
theorem wd28_15 : Cond.methodLink RX6 238 yX6_laysPace ∈ wsL_law0 := mr28 _ (List.mem_of_getElem? (i := 15) rfl)
theorem wd28_16 : Cond.instanceMethod yX6_laysPace ∈ wsL_law0 := mr28 _ (List.mem_of_getElem? (i := 16) rfl)
theorem wd28_17 : Cond.selects RX6 yX6_laysPace yX6_laysPace ∈ wsL_law0 := mr28 _ (List.mem_of_getElem? (i := 17) rfl)
theorem wd28_18 : Cond.code yX6_laysPace cX6_laysPace 4 (some .boolean) ∈ wsL_law0 := mr28 _ (List.mem_of_getElem? (i := 18) rfl)
theorem wd28_19 : Cond.methodLink RX6 225 yX6_meets ∈ wsL_law0 := mr28 _ (List.mem_of_getElem? (i := 19) rfl)
theorem wd28_20 : Cond.instanceMethod yX6_meets ∈ wsL_law0 := mr28 _ (List.mem_of_getElem? (i := 20) rfl)
theorem wd28_21 : Cond.selects RX6 yX6_meets yX6_meets ∈ wsL_law0 := mr28 _ (List.mem_of_getElem? (i := 21) rfl)
theorem wd28_22 : Cond.code yX6_meets cX6_meets 7 none ∈ wsL_law0 := mr28 _ (List.mem_of_getElem? (i := 22) rfl)
theorem wd28_23 : Cond.fieldLink RX6 215 "CardLoopsModel" "laid" "I" ∈ wsL_law0 := mr28 _ (List.mem_of_getElem? (i := 23) rfl)
theorem wd29_0 : Cond.constantLong RX6 221 (7) ∈ wsL_law0 := mr29 _ (List.mem_of_getElem? (i := 0) rfl)
theorem wd29_1 : Cond.constantLong RX6 223 (31) ∈ wsL_law0 := mr29 _ (List.mem_of_getElem? (i := 1) rfl)
theorem wd29_2 : Cond.methodLink RX6 218 yX6_lays_ ∈ wsL_law0 := mr29 _ (List.mem_of_getElem? (i := 2) rfl)
theorem wd29_3 : Cond.instanceMethod yX6_lays_ ∈ wsL_law0 := mr29 _ (List.mem_of_getElem? (i := 3) rfl)
theorem wd29_4 : Cond.selects RX6 yX6_lays_ yX6_lays_ ∈ wsL_law0 := mr29 _ (List.mem_of_getElem? (i := 4) rfl)
theorem wd29_5 : Cond.code yX6_lays_ cX6_lays_ 3 none ∈ wsL_law0 := mr29 _ (List.mem_of_getElem? (i := 5) rfl)
theorem wd29_6 : Cond.methodLink RX6 228 yX6_isMet ∈ wsL_law0 := mr29 _ (List.mem_of_getElem? (i := 6) rfl)
theorem wd29_7 : Cond.instanceMethod yX6_isMet ∈ wsL_law0 := mr29 _ (List.mem_of_getElem? (i := 7) rfl)
theorem wd29_8 : Cond.selects RX6 yX6_isMet yX6_isMet ∈ wsL_law0 := mr29 _ (List.mem_of_getElem? (i := 8) rfl)
theorem wd29_9 : Cond.code yX6_isMet cX6_isMet 4 (some .boolean) ∈ wsL_law0 := mr29 _ (List.mem_of_getElem? (i := 9) rfl)
theorem wd29_10 : Cond.methodLink RX6 7 yX6_divisor ∈ wsL_law0 := mr29 _ (List.mem_of_getElem? (i := 10) rfl)
theorem wd29_11 : Cond.static yX6_divisor ∈ wsL_law0 := mr29 _ (List.mem_of_getElem? (i := 11) rfl)
theorem wd29_12 : Cond.code yX6_divisor cX6_divisor 2 (some .int) ∈ wsL_law0 := mr29 _ (List.mem_of_getElem? (i := 12) rfl)
theorem wd29_13 : Cond.methodLink RL 72 yX5_bound ∈ wsL_law0 := mr29 _ (List.mem_of_getElem? (i := 13) rfl)
theorem wd29_14 : Cond.instanceMethod yX5_bound ∈ wsL_law0 := mr29 _ (List.mem_of_getElem? (i := 14) rfl)
theorem wd29_15 : Cond.selects RX5 yX5_bound yX5_bound ∈ wsL_law0 := mr29 _ (List.mem_of_getElem? (i := 15) rfl)
theorem wd29_16 : Cond.code yX5_bound cX5_bound 6 (some .int) ∈ wsL_law0 := mr29 _ (List.mem_of_getElem? (i := 16) rfl)
theorem wd29_17 : Cond.methodLink RX5 196 yX5_tightRing ∈ wsL_law0 := mr29 _ (List.mem_of_getElem? (i := 17) rfl)
theorem wd29_18 : Cond.instanceMethod yX5_tightRing ∈ wsL_law0 := mr29 _ (List.mem_of_getElem? (i := 18) rfl)
theorem wd29_19 : Cond.selects RX5 yX5_tightRing yX5_tightRing ∈ wsL_law0 := mr29 _ (List.mem_of_getElem? (i := 19) rfl)
theorem wd29_20 : Cond.code yX5_tightRing cX5_tightRing 4 (some .int) ∈ wsL_law0 := mr29 _ (List.mem_of_getElem? (i := 20) rfl)
theorem wd29_21 : Cond.methodLink RX5 203 yX5_ringMinutes ∈ wsL_law0 := mr29 _ (List.mem_of_getElem? (i := 21) rfl)
theorem wd29_22 : Cond.instanceMethod yX5_ringMinutes ∈ wsL_law0 := mr29 _ (List.mem_of_getElem? (i := 22) rfl)
theorem wd29_23 : Cond.selects RX5 yX5_ringMinutes yX5_ringMinutes ∈ wsL_law0 := mr29 _ (List.mem_of_getElem? (i := 23) rfl)
theorem wd30_0 : Cond.code yX5_ringMinutes cX5_ringMinutes 4 (some .int) ∈ wsL_law0 := mr30 _ (List.mem_of_getElem? (i := 0) rfl)
theorem wd30_1 : Cond.methodLink RX5 199 yX5_ringCards ∈ wsL_law0 := mr30 _ (List.mem_of_getElem? (i := 1) rfl)
theorem wd30_2 : Cond.instanceMethod yX5_ringCards ∈ wsL_law0 := mr30 _ (List.mem_of_getElem? (i := 2) rfl)
theorem wd30_3 : Cond.selects RX5 yX5_ringCards yX5_ringCards ∈ wsL_law0 := mr30 _ (List.mem_of_getElem? (i := 3) rfl)
theorem wd30_4 : Cond.code yX5_ringCards cX5_ringCards 3 (some .int) ∈ wsL_law0 := mr30 _ (List.mem_of_getElem? (i := 4) rfl)
theorem wd30_5 : Cond.methodLink RX5 206 yX5_commonDivisor ∈ wsL_law0 := mr30 _ (List.mem_of_getElem? (i := 5) rfl)
theorem wd30_6 : Cond.methodLink RL 75 yX6_bound ∈ wsL_law0 := mr30 _ (List.mem_of_getElem? (i := 6) rfl)
theorem wd30_7 : Cond.instanceMethod yX6_bound ∈ wsL_law0 := mr30 _ (List.mem_of_getElem? (i := 7) rfl)
theorem wd30_8 : Cond.selects RX6 yX6_bound yX6_bound ∈ wsL_law0 := mr30 _ (List.mem_of_getElem? (i := 8) rfl)
theorem wd30_9 : Cond.code yX6_bound cX6_bound 9 (some .int) ∈ wsL_law0 := mr30 _ (List.mem_of_getElem? (i := 9) rfl)
theorem wd30_10 : Cond.methodLink RX6 241 yX6_ringOf ∈ wsL_law0 := mr30 _ (List.mem_of_getElem? (i := 10) rfl)
theorem wd30_11 : Cond.instanceMethod yX6_ringOf ∈ wsL_law0 := mr30 _ (List.mem_of_getElem? (i := 11) rfl)
theorem wd30_12 : Cond.selects RX6 yX6_ringOf yX6_ringOf ∈ wsL_law0 := mr30 _ (List.mem_of_getElem? (i := 12) rfl)
theorem wd30_13 : Cond.code yX6_ringOf cX6_ringOf 4 (some .int) ∈ wsL_law0 := mr30 _ (List.mem_of_getElem? (i := 13) rfl)
theorem wd30_14 : Cond.methodLink RL 76 yX5_needs ∈ wsL_law0 := mr30 _ (List.mem_of_getElem? (i := 14) rfl)
theorem wd30_15 : Cond.instanceMethod yX5_needs ∈ wsL_law0 := mr30 _ (List.mem_of_getElem? (i := 15) rfl)
theorem wd30_16 : Cond.selects RX5 yX5_needs yX5_needs ∈ wsL_law0 := mr30 _ (List.mem_of_getElem? (i := 16) rfl)
theorem wd30_17 : Cond.code yX5_needs cX5_needs 4 (some .int) ∈ wsL_law0 := mr30 _ (List.mem_of_getElem? (i := 17) rfl)
theorem wd30_18 : Cond.methodLink RX5 209 yX5_isPromise ∈ wsL_law0 := mr30 _ (List.mem_of_getElem? (i := 18) rfl)
theorem wd30_19 : Cond.static yX5_isPromise ∈ wsL_law0 := mr30 _ (List.mem_of_getElem? (i := 19) rfl)
theorem wd30_20 : Cond.code yX5_isPromise cX5_isPromise 2 (some .boolean) ∈ wsL_law0 := mr30 _ (List.mem_of_getElem? (i := 20) rfl)
theorem wd30_21 : Cond.methodLink RL 80 yX6_needs ∈ wsL_law0 := mr30 _ (List.mem_of_getElem? (i := 21) rfl)
theorem wd30_22 : Cond.instanceMethod yX6_needs ∈ wsL_law0 := mr30 _ (List.mem_of_getElem? (i := 22) rfl)
theorem wd30_23 : Cond.selects RX6 yX6_needs yX6_needs ∈ wsL_law0 := mr30 _ (List.mem_of_getElem? (i := 23) rfl)
theorem wd31_0 : Cond.code yX6_needs cX6_needs 5 (some .int) ∈ wsL_law0 := mr31 _ (List.mem_of_getElem? (i := 0) rfl)
theorem wd31_1 : Cond.methodLink RL 81 yX5_least ∈ wsL_law0 := mr31 _ (List.mem_of_getElem? (i := 1) rfl)
theorem wd31_2 : Cond.instanceMethod yX5_least ∈ wsL_law0 := mr31 _ (List.mem_of_getElem? (i := 2) rfl)
theorem wd31_3 : Cond.selects RX5 yX5_least yX5_least ∈ wsL_law0 := mr31 _ (List.mem_of_getElem? (i := 3) rfl)
theorem wd31_4 : Cond.code yX5_least cX5_least 5 (some .int) ∈ wsL_law0 := mr31 _ (List.mem_of_getElem? (i := 4) rfl)
theorem wd31_5 : Cond.methodLink RX5 213 arraycopyName ∈ wsL_law0 := mr31 _ (List.mem_of_getElem? (i := 5) rfl)
theorem wd31_6 : Cond.methodLink RX5 219 yX5_reaches ∈ wsL_law0 := mr31 _ (List.mem_of_getElem? (i := 6) rfl)
theorem wd31_7 : Cond.instanceMethod yX5_reaches ∈ wsL_law0 := mr31 _ (List.mem_of_getElem? (i := 7) rfl)
theorem wd31_8 : Cond.selects RX5 yX5_reaches yX5_reaches ∈ wsL_law0 := mr31 _ (List.mem_of_getElem? (i := 8) rfl)
theorem wd31_9 : Cond.code yX5_reaches cX5_reaches 4 (some .boolean) ∈ wsL_law0 := mr31 _ (List.mem_of_getElem? (i := 9) rfl)
theorem wd31_10 : Cond.methodLink RX5 258 yX5_isForbidden ∈ wsL_law0 := mr31 _ (List.mem_of_getElem? (i := 10) rfl)
theorem wd31_11 : Cond.instanceMethod yX5_isForbidden ∈ wsL_law0 := mr31 _ (List.mem_of_getElem? (i := 11) rfl)
theorem wd31_12 : Cond.selects RX5 yX5_isForbidden yX5_isForbidden ∈ wsL_law0 := mr31 _ (List.mem_of_getElem? (i := 12) rfl)
theorem wd31_13 : Cond.code yX5_isForbidden cX5_isForbidden 5 (some .boolean) ∈ wsL_law0 := mr31 _ (List.mem_of_getElem? (i := 13) rfl)
theorem wd31_14 : Cond.methodLink RL 84 yX6_least ∈ wsL_law0 := mr31 _ (List.mem_of_getElem? (i := 14) rfl)
theorem wd31_15 : Cond.instanceMethod yX6_least ∈ wsL_law0 := mr31 _ (List.mem_of_getElem? (i := 15) rfl)
theorem wd31_16 : Cond.selects RX6 yX6_least yX6_least ∈ wsL_law0 := mr31 _ (List.mem_of_getElem? (i := 16) rfl)
theorem wd31_17 : Cond.code yX6_least cX6_least 5 (some .int) ∈ wsL_law0 := mr31 _ (List.mem_of_getElem? (i := 17) rfl)
theorem wd31_18 : Cond.methodLink RL 85 yX5_longer ∈ wsL_law0 := mr31 _ (List.mem_of_getElem? (i := 18) rfl)
theorem wd31_19 : Cond.instanceMethod yX5_longer ∈ wsL_law0 := mr31 _ (List.mem_of_getElem? (i := 19) rfl)
theorem wd31_20 : Cond.selects RX5 yX5_longer yX5_longer ∈ wsL_law0 := mr31 _ (List.mem_of_getElem? (i := 20) rfl)
theorem wd31_21 : Cond.code yX5_longer cX5_longer 3 (some .int) ∈ wsL_law0 := mr31 _ (List.mem_of_getElem? (i := 21) rfl)
theorem wd31_22 : Cond.methodLink RL 88 yX6_longer ∈ wsL_law0 := mr31 _ (List.mem_of_getElem? (i := 22) rfl)
theorem wd31_23 : Cond.instanceMethod yX6_longer ∈ wsL_law0 := mr31 _ (List.mem_of_getElem? (i := 23) rfl)
theorem wd32_0 : Cond.selects RX6 yX6_longer yX6_longer ∈ wsL_law0 := mr32 _ (List.mem_of_getElem? (i := 0) rfl)
theorem wd32_1 : Cond.code yX6_longer cX6_longer 3 (some .int) ∈ wsL_law0 := mr32 _ (List.mem_of_getElem? (i := 1) rfl)
theorem wd32_2 : Cond.methodLink RX6 244 yX6_laysLonger ∈ wsL_law0 := mr32 _ (List.mem_of_getElem? (i := 2) rfl)
theorem wd32_3 : Cond.instanceMethod yX6_laysLonger ∈ wsL_law0 := mr32 _ (List.mem_of_getElem? (i := 3) rfl)
theorem wd32_4 : Cond.selects RX6 yX6_laysLonger yX6_laysLonger ∈ wsL_law0 := mr32 _ (List.mem_of_getElem? (i := 4) rfl)
theorem wd32_5 : Cond.code yX6_laysLonger cX6_laysLonger 3 (some .boolean) ∈ wsL_law0 := mr32 _ (List.mem_of_getElem? (i := 5) rfl)
theorem wd32_6 : Cond.methodLink RL 89 yX5_longest ∈ wsL_law0 := mr32 _ (List.mem_of_getElem? (i := 6) rfl)
theorem wd32_7 : Cond.instanceMethod yX5_longest ∈ wsL_law0 := mr32 _ (List.mem_of_getElem? (i := 7) rfl)
theorem wd32_8 : Cond.selects RX5 yX5_longest yX5_longest ∈ wsL_law0 := mr32 _ (List.mem_of_getElem? (i := 8) rfl)
theorem wd32_9 : Cond.code yX5_longest cX5_longest 3 (some .int) ∈ wsL_law0 := mr32 _ (List.mem_of_getElem? (i := 9) rfl)
theorem wd32_10 : Cond.methodLink RX5 226 yX5_isQuicker ∈ wsL_law0 := mr32 _ (List.mem_of_getElem? (i := 10) rfl)
theorem wd32_11 : Cond.instanceMethod yX5_isQuicker ∈ wsL_law0 := mr32 _ (List.mem_of_getElem? (i := 11) rfl)
theorem wd32_12 : Cond.selects RX5 yX5_isQuicker yX5_isQuicker ∈ wsL_law0 := mr32 _ (List.mem_of_getElem? (i := 12) rfl)
theorem wd32_13 : Cond.code yX5_isQuicker cX5_isQuicker 3 (some .boolean) ∈ wsL_law0 := mr32 _ (List.mem_of_getElem? (i := 13) rfl)
theorem wd32_14 : Cond.methodLink RL 92 yX6_longest ∈ wsL_law0 := mr32 _ (List.mem_of_getElem? (i := 14) rfl)
theorem wd32_15 : Cond.instanceMethod yX6_longest ∈ wsL_law0 := mr32 _ (List.mem_of_getElem? (i := 15) rfl)
theorem wd32_16 : Cond.selects RX6 yX6_longest yX6_longest ∈ wsL_law0 := mr32 _ (List.mem_of_getElem? (i := 16) rfl)
theorem wd32_17 : Cond.code yX6_longest cX6_longest 5 (some .int) ∈ wsL_law0 := mr32 _ (List.mem_of_getElem? (i := 17) rfl)
theorem wd32_18 : Cond.methodLink RL 93 yX5_pass ∈ wsL_law0 := mr32 _ (List.mem_of_getElem? (i := 18) rfl)
theorem wd32_19 : Cond.instanceMethod yX5_pass ∈ wsL_law0 := mr32 _ (List.mem_of_getElem? (i := 19) rfl)
theorem wd32_20 : Cond.selects RX5 yX5_pass yX5_pass ∈ wsL_law0 := mr32 _ (List.mem_of_getElem? (i := 20) rfl)
theorem wd32_21 : Cond.code yX5_pass cX5_pass 3 (some .int) ∈ wsL_law0 := mr32 _ (List.mem_of_getElem? (i := 21) rfl)
theorem wd32_22 : Cond.constant RX5 229 (99999) ∈ wsL_law0 := mr32 _ (List.mem_of_getElem? (i := 22) rfl)
theorem wd32_23 : Cond.methodLink RX5 230 yX0_keep ∈ wsL_law0 := mr32 _ (List.mem_of_getElem? (i := 23) rfl)
theorem wd33_0 : Cond.instanceMethod yX0_keep ∈ wsL_law0 := mr33 _ (List.mem_of_getElem? (i := 0) rfl)
theorem wd33_1 : Cond.selects RX0 yX0_keep yX0_keep ∈ wsL_law0 := mr33 _ (List.mem_of_getElem? (i := 1) rfl)
theorem wd33_2 : Cond.code yX0_keep cX0_keep 2 none ∈ wsL_law0 := mr33 _ (List.mem_of_getElem? (i := 2) rfl)
theorem wd33_3 : Cond.methodLink RX0 31 Lib.Math.min.name ∈ wsL_law0 := mr33 _ (List.mem_of_getElem? (i := 3) rfl)
theorem wd33_4 : Cond.methodLink RX0 27 yX1_copyFrom ∈ wsL_law0 := mr33 _ (List.mem_of_getElem? (i := 4) rfl)
theorem wd33_5 : Cond.methodLink RX5 233 yX1_moveTo ∈ wsL_law0 := mr33 _ (List.mem_of_getElem? (i := 5) rfl)
theorem wd33_6 : Cond.instanceMethod yX1_moveTo ∈ wsL_law0 := mr33 _ (List.mem_of_getElem? (i := 6) rfl)
theorem wd33_7 : Cond.selects RX1 yX1_moveTo yX1_moveTo ∈ wsL_law0 := mr33 _ (List.mem_of_getElem? (i := 7) rfl)
theorem wd33_8 : Cond.code yX1_moveTo cX1_moveTo 4 none ∈ wsL_law0 := mr33 _ (List.mem_of_getElem? (i := 8) rfl)
theorem wd33_9 : Cond.methodLink RX1 130 Lib.Math.min.name ∈ wsL_law0 := mr33 _ (List.mem_of_getElem? (i := 9) rfl)
theorem wd33_10 : Cond.methodLink RX1 133 yX1_countMinutes ∈ wsL_law0 := mr33 _ (List.mem_of_getElem? (i := 10) rfl)
theorem wd33_11 : Cond.instanceMethod yX1_countMinutes ∈ wsL_law0 := mr33 _ (List.mem_of_getElem? (i := 11) rfl)
theorem wd33_12 : Cond.selects RX1 yX1_countMinutes yX1_countMinutes ∈ wsL_law0 := mr33 _ (List.mem_of_getElem? (i := 12) rfl)
theorem wd33_13 : Cond.code yX1_countMinutes cX1_countMinutes 6 none ∈ wsL_law0 := mr33 _ (List.mem_of_getElem? (i := 13) rfl)
theorem wd33_14 : Cond.methodLink RX1 136 yX1_stateOf ∈ wsL_law0 := mr33 _ (List.mem_of_getElem? (i := 14) rfl)
theorem wd33_15 : Cond.methodLink RL 96 yX6_pass ∈ wsL_law0 := mr33 _ (List.mem_of_getElem? (i := 15) rfl)
theorem wd33_16 : Cond.instanceMethod yX6_pass ∈ wsL_law0 := mr33 _ (List.mem_of_getElem? (i := 16) rfl)
theorem wd33_17 : Cond.selects RX6 yX6_pass yX6_pass ∈ wsL_law0 := mr33 _ (List.mem_of_getElem? (i := 17) rfl)
theorem wd33_18 : Cond.code yX6_pass cX6_pass 4 (some .int) ∈ wsL_law0 := mr33 _ (List.mem_of_getElem? (i := 18) rfl)
theorem wd33_19 : Cond.constant RX6 247 (99999) ∈ wsL_law0 := mr33 _ (List.mem_of_getElem? (i := 19) rfl)
theorem wd33_20 : Cond.methodLink RX6 248 yX6_snap ∈ wsL_law0 := mr33 _ (List.mem_of_getElem? (i := 20) rfl)
theorem wd33_21 : Cond.instanceMethod yX6_snap ∈ wsL_law0 := mr33 _ (List.mem_of_getElem? (i := 21) rfl)
theorem wd33_22 : Cond.selects RX6 yX6_snap yX6_snap ∈ wsL_law0 := mr33 _ (List.mem_of_getElem? (i := 22) rfl)
theorem wd33_23 : Cond.code yX6_snap cX6_snap 2 none ∈ wsL_law0 := mr33 _ (List.mem_of_getElem? (i := 23) rfl)
theorem wd34_0 : Cond.methodLink RL 97 yX5_step ∈ wsL_law0 := mr34 _ (List.mem_of_getElem? (i := 0) rfl)
theorem wd34_1 : Cond.instanceMethod yX5_step ∈ wsL_law0 := mr34 _ (List.mem_of_getElem? (i := 1) rfl)
theorem wd34_2 : Cond.selects RX5 yX5_step yX5_step ∈ wsL_law0 := mr34 _ (List.mem_of_getElem? (i := 2) rfl)
theorem wd34_3 : Cond.code yX5_step cX5_step 2 (some .int) ∈ wsL_law0 := mr34 _ (List.mem_of_getElem? (i := 3) rfl)
theorem wd34_4 : Cond.methodLink RX5 236 yX1_nextThrough ∈ wsL_law0 := mr34 _ (List.mem_of_getElem? (i := 4) rfl)
theorem wd34_5 : Cond.methodLink RL 100 yX6_step ∈ wsL_law0 := mr34 _ (List.mem_of_getElem? (i := 5) rfl)
theorem wd34_6 : Cond.instanceMethod yX6_step ∈ wsL_law0 := mr34 _ (List.mem_of_getElem? (i := 6) rfl)
theorem wd34_7 : Cond.selects RX6 yX6_step yX6_step ∈ wsL_law0 := mr34 _ (List.mem_of_getElem? (i := 7) rfl)
theorem wd34_8 : Cond.code yX6_step cX6_step 1 (some .int) ∈ wsL_law0 := mr34 _ (List.mem_of_getElem? (i := 8) rfl)
theorem wd34_9 : Cond.methodLink RL 101 yX5_cards ∈ wsL_law0 := mr34 _ (List.mem_of_getElem? (i := 9) rfl)
theorem wd34_10 : Cond.instanceMethod yX5_cards ∈ wsL_law0 := mr34 _ (List.mem_of_getElem? (i := 10) rfl)
theorem wd34_11 : Cond.selects RX5 yX5_cards yX5_cards ∈ wsL_law0 := mr34 _ (List.mem_of_getElem? (i := 11) rfl)
theorem wd34_12 : Cond.code yX5_cards cX5_cards 4 (some .int) ∈ wsL_law0 := mr34 _ (List.mem_of_getElem? (i := 12) rfl)
theorem wd34_13 : Cond.methodLink RX5 239 yX1_round ∈ wsL_law0 := mr34 _ (List.mem_of_getElem? (i := 13) rfl)
theorem wd34_14 : Cond.methodLink RL 104 yX6_cards ∈ wsL_law0 := mr34 _ (List.mem_of_getElem? (i := 14) rfl)
theorem wd34_15 : Cond.instanceMethod yX6_cards ∈ wsL_law0 := mr34 _ (List.mem_of_getElem? (i := 15) rfl)
theorem wd34_16 : Cond.selects RX6 yX6_cards yX6_cards ∈ wsL_law0 := mr34 _ (List.mem_of_getElem? (i := 16) rfl)
theorem wd34_17 : Cond.code yX6_cards cX6_cards 4 (some .int) ∈ wsL_law0 := mr34 _ (List.mem_of_getElem? (i := 17) rfl)
theorem wd34_18 : Cond.methodLink RL 105 yX5_anew ∈ wsL_law0 := mr34 _ (List.mem_of_getElem? (i := 18) rfl)
theorem wd34_19 : Cond.instanceMethod yX5_anew ∈ wsL_law0 := mr34 _ (List.mem_of_getElem? (i := 19) rfl)
theorem wd34_20 : Cond.selects RX5 yX5_anew yX5_anew ∈ wsL_law0 := mr34 _ (List.mem_of_getElem? (i := 20) rfl)
theorem wd34_21 : Cond.code yX5_anew cX5_anew 1 (some .int) ∈ wsL_law0 := mr34 _ (List.mem_of_getElem? (i := 21) rfl)
theorem wd34_22 : Cond.methodLink RL 108 yX6_anew ∈ wsL_law0 := mr34 _ (List.mem_of_getElem? (i := 22) rfl)
theorem wd34_23 : Cond.instanceMethod yX6_anew ∈ wsL_law0 := mr34 _ (List.mem_of_getElem? (i := 23) rfl)
theorem wd35_0 : Cond.selects RX6 yX6_anew yX6_anew ∈ wsL_law0 := mr35 _ (List.mem_of_getElem? (i := 0) rfl)
theorem wd35_1 : Cond.code yX6_anew cX6_anew 1 (some .int) ∈ wsL_law0 := mr35 _ (List.mem_of_getElem? (i := 1) rfl)
theorem wd35_2 : Cond.methodLink RL 109 yX5_undo ∈ wsL_law0 := mr35 _ (List.mem_of_getElem? (i := 2) rfl)
theorem wd35_3 : Cond.instanceMethod yX5_undo ∈ wsL_law0 := mr35 _ (List.mem_of_getElem? (i := 3) rfl)
theorem wd35_4 : Cond.selects RX5 yX5_undo yX5_undo ∈ wsL_law0 := mr35 _ (List.mem_of_getElem? (i := 4) rfl)
theorem wd35_5 : Cond.code yX5_undo cX5_undo 1 (some .int) ∈ wsL_law0 := mr35 _ (List.mem_of_getElem? (i := 5) rfl)
theorem wd35_6 : Cond.methodLink RX5 242 yX0_giveBack ∈ wsL_law0 := mr35 _ (List.mem_of_getElem? (i := 6) rfl)
theorem wd35_7 : Cond.instanceMethod yX0_giveBack ∈ wsL_law0 := mr35 _ (List.mem_of_getElem? (i := 7) rfl)
theorem wd35_8 : Cond.selects RX0 yX0_giveBack yX0_giveBack ∈ wsL_law0 := mr35 _ (List.mem_of_getElem? (i := 8) rfl)
theorem wd35_9 : Cond.code yX0_giveBack cX0_giveBack 2 none ∈ wsL_law0 := mr35 _ (List.mem_of_getElem? (i := 9) rfl)
theorem wd35_10 : Cond.methodLink RL 112 yX6_undo ∈ wsL_law0 := mr35 _ (List.mem_of_getElem? (i := 10) rfl)
theorem wd35_11 : Cond.instanceMethod yX6_undo ∈ wsL_law0 := mr35 _ (List.mem_of_getElem? (i := 11) rfl)
theorem wd35_12 : Cond.selects RX6 yX6_undo yX6_undo ∈ wsL_law0 := mr35 _ (List.mem_of_getElem? (i := 12) rfl)
theorem wd35_13 : Cond.code yX6_undo cX6_undo 1 (some .int) ∈ wsL_law0 := mr35 _ (List.mem_of_getElem? (i := 13) rfl)
theorem W0_good : wsL_law0.all goodWord = true := by decide +kernel
theorem W0_in {a : Cond} : GoodIn (a :: wsL_law0) wsL_law0 := fun w hw => ⟨List.mem_cons_of_mem _ hw, good_of_word (List.all_eq_true.mp W0_good w hw)⟩
theorem W0_one {a w : Cond} (h : w ∈ wsL_law0) : w ∈ a :: wsL_law0 ∧ ((w.onTables && w.keeps) = true ∨ ∃ ty, w = .arrayClass ty) := W0_in w h
theorem gdN {a b : Cond} (h5 : b ∈ wsL_law0) : GoodIn (a :: wsL_law0) (b :: wsL_law0) := fun w hw => by
  rcases List.mem_cons.mp hw with rfl | h
  · exact W0_one h5
  · exact W0_one h
theorem gdV {a b : Cond} {own C : String} {idx : Nat} {y : MethodName} (h1 : Cond.methodLink own idx y ∈ wsL_law0) (h2 : Cond.instanceMethod y ∈ wsL_law0) (h3 : Cond.selects C y y ∈ wsL_law0) (h4 : Cond.initialized C ∈ wsL_law0) (h5 : b ∈ wsL_law0) : GoodIn (a :: wsL_law0) (wsV own idx C y (b :: wsL_law0)) := by
  intro w hw
  unfold wsV at hw
  rcases List.mem_append.mp hw with h | h
  · simp only [List.mem_cons, List.not_mem_nil, or_false] at h
    rcases h with rfl | rfl | rfl | rfl
    · exact W0_one h1
    · exact W0_one h2
    · exact W0_one h3
    · exact W0_one h4
  · exact gdN h5 w h
theorem gdS {a b : Cond} {own : String} {idx : Nat} {y : MethodName} (h1 : Cond.methodLink own idx y ∈ wsL_law0) (h2 : Cond.static y ∈ wsL_law0) (h4 : Cond.initialized y.cls ∈ wsL_law0) (h5 : b ∈ wsL_law0) : GoodIn (a :: wsL_law0) (va_wsS own idx y (b :: wsL_law0)) := by
  intro w hw
  unfold va_wsS at hw
  rcases List.mem_append.mp hw with h | h
  · simp only [List.mem_cons, List.not_mem_nil, or_false] at h
    rcases h with rfl | rfl | rfl
    · exact W0_one h1
    · exact W0_one h2
    · exact W0_one h4
  · exact gdN h5 w h
