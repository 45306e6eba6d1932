def RX0 : String := "TokenFlow$Actor"
def TX0 : u_T := fun k => match k with
  | 0 => ("TokenFlow$Actor", "kind", "I", false)
  | 1 => ("TokenFlow$Actor", "a", "I", false)
  | 2 => ("TokenFlow$Actor", "state", "I", false)
  | 3 => ("TokenFlow$Actor", "value", "I", false)
  | 4 => ("TokenFlow$Actor", "repetitions", "J", false)
  | _ => ("TokenFlow$Actor", "fired", "I", false)
def tyX0 : Nat → FieldType := fun k => match k with
  | 0 => .int
  | 1 => .int
  | 2 => .int
  | 3 => .int
  | 4 => .long
  | _ => .int
theorem nmX0 : ∀ a, a < 6 → ∀ b, b < 6 → a ≠ b → (TX0 a).2.1 ≠ (TX0 b).2.1 := by decide +kernel
theorem tyX0_ok : ∀ k, k < 6 → parseFieldDescriptor (TX0 k).2.2.1 = some (tyX0 k) := by decide +kernel
abbrev cX0_init : ByteArray := prog_2_method_1_code
def yX0_init : MethodName := ⟨RX0, "<init>", "()V"⟩
abbrev cX0_bringToStart : ByteArray := prog_2_method_2_code
def yX0_bringToStart : MethodName := ⟨RX0, "bringToStart", "()V"⟩
abbrev cX0_work : ByteArray := prog_2_method_3_code
def yX0_work : MethodName := ⟨RX0, "work", "(LTokenFlow$Taken;)V"⟩
def RX1 : String := "TokenFlow$Edge"
def TX1 : u_T := fun k => match k with
  | 0 => ("TokenFlow$Edge", "from", "I", false)
  | 1 => ("TokenFlow$Edge", "to", "I", false)
  | 2 => ("TokenFlow$Edge", "gives", "I", false)
  | 3 => ("TokenFlow$Edge", "takes", "I", false)
  | 4 => ("TokenFlow$Edge", "waiting", "I", false)
  | 5 => ("TokenFlow$Edge", "lying", "I", false)
  | 6 => ("TokenFlow$Edge", "bound", "I", false)
  | 7 => ("TokenFlow$Edge", "ring", "[I", false)
  | 8 => ("TokenFlow$Edge", "oldest", "I", false)
  | _ => ("TokenFlow$Edge", "count", "I", false)
def tyX1 : Nat → FieldType := fun k => match k with
  | 0 => .int
  | 1 => .int
  | 2 => .int
  | 3 => .int
  | 4 => .int
  | 5 => .int
  | 6 => .int
  | 7 => .array .int
  | 8 => .int
  | _ => .int
theorem nmX1 : ∀ a, a < 10 → ∀ b, b < 10 → a ≠ b → (TX1 a).2.1 ≠ (TX1 b).2.1 := by decide +kernel
theorem tyX1_ok : ∀ k, k < 10 → parseFieldDescriptor (TX1 k).2.2.1 = some (tyX1 k) := by decide +kernel
abbrev cX1_init : ByteArray := prog_3_method_1_code
def yX1_init : MethodName := ⟨RX1, "<init>", "()V"⟩
abbrev cX1_bringToStart : ByteArray := prog_3_method_2_code
def yX1_bringToStart : MethodName := ⟨RX1, "bringToStart", "()V"⟩
abbrev cX1_beginCounting : ByteArray := prog_3_method_3_code
def yX1_beginCounting : MethodName := ⟨RX1, "beginCounting", "()V"⟩
abbrev cX1_countFiring : ByteArray := prog_3_method_4_code
def yX1_countFiring : MethodName := ⟨RX1, "countFiring", "(I)V"⟩
abbrev cX1_makeRoom : ByteArray := prog_3_method_5_code
def yX1_makeRoom : MethodName := ⟨RX1, "makeRoom", "()V"⟩
abbrev cX1_handOver : ByteArray := prog_3_method_6_code
def yX1_handOver : MethodName := ⟨RX1, "handOver", "(LTokenFlow$Taken;)V"⟩
abbrev cX1_receive : ByteArray := prog_3_method_7_code
def yX1_receive : MethodName := ⟨RX1, "receive", "(I)V"⟩
abbrev cX1_look : ByteArray := prog_3_method_8_code
def yX1_look : MethodName := ⟨RX1, "look", "(I)I"⟩
abbrev cX1_place : ByteArray := prog_3_method_9_code
def yX1_place : MethodName := ⟨RX1, "place", "(I)I"⟩
def RX2 : String := "TokenFlow$Taken"
def TX2 : u_T := fun k => match k with
  | 0 => ("TokenFlow$Taken", "count", "I", false)
  | 1 => ("TokenFlow$Taken", "sum", "I", false)
  | 2 => ("TokenFlow$Taken", "greatest", "I", false)
  | _ => ("TokenFlow$Taken", "mix", "I", false)
def tyX2 : Nat → FieldType := fun k => match k with
  | 0 => .int
  | 1 => .int
  | 2 => .int
  | _ => .int
theorem nmX2 : ∀ a, a < 4 → ∀ b, b < 4 → a ≠ b → (TX2 a).2.1 ≠ (TX2 b).2.1 := by decide +kernel
theorem tyX2_ok : ∀ k, k < 4 → parseFieldDescriptor (TX2 k).2.2.1 = some (tyX2 k) := by decide +kernel
abbrev cX2_init : ByteArray := prog_4_method_1_code
def yX2_init : MethodName := ⟨RX2, "<init>", "()V"⟩
abbrev cX2_forget : ByteArray := prog_4_method_2_code
def yX2_forget : MethodName := ⟨RX2, "forget", "()V"⟩
abbrev cX2_add : ByteArray := prog_4_method_3_code
def yX2_add : MethodName := ⟨RX2, "add", "(I)V"⟩
def RX3 : String := "TokenFlow"
def TX3 : u_T := fun k => match k with
  | 0 => ("TokenFlow", "actorRow", "[LTokenFlow$Actor;", true)
  | 1 => ("TokenFlow", "edgeRow", "[LTokenFlow$Edge;", true)
  | 2 => ("TokenFlow", "firingRow", "[I", true)
  | 3 => ("TokenFlow", "taken", "LTokenFlow$Taken;", true)
  | 4 => ("TokenFlow", "actorCount", "I", false)
  | 5 => ("TokenFlow", "edgeCount", "I", false)
  | _ => ("TokenFlow", "planLength", "I", false)
def tyX3 : Nat → FieldType := fun k => match k with
  | 0 => .array (.object "TokenFlow$Actor")
  | 1 => .array (.object "TokenFlow$Edge")
  | 2 => .array .int
  | 3 => .object "TokenFlow$Taken"
  | 4 => .int
  | 5 => .int
  | _ => .int
theorem nmX3 : ∀ a, a < 7 → ∀ b, b < 7 → a ≠ b → (TX3 a).2.1 ≠ (TX3 b).2.1 := by decide +kernel
theorem tyX3_ok : ∀ k, k < 7 → parseFieldDescriptor (TX3 k).2.2.1 = some (tyX3 k) := by decide +kernel
abbrev cX3_init : ByteArray := prog_1_method_1_code
def yX3_init : MethodName := ⟨RX3, "<init>", "()V"⟩
abbrev cX3_actor : ByteArray := prog_1_method_2_code
def yX3_actor : MethodName := ⟨RX3, "actor", "(II)I"⟩
abbrev cX3_edge : ByteArray := prog_1_method_3_code
def yX3_edge : MethodName := ⟨RX3, "edge", "(IIIII)I"⟩
abbrev cX3_delay : ByteArray := prog_1_method_4_code
def yX3_delay : MethodName := ⟨RX3, "delay", "(II)Z"⟩
abbrev cX3_reset : ByteArray := prog_1_method_5_code
def yX3_reset : MethodName := ⟨RX3, "reset", "()V"⟩
abbrev cX3_clear : ByteArray := prog_1_method_6_code
def yX3_clear : MethodName := ⟨RX3, "clear", "()V"⟩
abbrev cX3_actors : ByteArray := prog_1_method_7_code
def yX3_actors : MethodName := ⟨RX3, "actors", "()I"⟩
abbrev cX3_edges : ByteArray := prog_1_method_8_code
def yX3_edges : MethodName := ⟨RX3, "edges", "()I"⟩
abbrev cX3_plan : ByteArray := prog_1_method_9_code
def yX3_plan : MethodName := ⟨RX3, "plan", "()I"⟩
abbrev cX3_planned : ByteArray := prog_1_method_10_code
def yX3_planned : MethodName := ⟨RX3, "planned", "()I"⟩
abbrev cX3_firing : ByteArray := prog_1_method_11_code
def yX3_firing : MethodName := ⟨RX3, "firing", "(I)I"⟩
abbrev cX3_repetitions : ByteArray := prog_1_method_12_code
def yX3_repetitions : MethodName := ⟨RX3, "repetitions", "(I)I"⟩
abbrev cX3_bound : ByteArray := prog_1_method_13_code
def yX3_bound : MethodName := ⟨RX3, "bound", "(I)I"⟩
abbrev cX3_run : ByteArray := prog_1_method_14_code
def yX3_run : MethodName := ⟨RX3, "run", "(I)I"⟩
abbrev cX3_tokens : ByteArray := prog_1_method_15_code
def yX3_tokens : MethodName := ⟨RX3, "tokens", "(I)I"⟩
abbrev cX3_token : ByteArray := prog_1_method_16_code
def yX3_token : MethodName := ⟨RX3, "token", "(II)I"⟩
abbrev cX3_value : ByteArray := prog_1_method_17_code
def yX3_value : MethodName := ⟨RX3, "value", "(I)I"⟩
abbrev cX3_state : ByteArray := prog_1_method_18_code
def yX3_state : MethodName := ⟨RX3, "state", "(I)I"⟩
abbrev cX3_isActor : ByteArray := prog_1_method_19_code
def yX3_isActor : MethodName := ⟨RX3, "isActor", "(I)Z"⟩
abbrev cX3_isEdge : ByteArray := prog_1_method_20_code
def yX3_isEdge : MethodName := ⟨RX3, "isEdge", "(I)Z"⟩
abbrev cX3_isAtOnce : ByteArray := prog_1_method_21_code
def yX3_isAtOnce : MethodName := ⟨RX3, "isAtOnce", "(I)Z"⟩
abbrev cX3_isWaiting : ByteArray := prog_1_method_22_code
def yX3_isWaiting : MethodName := ⟨RX3, "isWaiting", "(I)Z"⟩
abbrev cX3_noteChange : ByteArray := prog_1_method_23_code
def yX3_noteChange : MethodName := ⟨RX3, "noteChange", "()V"⟩
abbrev cX3_bringToStart : ByteArray := prog_1_method_24_code
def yX3_bringToStart : MethodName := ⟨RX3, "bringToStart", "()V"⟩
abbrev cX3_spreadRepetitions : ByteArray := prog_1_method_25_code
def yX3_spreadRepetitions : MethodName := ⟨RX3, "spreadRepetitions", "()V"⟩
abbrev cX3_spreadAlong : ByteArray := prog_1_method_26_code
def yX3_spreadAlong : MethodName := ⟨RX3, "spreadAlong", "(LTokenFlow$Edge;)V"⟩
abbrev cX3_reach : ByteArray := prog_1_method_27_code
def yX3_reach : MethodName := ⟨RX3, "reach", "(LTokenFlow$Actor;JI)V"⟩
abbrev cX3_isConnected : ByteArray := prog_1_method_28_code
def yX3_isConnected : MethodName := ⟨RX3, "isConnected", "()Z"⟩
abbrev cX3_isBalanced : ByteArray := prog_1_method_29_code
def yX3_isBalanced : MethodName := ⟨RX3, "isBalanced", "()Z"⟩
abbrev cX3_reduceRepetitions : ByteArray := prog_1_method_30_code
def yX3_reduceRepetitions : MethodName := ⟨RX3, "reduceRepetitions", "()V"⟩
abbrev cX3_greatestDivisor : ByteArray := prog_1_method_31_code
def yX3_greatestDivisor : MethodName := ⟨RX3, "greatestDivisor", "(JJ)J"⟩
abbrev cX3_sumOfRepetitions : ByteArray := prog_1_method_32_code
def yX3_sumOfRepetitions : MethodName := ⟨RX3, "sumOfRepetitions", "()J"⟩
abbrev cX3_layOut : ByteArray := prog_1_method_33_code
def yX3_layOut : MethodName := ⟨RX3, "layOut", "(I)Z"⟩
abbrev cX3_nextToFire : ByteArray := prog_1_method_34_code
def yX3_nextToFire : MethodName := ⟨RX3, "nextToFire", "()I"⟩
abbrev cX3_hasEnough : ByteArray := prog_1_method_35_code
def yX3_hasEnough : MethodName := ⟨RX3, "hasEnough", "(I)Z"⟩
abbrev cX3_countFiring : ByteArray := prog_1_method_36_code
def yX3_countFiring : MethodName := ⟨RX3, "countFiring", "(I)V"⟩
abbrev cX3_makeRoomForTokens : ByteArray := prog_1_method_37_code
def yX3_makeRoomForTokens : MethodName := ⟨RX3, "makeRoomForTokens", "()V"⟩
abbrev cX3_fire : ByteArray := prog_1_method_38_code
def yX3_fire : MethodName := ⟨RX3, "fire", "(I)V"⟩
def RX4 : String := "TokenFlowModel"
def TX4 : u_T := fun k => match k with
  | 0 => ("TokenFlowModel", "actors", "I", false)
  | 1 => ("TokenFlowModel", "edges", "I", false)
  | 2 => ("TokenFlowModel", "thrown", "I", false)
  | 3 => ("TokenFlowModel", "kind", "[I", true)
  | 4 => ("TokenFlowModel", "number", "[I", true)
  | 5 => ("TokenFlowModel", "state", "[I", true)
  | 6 => ("TokenFlowModel", "latest", "[I", true)
  | 7 => ("TokenFlowModel", "from", "[I", true)
  | 8 => ("TokenFlowModel", "to", "[I", true)
  | 9 => ("TokenFlowModel", "gives", "[I", true)
  | 10 => ("TokenFlowModel", "takes", "[I", true)
  | 11 => ("TokenFlowModel", "waiting", "[I", true)
  | 12 => ("TokenFlowModel", "row", "[I", true)
  | 13 => ("TokenFlowModel", "first", "[I", true)
  | 14 => ("TokenFlowModel", "count", "[I", true)
  | 15 => ("TokenFlowModel", "planned", "I", false)
  | 16 => ("TokenFlowModel", "plan", "[I", true)
  | 17 => ("TokenFlowModel", "repetition", "[I", true)
  | 18 => ("TokenFlowModel", "bound", "[I", true)
  | 19 => ("TokenFlowModel", "rate", "[J", true)
  | 20 => ("TokenFlowModel", "fired", "[I", true)
  | 21 => ("TokenFlowModel", "lying", "[I", true)
  | 22 => ("TokenFlowModel", "most", "[I", true)
  | 23 => ("TokenFlowModel", "trial", "[I", true)
  | _ => ("TokenFlowModel", "divisors", "J", false)
def tyX4 : Nat → FieldType := fun k => match k with
  | 0 => .int
  | 1 => .int
  | 2 => .int
  | 3 => .array .int
  | 4 => .array .int
  | 5 => .array .int
  | 6 => .array .int
  | 7 => .array .int
  | 8 => .array .int
  | 9 => .array .int
  | 10 => .array .int
  | 11 => .array .int
  | 12 => .array .int
  | 13 => .array .int
  | 14 => .array .int
  | 15 => .int
  | 16 => .array .int
  | 17 => .array .int
  | 18 => .array .int
  | 19 => .array .long
  | 20 => .array .int
  | 21 => .array .int
  | 22 => .array .int
  | 23 => .array .int
  | _ => .long
theorem nmX4 : ∀ a, a < 25 → ∀ b, b < 25 → a ≠ b → (TX4 a).2.1 ≠ (TX4 b).2.1 := by decide +kernel
theorem tyX4_ok : ∀ k, k < 25 → parseFieldDescriptor (TX4 k).2.2.1 = some (tyX4 k) := by decide +kernel
abbrev cX4_init : ByteArray := prog_6_method_1_code
def yX4_init : MethodName := ⟨RX4, "<init>", "()V"⟩
abbrev cX4_thrown : ByteArray := prog_6_method_2_code
def yX4_thrown : MethodName := ⟨RX4, "thrown", "()I"⟩
abbrev cX4_within : ByteArray := prog_6_method_3_code
def yX4_within : MethodName := ⟨RX4, "within", "(III)Z"⟩
abbrev cX4_start : ByteArray := prog_6_method_4_code
def yX4_start : MethodName := ⟨RX4, "start", "()V"⟩
abbrev cX4_changed : ByteArray := prog_6_method_5_code
def yX4_changed : MethodName := ⟨RX4, "changed", "()V"⟩
abbrev cX4_actor : ByteArray := prog_6_method_6_code
def yX4_actor : MethodName := ⟨RX4, "actor", "(II)I"⟩
abbrev cX4_isActor : ByteArray := prog_6_method_7_code
def yX4_isActor : MethodName := ⟨RX4, "isActor", "(I)Z"⟩
abbrev cX4_isEdge : ByteArray := prog_6_method_8_code
def yX4_isEdge : MethodName := ⟨RX4, "isEdge", "(I)Z"⟩
abbrev cX4_edge : ByteArray := prog_6_method_9_code
def yX4_edge : MethodName := ⟨RX4, "edge", "(IIIII)I"⟩
abbrev cX4_delay : ByteArray := prog_6_method_10_code
def yX4_delay : MethodName := ⟨RX4, "delay", "(II)Z"⟩
abbrev cX4_reset : ByteArray := prog_6_method_11_code
def yX4_reset : MethodName := ⟨RX4, "reset", "()V"⟩
abbrev cX4_clear : ByteArray := prog_6_method_12_code
def yX4_clear : MethodName := ⟨RX4, "clear", "()V"⟩
abbrev cX4_actors : ByteArray := prog_6_method_13_code
def yX4_actors : MethodName := ⟨RX4, "actors", "()I"⟩
abbrev cX4_edges : ByteArray := prog_6_method_14_code
def yX4_edges : MethodName := ⟨RX4, "edges", "()I"⟩
abbrev cX4_spread : ByteArray := prog_6_method_15_code
def yX4_spread : MethodName := ⟨RX4, "spread", "(J)Z"⟩
abbrev cX4_divisor : ByteArray := prog_6_method_16_code
def yX4_divisor : MethodName := ⟨RX4, "divisor", "(JJ)J"⟩
abbrev cX4_repeat : ByteArray := prog_6_method_17_code
def yX4_repeat : MethodName := ⟨RX4, "repeat", "()I"⟩
abbrev cX4_mayFire : ByteArray := prog_6_method_18_code
def yX4_mayFire : MethodName := ⟨RX4, "mayFire", "(I)Z"⟩
abbrev cX4_attempt : ByteArray := prog_6_method_19_code
def yX4_attempt : MethodName := ⟨RX4, "attempt", "()I"⟩
abbrev cX4_plan : ByteArray := prog_6_method_20_code
def yX4_plan : MethodName := ⟨RX4, "plan", "()I"⟩
abbrev cX4_planned : ByteArray := prog_6_method_21_code
def yX4_planned : MethodName := ⟨RX4, "planned", "()I"⟩
abbrev cX4_firing : ByteArray := prog_6_method_22_code
def yX4_firing : MethodName := ⟨RX4, "firing", "(I)I"⟩
abbrev cX4_repetitions : ByteArray := prog_6_method_23_code
def yX4_repetitions : MethodName := ⟨RX4, "repetitions", "(I)I"⟩
abbrev cX4_bound : ByteArray := prog_6_method_24_code
def yX4_bound : MethodName := ⟨RX4, "bound", "(I)I"⟩
abbrev cX4_at : ByteArray := prog_6_method_25_code
def yX4_at : MethodName := ⟨RX4, "at", "(II)I"⟩
abbrev cX4_fire : ByteArray := prog_6_method_26_code
def yX4_fire : MethodName := ⟨RX4, "fire", "(I)V"⟩
abbrev cX4_run : ByteArray := prog_6_method_27_code
def yX4_run : MethodName := ⟨RX4, "run", "(I)I"⟩
abbrev cX4_tokens : ByteArray := prog_6_method_28_code
def yX4_tokens : MethodName := ⟨RX4, "tokens", "(I)I"⟩
abbrev cX4_token : ByteArray := prog_6_method_29_code
def yX4_token : MethodName := ⟨RX4, "token", "(II)I"⟩
abbrev cX4_value : ByteArray := prog_6_method_30_code
def yX4_value : MethodName := ⟨RX4, "value", "(I)I"⟩
abbrev cX4_state : ByteArray := prog_6_method_31_code
def yX4_state : MethodName := ⟨RX4, "state", "(I)I"⟩
def RJ9 : String := "java/lang/Math"
def TJ9 : u_T := fun k => match k with
  | _ => ("", "", "", false)
def tyJ9 : Nat → FieldType := fun k => match k with
  | _ => .int
theorem nmJ9 : ∀ a, a < 0 → ∀ b, b < 0 → a ≠ b → (TJ9 a).2.1 ≠ (TJ9 b).2.1 := by decide +kernel
theorem tyJ9_ok : ∀ k, k < 0 → parseFieldDescriptor (TJ9 k).2.2.1 = some (tyJ9 k) := by decide +kernel
abbrev cJ9_max_7cf53 : ByteArray := prog_11_method_65_code
def yJ9_max_7cf53 : MethodName := ⟨RJ9, "max", "(II)I"⟩
def RJ0 : String := "java/lang/String"
def TJ0 : u_T := fun k => match k with
  | _ => ("", "", "", false)
def tyJ0 : Nat → FieldType := fun k => match k with
  | _ => .int
theorem nmJ0 : ∀ a, a < 0 → ∀ b, b < 0 → a ≠ b → (TJ0 a).2.1 ≠ (TJ0 b).2.1 := by decide +kernel
theorem tyJ0_ok : ∀ k, k < 0 → parseFieldDescriptor (TJ0 k).2.2.1 = some (tyJ0 k) := by decide +kernel
def RL : String := "TokenFlowLaw"
abbrev cL_plan : ByteArray := method_3_code
def yL_plan : MethodName := ⟨RL, "plan", "(LTokenFlow;[J)I"⟩
abbrev cL_run : ByteArray := method_4_code
def yL_run : MethodName := ⟨RL, "run", "(LTokenFlow;I[J)I"⟩
abbrev cL_law : ByteArray := code
def yL_law : MethodName := ⟨RL, "law", "([I)Z"⟩
abbrev vwCl : List vw_C := [(RX0, TX0, 6), (RX1, TX1, 10), (RX2, TX2, 4), (RX3, TX3, 7), (RX4, TX4, 25)]
def UW : List Cond := lw_tbl.filter goodWord
theorem uc_X0_init : Cond.code yX0_init cX0_init 1 none ∈ UW := List.mem_filter.mpr ⟨List.mem_append_right _ (List.mem_of_getElem? (i := 28) (by decide +kernel)), by decide +kernel⟩
theorem umX0_3 : Cond.methodLink RX0 3 objectInit ∈ UW := List.mem_filter.mpr ⟨List.mem_append_right _ (List.mem_of_getElem? (i := 29) (by decide +kernel)), by decide +kernel⟩
theorem ui_objinit : Cond.instanceMethod objectInit ∈ UW := List.mem_filter.mpr ⟨List.mem_append_right _ (List.mem_of_getElem? (i := 21) (by decide +kernel)), by decide +kernel⟩
theorem uc_objinit : Cond.code objectInit ⟨#[0xb1]⟩ 1 none ∈ UW := List.mem_filter.mpr ⟨List.mem_append_right _ (List.mem_of_getElem? (i := 22) (by decide +kernel)), by decide +kernel⟩
theorem uc_X0_bringToStart : Cond.code yX0_bringToStart cX0_bringToStart 1 none ∈ UW := List.mem_filter.mpr ⟨List.mem_append_right _ (List.mem_of_getElem? (i := 160) (by decide +kernel)), by decide +kernel⟩
theorem ufX0_9 : Cond.fieldLink RX0 9 "TokenFlow$Actor" "a" "I" ∈ UW := List.mem_filter.mpr ⟨List.mem_append_right _ (List.mem_of_getElem? (i := 32) (by decide +kernel)), by decide +kernel⟩
theorem ufX0_15 : Cond.fieldLink RX0 15 "TokenFlow$Actor" "state" "I" ∈ UW := List.mem_filter.mpr ⟨List.mem_append_right _ (List.mem_of_getElem? (i := 34) (by decide +kernel)), by decide +kernel⟩
theorem ufX0_18 : Cond.fieldLink RX0 18 "TokenFlow$Actor" "value" "I" ∈ UW := List.mem_filter.mpr ⟨List.mem_append_right _ (List.mem_of_getElem? (i := 36) (by decide +kernel)), by decide +kernel⟩
theorem uc_X0_work : Cond.code yX0_work cX0_work 2 none ∈ UW := List.mem_filter.mpr ⟨List.mem_append_right _ (List.mem_of_getElem? (i := 485) (by decide +kernel)), by decide +kernel⟩
theorem ufX0_21 : Cond.fieldLink RX0 21 "TokenFlow$Actor" "kind" "I" ∈ UW := List.mem_filter.mpr ⟨List.mem_append_right _ (List.mem_of_getElem? (i := 31) (by decide +kernel)), by decide +kernel⟩
theorem ufX0_24 : Cond.fieldLink RX0 24 "TokenFlow$Taken" "sum" "I" ∈ UW := List.mem_filter.mpr ⟨List.mem_append_right _ (List.mem_of_getElem? (i := 109) (by decide +kernel)), by decide +kernel⟩
theorem ufX0_29 : Cond.fieldLink RX0 29 "TokenFlow$Taken" "count" "I" ∈ UW := List.mem_filter.mpr ⟨List.mem_append_right _ (List.mem_of_getElem? (i := 107) (by decide +kernel)), by decide +kernel⟩
theorem ufX0_32 : Cond.fieldLink RX0 32 "TokenFlow$Taken" "greatest" "I" ∈ UW := List.mem_filter.mpr ⟨List.mem_append_right _ (List.mem_of_getElem? (i := 111) (by decide +kernel)), by decide +kernel⟩
theorem ufX0_35 : Cond.fieldLink RX0 35 "TokenFlow$Taken" "mix" "I" ∈ UW := List.mem_filter.mpr ⟨List.mem_append_right _ (List.mem_of_getElem? (i := 113) (by decide +kernel)), by decide +kernel⟩
theorem uc_X1_init : Cond.code yX1_init cX1_init 1 none ∈ UW := List.mem_filter.mpr ⟨List.mem_append_right _ (List.mem_of_getElem? (i := 58) (by decide +kernel)), by decide +kernel⟩
theorem umX1_3 : Cond.methodLink RX1 3 objectInit ∈ UW := List.mem_filter.mpr ⟨List.mem_append_right _ (List.mem_of_getElem? (i := 59) (by decide +kernel)), by decide +kernel⟩
theorem ua_int : Cond.arrayClass .int ∈ UW := List.mem_filter.mpr ⟨List.mem_append_right _ (List.mem_of_getElem? (i := 99) (by decide +kernel)), by decide +kernel⟩
theorem ufX1_9 : Cond.fieldLink RX1 9 "TokenFlow$Edge" "ring" "[I" ∈ UW := List.mem_filter.mpr ⟨List.mem_append_right _ (List.mem_of_getElem? (i := 74) (by decide +kernel)), by decide +kernel⟩
theorem uc_X1_bringToStart : Cond.code yX1_bringToStart cX1_bringToStart 2 none ∈ UW := List.mem_filter.mpr ⟨List.mem_append_right _ (List.mem_of_getElem? (i := 164) (by decide +kernel)), by decide +kernel⟩
theorem ufX1_15 : Cond.fieldLink RX1 15 "TokenFlow$Edge" "oldest" "I" ∈ UW := List.mem_filter.mpr ⟨List.mem_append_right _ (List.mem_of_getElem? (i := 75) (by decide +kernel)), by decide +kernel⟩
theorem ufX1_19 : Cond.fieldLink RX1 19 "TokenFlow$Edge" "waiting" "I" ∈ UW := List.mem_filter.mpr ⟨List.mem_append_right _ (List.mem_of_getElem? (i := 68) (by decide +kernel)), by decide +kernel⟩
theorem ufX1_22 : Cond.fieldLink RX1 22 "TokenFlow$Edge" "count" "I" ∈ UW := List.mem_filter.mpr ⟨List.mem_append_right _ (List.mem_of_getElem? (i := 76) (by decide +kernel)), by decide +kernel⟩
theorem uc_X1_beginCounting : Cond.code yX1_beginCounting cX1_beginCounting 1 none ∈ UW := List.mem_filter.mpr ⟨List.mem_append_right _ (List.mem_of_getElem? (i := 395) (by decide +kernel)), by decide +kernel⟩
theorem ufX1_25 : Cond.fieldLink RX1 25 "TokenFlow$Edge" "lying" "I" ∈ UW := List.mem_filter.mpr ⟨List.mem_append_right _ (List.mem_of_getElem? (i := 70) (by decide +kernel)), by decide +kernel⟩
theorem ufX1_28 : Cond.fieldLink RX1 28 "TokenFlow$Edge" "bound" "I" ∈ UW := List.mem_filter.mpr ⟨List.mem_append_right _ (List.mem_of_getElem? (i := 72) (by decide +kernel)), by decide +kernel⟩
theorem uc_X1_countFiring : Cond.code yX1_countFiring cX1_countFiring 2 none ∈ UW := List.mem_filter.mpr ⟨List.mem_append_right _ (List.mem_of_getElem? (i := 411) (by decide +kernel)), by decide +kernel⟩
theorem ufX1_31 : Cond.fieldLink RX1 31 "TokenFlow$Edge" "to" "I" ∈ UW := List.mem_filter.mpr ⟨List.mem_append_right _ (List.mem_of_getElem? (i := 63) (by decide +kernel)), by decide +kernel⟩
theorem ufX1_34 : Cond.fieldLink RX1 34 "TokenFlow$Edge" "takes" "I" ∈ UW := List.mem_filter.mpr ⟨List.mem_append_right _ (List.mem_of_getElem? (i := 67) (by decide +kernel)), by decide +kernel⟩
theorem ufX1_37 : Cond.fieldLink RX1 37 "TokenFlow$Edge" "from" "I" ∈ UW := List.mem_filter.mpr ⟨List.mem_append_right _ (List.mem_of_getElem? (i := 61) (by decide +kernel)), by decide +kernel⟩
theorem ufX1_40 : Cond.fieldLink RX1 40 "TokenFlow$Edge" "gives" "I" ∈ UW := List.mem_filter.mpr ⟨List.mem_append_right _ (List.mem_of_getElem? (i := 65) (by decide +kernel)), by decide +kernel⟩
theorem umX1_43 : Cond.methodLink RX1 43 Lib.Math.max.name ∈ UW := List.mem_filter.mpr ⟨List.mem_append_right _ (List.mem_of_getElem? (i := 412) (by decide +kernel)), by decide +kernel⟩
theorem uz_mmax : Cond.static Lib.Math.max.name ∈ UW := List.mem_filter.mpr ⟨List.mem_append_right _ (List.mem_of_getElem? (i := 413) (by decide +kernel)), by decide +kernel⟩
theorem unJ9 : Cond.initialized "java/lang/Math" ∈ UW := List.mem_filter.mpr ⟨List.mem_append_right _ (List.mem_of_getElem? (i := 12) (by decide +kernel)), by decide +kernel⟩
theorem uc_mmax : Cond.code Lib.Math.max.name Lib.Math.max.code 2 (some .int) ∈ UW := List.mem_filter.mpr ⟨List.mem_append_right _ (List.mem_of_getElem? (i := 414) (by decide +kernel)), by decide +kernel⟩
theorem uc_X1_makeRoom : Cond.code yX1_makeRoom cX1_makeRoom 1 none ∈ UW := List.mem_filter.mpr ⟨List.mem_append_right _ (List.mem_of_getElem? (i := 438) (by decide +kernel)), by decide +kernel⟩
theorem uc_X1_place : Cond.code yX1_place cX1_place 3 (some .int) ∈ UW := List.mem_filter.mpr ⟨List.mem_append_right _ (List.mem_of_getElem? (i := 234) (by decide +kernel)), by decide +kernel⟩
theorem uc_X1_look : Cond.code yX1_look cX1_look 2 (some .int) ∈ UW := List.mem_filter.mpr ⟨List.mem_append_right _ (List.mem_of_getElem? (i := 230) (by decide +kernel)), by decide +kernel⟩
theorem umX1_59 : Cond.methodLink RX1 59 yX1_place ∈ UW := List.mem_filter.mpr ⟨List.mem_append_right _ (List.mem_of_getElem? (i := 231) (by decide +kernel)), by decide +kernel⟩
theorem ui_X1_place : Cond.instanceMethod yX1_place ∈ UW := List.mem_filter.mpr ⟨List.mem_append_right _ (List.mem_of_getElem? (i := 233) (by decide +kernel)), by decide +kernel⟩
theorem us_X1_place : Cond.selects RX1 yX1_place yX1_place ∈ UW := List.mem_filter.mpr ⟨List.mem_append_left _ (List.mem_of_getElem? (i := 4) (by decide +kernel)), by decide +kernel⟩
theorem unX1 : Cond.initialized RX1 ∈ UW := List.mem_filter.mpr ⟨List.mem_append_right _ (List.mem_of_getElem? (i := 3) (by decide +kernel)), by decide +kernel⟩
theorem uc_X2_add : Cond.code yX2_add cX2_add 2 none ∈ UW := List.mem_filter.mpr ⟨List.mem_append_right _ (List.mem_of_getElem? (i := 480) (by decide +kernel)), by decide +kernel⟩
theorem ufX2_7 : Cond.fieldLink RX2 7 "TokenFlow$Taken" "count" "I" ∈ UW := List.mem_filter.mpr ⟨List.mem_append_right _ (List.mem_of_getElem? (i := 106) (by decide +kernel)), by decide +kernel⟩
theorem ufX2_16 : Cond.fieldLink RX2 16 "TokenFlow$Taken" "greatest" "I" ∈ UW := List.mem_filter.mpr ⟨List.mem_append_right _ (List.mem_of_getElem? (i := 110) (by decide +kernel)), by decide +kernel⟩
theorem umX2_22 : Cond.methodLink RX2 22 Lib.Math.max.name ∈ UW := List.mem_filter.mpr ⟨List.mem_append_right _ (List.mem_of_getElem? (i := 481) (by decide +kernel)), by decide +kernel⟩
theorem ufX2_13 : Cond.fieldLink RX2 13 "TokenFlow$Taken" "sum" "I" ∈ UW := List.mem_filter.mpr ⟨List.mem_append_right _ (List.mem_of_getElem? (i := 108) (by decide +kernel)), by decide +kernel⟩
theorem ufX2_19 : Cond.fieldLink RX2 19 "TokenFlow$Taken" "mix" "I" ∈ UW := List.mem_filter.mpr ⟨List.mem_append_right _ (List.mem_of_getElem? (i := 112) (by decide +kernel)), by decide +kernel⟩
theorem umX1_49 : Cond.methodLink RX1 49 yX1_look ∈ UW := List.mem_filter.mpr ⟨List.mem_append_right _ (List.mem_of_getElem? (i := 476) (by decide +kernel)), by decide +kernel⟩
theorem ui_X1_look : Cond.instanceMethod yX1_look ∈ UW := List.mem_filter.mpr ⟨List.mem_append_right _ (List.mem_of_getElem? (i := 228) (by decide +kernel)), by decide +kernel⟩
theorem us_X1_look : Cond.selects RX1 yX1_look yX1_look ∈ UW := List.mem_filter.mpr ⟨List.mem_append_right _ (List.mem_of_getElem? (i := 229) (by decide +kernel)), by decide +kernel⟩
theorem umX1_53 : Cond.methodLink RX1 53 yX2_add ∈ UW := List.mem_filter.mpr ⟨List.mem_append_right _ (List.mem_of_getElem? (i := 477) (by decide +kernel)), by decide +kernel⟩
theorem ui_X2_add : Cond.instanceMethod yX2_add ∈ UW := List.mem_filter.mpr ⟨List.mem_append_right _ (List.mem_of_getElem? (i := 478) (by decide +kernel)), by decide +kernel⟩
theorem us_X2_add : Cond.selects RX2 yX2_add yX2_add ∈ UW := List.mem_filter.mpr ⟨List.mem_append_right _ (List.mem_of_getElem? (i := 479) (by decide +kernel)), by decide +kernel⟩
theorem unX2 : Cond.initialized RX2 ∈ UW := List.mem_filter.mpr ⟨List.mem_append_right _ (List.mem_of_getElem? (i := 4) (by decide +kernel)), by decide +kernel⟩
theorem uc_X1_handOver : Cond.code yX1_handOver cX1_handOver 3 none ∈ UW := List.mem_filter.mpr ⟨List.mem_append_right _ (List.mem_of_getElem? (i := 475) (by decide +kernel)), by decide +kernel⟩
theorem uc_X1_receive : Cond.code yX1_receive cX1_receive 3 none ∈ UW := List.mem_filter.mpr ⟨List.mem_append_right _ (List.mem_of_getElem? (i := 489) (by decide +kernel)), by decide +kernel⟩
theorem uc_X2_init : Cond.code yX2_init cX2_init 1 none ∈ UW := List.mem_filter.mpr ⟨List.mem_append_right _ (List.mem_of_getElem? (i := 104) (by decide +kernel)), by decide +kernel⟩
theorem umX2_1 : Cond.methodLink RX2 1 objectInit ∈ UW := List.mem_filter.mpr ⟨List.mem_append_right _ (List.mem_of_getElem? (i := 105) (by decide +kernel)), by decide +kernel⟩
theorem uc_X2_forget : Cond.code yX2_forget cX2_forget 1 none ∈ UW := List.mem_filter.mpr ⟨List.mem_append_right _ (List.mem_of_getElem? (i := 471) (by decide +kernel)), by decide +kernel⟩
theorem umX3_1 : Cond.methodLink RX3 1 objectInit ∈ UW := List.mem_filter.mpr ⟨List.mem_append_right _ (List.mem_of_getElem? (i := 20) (by decide +kernel)), by decide +kernel⟩
theorem ulX3_9 : Cond.classLink RX3 9 RX0 ∈ UW := List.mem_filter.mpr ⟨List.mem_append_right _ (List.mem_of_getElem? (i := 23) (by decide +kernel)), by decide +kernel⟩
theorem ufX3_11 : Cond.fieldLink RX3 11 "TokenFlow" "actorRow" "[LTokenFlow$Actor;" ∈ UW := List.mem_filter.mpr ⟨List.mem_append_right _ (List.mem_of_getElem? (i := 123) (by decide +kernel)), by decide +kernel⟩
theorem utX0 : Cond.instantiable RX0 6 ∈ UW := List.mem_filter.mpr ⟨List.mem_append_right _ (List.mem_of_getElem? (i := 25) (by decide +kernel)), by decide +kernel⟩
theorem unX0 : Cond.initialized RX0 ∈ UW := List.mem_filter.mpr ⟨List.mem_append_right _ (List.mem_of_getElem? (i := 2) (by decide +kernel)), by decide +kernel⟩
theorem ulX3_16 : Cond.classLink RX3 16 RX1 ∈ UW := List.mem_filter.mpr ⟨List.mem_append_right _ (List.mem_of_getElem? (i := 53) (by decide +kernel)), by decide +kernel⟩
theorem ufX3_18 : Cond.fieldLink RX3 18 "TokenFlow" "edgeRow" "[LTokenFlow$Edge;" ∈ UW := List.mem_filter.mpr ⟨List.mem_append_right _ (List.mem_of_getElem? (i := 124) (by decide +kernel)), by decide +kernel⟩
theorem utX1 : Cond.instantiable RX1 10 ∈ UW := List.mem_filter.mpr ⟨List.mem_append_right _ (List.mem_of_getElem? (i := 55) (by decide +kernel)), by decide +kernel⟩
theorem ufX3_23 : Cond.fieldLink RX3 23 "TokenFlow" "firingRow" "[I" ∈ UW := List.mem_filter.mpr ⟨List.mem_append_right _ (List.mem_of_getElem? (i := 125) (by decide +kernel)), by decide +kernel⟩
theorem ulX3_27 : Cond.classLink RX3 27 RX2 ∈ UW := List.mem_filter.mpr ⟨List.mem_append_right _ (List.mem_of_getElem? (i := 100) (by decide +kernel)), by decide +kernel⟩
theorem utX2 : Cond.instantiable RX2 4 ∈ UW := List.mem_filter.mpr ⟨List.mem_append_right _ (List.mem_of_getElem? (i := 101) (by decide +kernel)), by decide +kernel⟩
theorem ufX3_30 : Cond.fieldLink RX3 30 "TokenFlow" "taken" "LTokenFlow$Taken;" ∈ UW := List.mem_filter.mpr ⟨List.mem_append_right _ (List.mem_of_getElem? (i := 126) (by decide +kernel)), by decide +kernel⟩
theorem ui_X0_init : Cond.instanceMethod yX0_init ∈ UW := List.mem_filter.mpr ⟨List.mem_append_right _ (List.mem_of_getElem? (i := 27) (by decide +kernel)), by decide +kernel⟩
theorem umX3_22 : Cond.methodLink RX3 22 yX1_init ∈ UW := List.mem_filter.mpr ⟨List.mem_append_right _ (List.mem_of_getElem? (i := 56) (by decide +kernel)), by decide +kernel⟩
theorem ui_X1_init : Cond.instanceMethod yX1_init ∈ UW := List.mem_filter.mpr ⟨List.mem_append_right _ (List.mem_of_getElem? (i := 57) (by decide +kernel)), by decide +kernel⟩
theorem ui_X2_init : Cond.instanceMethod yX2_init ∈ UW := List.mem_filter.mpr ⟨List.mem_append_right _ (List.mem_of_getElem? (i := 103) (by decide +kernel)), by decide +kernel⟩
theorem uc_X3_init : Cond.code yX3_init cX3_init 2 none ∈ UW := List.mem_filter.mpr ⟨List.mem_append_right _ (List.mem_of_getElem? (i := 19) (by decide +kernel)), by decide +kernel⟩
theorem uc_X3_bringToStart : Cond.code yX3_bringToStart cX3_bringToStart 2 none ∈ UW := List.mem_filter.mpr ⟨List.mem_append_right _ (List.mem_of_getElem? (i := 156) (by decide +kernel)), by decide +kernel⟩
theorem ufX3_34 : Cond.fieldLink RX3 34 "TokenFlow" "actorCount" "I" ∈ UW := List.mem_filter.mpr ⟨List.mem_append_right _ (List.mem_of_getElem? (i := 127) (by decide +kernel)), by decide +kernel⟩
theorem ufX3_57 : Cond.fieldLink RX3 57 "TokenFlow" "edgeCount" "I" ∈ UW := List.mem_filter.mpr ⟨List.mem_append_right _ (List.mem_of_getElem? (i := 128) (by decide +kernel)), by decide +kernel⟩
theorem umX3_162 : Cond.methodLink RX3 162 yX0_bringToStart ∈ UW := List.mem_filter.mpr ⟨List.mem_append_right _ (List.mem_of_getElem? (i := 157) (by decide +kernel)), by decide +kernel⟩
theorem ui_X0_bringToStart : Cond.instanceMethod yX0_bringToStart ∈ UW := List.mem_filter.mpr ⟨List.mem_append_right _ (List.mem_of_getElem? (i := 158) (by decide +kernel)), by decide +kernel⟩
theorem us_X0_bringToStart : Cond.selects RX0 yX0_bringToStart yX0_bringToStart ∈ UW := List.mem_filter.mpr ⟨List.mem_append_right _ (List.mem_of_getElem? (i := 159) (by decide +kernel)), by decide +kernel⟩
theorem umX3_163 : Cond.methodLink RX3 163 yX1_bringToStart ∈ UW := List.mem_filter.mpr ⟨List.mem_append_right _ (List.mem_of_getElem? (i := 161) (by decide +kernel)), by decide +kernel⟩
theorem ui_X1_bringToStart : Cond.instanceMethod yX1_bringToStart ∈ UW := List.mem_filter.mpr ⟨List.mem_append_right _ (List.mem_of_getElem? (i := 162) (by decide +kernel)), by decide +kernel⟩
theorem us_X1_bringToStart : Cond.selects RX1 yX1_bringToStart yX1_bringToStart ∈ UW := List.mem_filter.mpr ⟨List.mem_append_right _ (List.mem_of_getElem? (i := 163) (by decide +kernel)), by decide +kernel⟩
theorem ufX3_81 : Cond.fieldLink RX3 81 "TokenFlow" "planLength" "I" ∈ UW := List.mem_filter.mpr ⟨List.mem_append_right _ (List.mem_of_getElem? (i := 129) (by decide +kernel)), by decide +kernel⟩
theorem umX3_78 : Cond.methodLink RX3 78 yX3_bringToStart ∈ UW := List.mem_filter.mpr ⟨List.mem_append_right _ (List.mem_of_getElem? (i := 153) (by decide +kernel)), by decide +kernel⟩
theorem ui_X3_bringToStart : Cond.instanceMethod yX3_bringToStart ∈ UW := List.mem_filter.mpr ⟨List.mem_append_right _ (List.mem_of_getElem? (i := 155) (by decide +kernel)), by decide +kernel⟩
theorem us_X3_bringToStart : Cond.selects RX3 yX3_bringToStart yX3_bringToStart ∈ UW := List.mem_filter.mpr ⟨List.mem_append_left _ (List.mem_of_getElem? (i := 1) (by decide +kernel)), by decide +kernel⟩
theorem unX3 : Cond.initialized RX3 ∈ UW := List.mem_filter.mpr ⟨List.mem_append_right _ (List.mem_of_getElem? (i := 1) (by decide +kernel)), by decide +kernel⟩
theorem uc_X3_noteChange : Cond.code yX3_noteChange cX3_noteChange 1 none ∈ UW := List.mem_filter.mpr ⟨List.mem_append_right _ (List.mem_of_getElem? (i := 152) (by decide +kernel)), by decide +kernel⟩
theorem ufX3_38 : Cond.fieldLink RX3 38 "TokenFlow$Actor" "kind" "I" ∈ UW := List.mem_filter.mpr ⟨List.mem_append_right _ (List.mem_of_getElem? (i := 30) (by decide +kernel)), by decide +kernel⟩
theorem ufX3_41 : Cond.fieldLink RX3 41 "TokenFlow$Actor" "a" "I" ∈ UW := List.mem_filter.mpr ⟨List.mem_append_right _ (List.mem_of_getElem? (i := 33) (by decide +kernel)), by decide +kernel⟩
theorem umX3_44 : Cond.methodLink RX3 44 yX3_noteChange ∈ UW := List.mem_filter.mpr ⟨List.mem_append_right _ (List.mem_of_getElem? (i := 149) (by decide +kernel)), by decide +kernel⟩
theorem ui_X3_noteChange : Cond.instanceMethod yX3_noteChange ∈ UW := List.mem_filter.mpr ⟨List.mem_append_right _ (List.mem_of_getElem? (i := 151) (by decide +kernel)), by decide +kernel⟩
theorem us_X3_noteChange : Cond.selects RX3 yX3_noteChange yX3_noteChange ∈ UW := List.mem_filter.mpr ⟨List.mem_append_left _ (List.mem_of_getElem? (i := 0) (by decide +kernel)), by decide +kernel⟩
theorem uc_X3_actor : Cond.code yX3_actor cX3_actor 4 (some .int) ∈ UW := List.mem_filter.mpr ⟨List.mem_append_right _ (List.mem_of_getElem? (i := 148) (by decide +kernel)), by decide +kernel⟩
theorem uc_X3_isActor : Cond.code yX3_isActor cX3_isActor 2 (some .boolean) ∈ UW := List.mem_filter.mpr ⟨List.mem_append_right _ (List.mem_of_getElem? (i := 172) (by decide +kernel)), by decide +kernel⟩
theorem uc_X3_isAtOnce : Cond.code yX3_isAtOnce cX3_isAtOnce 1 (some .boolean) ∈ UW := List.mem_filter.mpr ⟨List.mem_append_right _ (List.mem_of_getElem? (i := 175) (by decide +kernel)), by decide +kernel⟩
theorem uc_X3_isWaiting : Cond.code yX3_isWaiting cX3_isWaiting 1 (some .boolean) ∈ UW := List.mem_filter.mpr ⟨List.mem_append_right _ (List.mem_of_getElem? (i := 178) (by decide +kernel)), by decide +kernel⟩
theorem ufX3_60 : Cond.fieldLink RX3 60 "TokenFlow$Edge" "from" "I" ∈ UW := List.mem_filter.mpr ⟨List.mem_append_right _ (List.mem_of_getElem? (i := 60) (by decide +kernel)), by decide +kernel⟩
theorem ufX3_63 : Cond.fieldLink RX3 63 "TokenFlow$Edge" "to" "I" ∈ UW := List.mem_filter.mpr ⟨List.mem_append_right _ (List.mem_of_getElem? (i := 62) (by decide +kernel)), by decide +kernel⟩
theorem ufX3_66 : Cond.fieldLink RX3 66 "TokenFlow$Edge" "gives" "I" ∈ UW := List.mem_filter.mpr ⟨List.mem_append_right _ (List.mem_of_getElem? (i := 64) (by decide +kernel)), by decide +kernel⟩
theorem ufX3_69 : Cond.fieldLink RX3 69 "TokenFlow$Edge" "takes" "I" ∈ UW := List.mem_filter.mpr ⟨List.mem_append_right _ (List.mem_of_getElem? (i := 66) (by decide +kernel)), by decide +kernel⟩
theorem ufX3_72 : Cond.fieldLink RX3 72 "TokenFlow$Edge" "waiting" "I" ∈ UW := List.mem_filter.mpr ⟨List.mem_append_right _ (List.mem_of_getElem? (i := 69) (by decide +kernel)), by decide +kernel⟩
theorem umX3_47 : Cond.methodLink RX3 47 yX3_isActor ∈ UW := List.mem_filter.mpr ⟨List.mem_append_right _ (List.mem_of_getElem? (i := 169) (by decide +kernel)), by decide +kernel⟩
theorem ui_X3_isActor : Cond.instanceMethod yX3_isActor ∈ UW := List.mem_filter.mpr ⟨List.mem_append_right _ (List.mem_of_getElem? (i := 171) (by decide +kernel)), by decide +kernel⟩
theorem us_X3_isActor : Cond.selects RX3 yX3_isActor yX3_isActor ∈ UW := List.mem_filter.mpr ⟨List.mem_append_left _ (List.mem_of_getElem? (i := 2) (by decide +kernel)), by decide +kernel⟩
theorem umX3_51 : Cond.methodLink RX3 51 yX3_isAtOnce ∈ UW := List.mem_filter.mpr ⟨List.mem_append_right _ (List.mem_of_getElem? (i := 173) (by decide +kernel)), by decide +kernel⟩
theorem uz_X3_isAtOnce : Cond.static yX3_isAtOnce ∈ UW := List.mem_filter.mpr ⟨List.mem_append_right _ (List.mem_of_getElem? (i := 174) (by decide +kernel)), by decide +kernel⟩
theorem umX3_54 : Cond.methodLink RX3 54 yX3_isWaiting ∈ UW := List.mem_filter.mpr ⟨List.mem_append_right _ (List.mem_of_getElem? (i := 176) (by decide +kernel)), by decide +kernel⟩
theorem uz_X3_isWaiting : Cond.static yX3_isWaiting ∈ UW := List.mem_filter.mpr ⟨List.mem_append_right _ (List.mem_of_getElem? (i := 177) (by decide +kernel)), by decide +kernel⟩
theorem uc_X3_edge : Cond.code yX3_edge cX3_edge 8 (some .int) ∈ UW := List.mem_filter.mpr ⟨List.mem_append_right _ (List.mem_of_getElem? (i := 168) (by decide +kernel)), by decide +kernel⟩
theorem uc_X3_isEdge : Cond.code yX3_isEdge cX3_isEdge 2 (some .boolean) ∈ UW := List.mem_filter.mpr ⟨List.mem_append_right _ (List.mem_of_getElem? (i := 186) (by decide +kernel)), by decide +kernel⟩
theorem umX3_75 : Cond.methodLink RX3 75 yX3_isEdge ∈ UW := List.mem_filter.mpr ⟨List.mem_append_right _ (List.mem_of_getElem? (i := 183) (by decide +kernel)), by decide +kernel⟩
theorem ui_X3_isEdge : Cond.instanceMethod yX3_isEdge ∈ UW := List.mem_filter.mpr ⟨List.mem_append_right _ (List.mem_of_getElem? (i := 185) (by decide +kernel)), by decide +kernel⟩
theorem us_X3_isEdge : Cond.selects RX3 yX3_isEdge yX3_isEdge ∈ UW := List.mem_filter.mpr ⟨List.mem_append_left _ (List.mem_of_getElem? (i := 3) (by decide +kernel)), by decide +kernel⟩
theorem uc_X3_delay : Cond.code yX3_delay cX3_delay 3 (some .boolean) ∈ UW := List.mem_filter.mpr ⟨List.mem_append_right _ (List.mem_of_getElem? (i := 182) (by decide +kernel)), by decide +kernel⟩
theorem uc_X3_reset : Cond.code yX3_reset cX3_reset 1 none ∈ UW := List.mem_filter.mpr ⟨List.mem_append_right _ (List.mem_of_getElem? (i := 190) (by decide +kernel)), by decide +kernel⟩
theorem uc_X3_clear : Cond.code yX3_clear cX3_clear 1 none ∈ UW := List.mem_filter.mpr ⟨List.mem_append_right _ (List.mem_of_getElem? (i := 194) (by decide +kernel)), by decide +kernel⟩
theorem uc_X3_actors : Cond.code yX3_actors cX3_actors 1 (some .int) ∈ UW := List.mem_filter.mpr ⟨List.mem_append_right _ (List.mem_of_getElem? (i := 198) (by decide +kernel)), by decide +kernel⟩
theorem uc_X3_edges : Cond.code yX3_edges cX3_edges 1 (some .int) ∈ UW := List.mem_filter.mpr ⟨List.mem_append_right _ (List.mem_of_getElem? (i := 202) (by decide +kernel)), by decide +kernel⟩
theorem uc_X3_reach : Cond.code yX3_reach cX3_reach 6 none ∈ UW := List.mem_filter.mpr ⟨List.mem_append_right _ (List.mem_of_getElem? (i := 265) (by decide +kernel)), by decide +kernel⟩
theorem ufX3_131 : Cond.fieldLink RX3 131 "TokenFlow$Actor" "repetitions" "J" ∈ UW := List.mem_filter.mpr ⟨List.mem_append_right _ (List.mem_of_getElem? (i := 38) (by decide +kernel)), by decide +kernel⟩
theorem uc_X3_spreadAlong : Cond.code yX3_spreadAlong cX3_spreadAlong 4 none ∈ UW := List.mem_filter.mpr ⟨List.mem_append_right _ (List.mem_of_getElem? (i := 261) (by decide +kernel)), by decide +kernel⟩
theorem umX3_168 : Cond.methodLink RX3 168 yX3_reach ∈ UW := List.mem_filter.mpr ⟨List.mem_append_right _ (List.mem_of_getElem? (i := 262) (by decide +kernel)), by decide +kernel⟩
theorem ui_X3_reach : Cond.instanceMethod yX3_reach ∈ UW := List.mem_filter.mpr ⟨List.mem_append_right _ (List.mem_of_getElem? (i := 264) (by decide +kernel)), by decide +kernel⟩
theorem us_X3_reach : Cond.selects RX3 yX3_reach yX3_reach ∈ UW := List.mem_filter.mpr ⟨List.mem_append_left _ (List.mem_of_getElem? (i := 7) (by decide +kernel)), by decide +kernel⟩
theorem uc_X3_spreadRepetitions : Cond.code yX3_spreadRepetitions cX3_spreadRepetitions 3 none ∈ UW := List.mem_filter.mpr ⟨List.mem_append_right _ (List.mem_of_getElem? (i := 257) (by decide +kernel)), by decide +kernel⟩
theorem umX3_164 : Cond.methodLink RX3 164 yX3_spreadAlong ∈ UW := List.mem_filter.mpr ⟨List.mem_append_right _ (List.mem_of_getElem? (i := 258) (by decide +kernel)), by decide +kernel⟩
theorem ui_X3_spreadAlong : Cond.instanceMethod yX3_spreadAlong ∈ UW := List.mem_filter.mpr ⟨List.mem_append_right _ (List.mem_of_getElem? (i := 260) (by decide +kernel)), by decide +kernel⟩
theorem us_X3_spreadAlong : Cond.selects RX3 yX3_spreadAlong yX3_spreadAlong ∈ UW := List.mem_filter.mpr ⟨List.mem_append_left _ (List.mem_of_getElem? (i := 6) (by decide +kernel)), by decide +kernel⟩
theorem uc_X3_isConnected : Cond.code yX3_isConnected cX3_isConnected 2 (some .boolean) ∈ UW := List.mem_filter.mpr ⟨List.mem_append_right _ (List.mem_of_getElem? (i := 269) (by decide +kernel)), by decide +kernel⟩
theorem uc_X3_isBalanced : Cond.code yX3_isBalanced cX3_isBalanced 5 (some .boolean) ∈ UW := List.mem_filter.mpr ⟨List.mem_append_right _ (List.mem_of_getElem? (i := 343) (by decide +kernel)), by decide +kernel⟩
theorem uc_X3_greatestDivisor : Cond.code yX3_greatestDivisor cX3_greatestDivisor 11 (some .long) ∈ UW := List.mem_filter.mpr ⟨List.mem_append_right _ (List.mem_of_getElem? (i := 366) (by decide +kernel)), by decide +kernel⟩
theorem uc_X3_reduceRepetitions : Cond.code yX3_reduceRepetitions cX3_reduceRepetitions 4 none ∈ UW := List.mem_filter.mpr ⟨List.mem_append_right _ (List.mem_of_getElem? (i := 363) (by decide +kernel)), by decide +kernel⟩
theorem umX3_172 : Cond.methodLink RX3 172 yX3_greatestDivisor ∈ UW := List.mem_filter.mpr ⟨List.mem_append_right _ (List.mem_of_getElem? (i := 364) (by decide +kernel)), by decide +kernel⟩
theorem uz_X3_greatestDivisor : Cond.static yX3_greatestDivisor ∈ UW := List.mem_filter.mpr ⟨List.mem_append_right _ (List.mem_of_getElem? (i := 365) (by decide +kernel)), by decide +kernel⟩
theorem uc_X3_sumOfRepetitions : Cond.code yX3_sumOfRepetitions cX3_sumOfRepetitions 4 (some .long) ∈ UW := List.mem_filter.mpr ⟨List.mem_append_right _ (List.mem_of_getElem? (i := 370) (by decide +kernel)), by decide +kernel⟩
theorem uc_X3_hasEnough : Cond.code yX3_hasEnough cX3_hasEnough 3 (some .boolean) ∈ UW := List.mem_filter.mpr ⟨List.mem_append_right _ (List.mem_of_getElem? (i := 403) (by decide +kernel)), by decide +kernel⟩
theorem ufX3_192 : Cond.fieldLink RX3 192 "TokenFlow$Edge" "lying" "I" ∈ UW := List.mem_filter.mpr ⟨List.mem_append_right _ (List.mem_of_getElem? (i := 71) (by decide +kernel)), by decide +kernel⟩
theorem uc_X3_nextToFire : Cond.code yX3_nextToFire cX3_nextToFire 2 (some .int) ∈ UW := List.mem_filter.mpr ⟨List.mem_append_right _ (List.mem_of_getElem? (i := 399) (by decide +kernel)), by decide +kernel⟩
theorem ufX3_176 : Cond.fieldLink RX3 176 "TokenFlow$Actor" "fired" "I" ∈ UW := List.mem_filter.mpr ⟨List.mem_append_right _ (List.mem_of_getElem? (i := 39) (by decide +kernel)), by decide +kernel⟩
theorem umX3_189 : Cond.methodLink RX3 189 yX3_hasEnough ∈ UW := List.mem_filter.mpr ⟨List.mem_append_right _ (List.mem_of_getElem? (i := 400) (by decide +kernel)), by decide +kernel⟩
theorem ui_X3_hasEnough : Cond.instanceMethod yX3_hasEnough ∈ UW := List.mem_filter.mpr ⟨List.mem_append_right _ (List.mem_of_getElem? (i := 402) (by decide +kernel)), by decide +kernel⟩
theorem us_X3_hasEnough : Cond.selects RX3 yX3_hasEnough yX3_hasEnough ∈ UW := List.mem_filter.mpr ⟨List.mem_append_left _ (List.mem_of_getElem? (i := 15) (by decide +kernel)), by decide +kernel⟩
theorem uc_X3_countFiring : Cond.code yX3_countFiring cX3_countFiring 3 none ∈ UW := List.mem_filter.mpr ⟨List.mem_append_right _ (List.mem_of_getElem? (i := 407) (by decide +kernel)), by decide +kernel⟩
theorem umX3_195 : Cond.methodLink RX3 195 yX1_countFiring ∈ UW := List.mem_filter.mpr ⟨List.mem_append_right _ (List.mem_of_getElem? (i := 408) (by decide +kernel)), by decide +kernel⟩
theorem ui_X1_countFiring : Cond.instanceMethod yX1_countFiring ∈ UW := List.mem_filter.mpr ⟨List.mem_append_right _ (List.mem_of_getElem? (i := 409) (by decide +kernel)), by decide +kernel⟩
theorem us_X1_countFiring : Cond.selects RX1 yX1_countFiring yX1_countFiring ∈ UW := List.mem_filter.mpr ⟨List.mem_append_right _ (List.mem_of_getElem? (i := 410) (by decide +kernel)), by decide +kernel⟩
theorem umX3_179 : Cond.methodLink RX3 179 yX1_beginCounting ∈ UW := List.mem_filter.mpr ⟨List.mem_append_right _ (List.mem_of_getElem? (i := 392) (by decide +kernel)), by decide +kernel⟩
theorem ui_X1_beginCounting : Cond.instanceMethod yX1_beginCounting ∈ UW := List.mem_filter.mpr ⟨List.mem_append_right _ (List.mem_of_getElem? (i := 393) (by decide +kernel)), by decide +kernel⟩
theorem us_X1_beginCounting : Cond.selects RX1 yX1_beginCounting yX1_beginCounting ∈ UW := List.mem_filter.mpr ⟨List.mem_append_right _ (List.mem_of_getElem? (i := 394) (by decide +kernel)), by decide +kernel⟩
theorem umX3_182 : Cond.methodLink RX3 182 yX3_nextToFire ∈ UW := List.mem_filter.mpr ⟨List.mem_append_right _ (List.mem_of_getElem? (i := 396) (by decide +kernel)), by decide +kernel⟩
theorem ui_X3_nextToFire : Cond.instanceMethod yX3_nextToFire ∈ UW := List.mem_filter.mpr ⟨List.mem_append_right _ (List.mem_of_getElem? (i := 398) (by decide +kernel)), by decide +kernel⟩
theorem us_X3_nextToFire : Cond.selects RX3 yX3_nextToFire yX3_nextToFire ∈ UW := List.mem_filter.mpr ⟨List.mem_append_left _ (List.mem_of_getElem? (i := 14) (by decide +kernel)), by decide +kernel⟩
theorem umX3_186 : Cond.methodLink RX3 186 yX3_countFiring ∈ UW := List.mem_filter.mpr ⟨List.mem_append_right _ (List.mem_of_getElem? (i := 404) (by decide +kernel)), by decide +kernel⟩
theorem ui_X3_countFiring : Cond.instanceMethod yX3_countFiring ∈ UW := List.mem_filter.mpr ⟨List.mem_append_right _ (List.mem_of_getElem? (i := 406) (by decide +kernel)), by decide +kernel⟩
theorem us_X3_countFiring : Cond.selects RX3 yX3_countFiring yX3_countFiring ∈ UW := List.mem_filter.mpr ⟨List.mem_append_left _ (List.mem_of_getElem? (i := 16) (by decide +kernel)), by decide +kernel⟩
theorem uc_X3_layOut : Cond.code yX3_layOut cX3_layOut 4 (some .boolean) ∈ UW := List.mem_filter.mpr ⟨List.mem_append_right _ (List.mem_of_getElem? (i := 391) (by decide +kernel)), by decide +kernel⟩
theorem uc_X3_makeRoomForTokens : Cond.code yX3_makeRoomForTokens cX3_makeRoomForTokens 2 none ∈ UW := List.mem_filter.mpr ⟨List.mem_append_right _ (List.mem_of_getElem? (i := 434) (by decide +kernel)), by decide +kernel⟩
theorem umX3_196 : Cond.methodLink RX3 196 yX1_makeRoom ∈ UW := List.mem_filter.mpr ⟨List.mem_append_right _ (List.mem_of_getElem? (i := 435) (by decide +kernel)), by decide +kernel⟩
theorem ui_X1_makeRoom : Cond.instanceMethod yX1_makeRoom ∈ UW := List.mem_filter.mpr ⟨List.mem_append_right _ (List.mem_of_getElem? (i := 436) (by decide +kernel)), by decide +kernel⟩
theorem us_X1_makeRoom : Cond.selects RX1 yX1_makeRoom yX1_makeRoom ∈ UW := List.mem_filter.mpr ⟨List.mem_append_right _ (List.mem_of_getElem? (i := 437) (by decide +kernel)), by decide +kernel⟩
theorem ulX3_91 : Cond.classLink RX3 91 "java/lang/IllegalStateException" ∈ UW := List.mem_filter.mpr ⟨List.mem_append_right _ (List.mem_of_getElem? (i := 270) (by decide +kernel)), by decide +kernel⟩
theorem unIllegalStateException : Cond.initialized "java/lang/IllegalStateException" ∈ UW := List.mem_filter.mpr ⟨List.mem_append_right _ (List.mem_of_getElem? (i := 9) (by decide +kernel)), by decide +kernel⟩
theorem ulX3_101 : Cond.classLink RX3 101 "java/lang/ArithmeticException" ∈ UW := List.mem_filter.mpr ⟨List.mem_append_right _ (List.mem_of_getElem? (i := 344) (by decide +kernel)), by decide +kernel⟩
theorem unArithmeticException : Cond.initialized "java/lang/ArithmeticException" ∈ UW := List.mem_filter.mpr ⟨List.mem_append_right _ (List.mem_of_getElem? (i := 10) (by decide +kernel)), by decide +kernel⟩
theorem ulX3_115 : Cond.classLink RX3 115 "java/lang/UnsupportedOperationException" ∈ UW := List.mem_filter.mpr ⟨List.mem_append_right _ (List.mem_of_getElem? (i := 372) (by decide +kernel)), by decide +kernel⟩
theorem unUnsupportedOperationException : Cond.initialized "java/lang/UnsupportedOperationException" ∈ UW := List.mem_filter.mpr ⟨List.mem_append_right _ (List.mem_of_getElem? (i := 11) (by decide +kernel)), by decide +kernel⟩
theorem ulX3_123 : Cond.classLink RX3 123 "java/util/NoSuchElementException" ∈ UW := List.mem_filter.mpr ⟨List.mem_append_right _ (List.mem_of_getElem? (i := 415) (by decide +kernel)), by decide +kernel⟩
theorem unNoSuchElementException : Cond.initialized "java/util/NoSuchElementException" ∈ UW := List.mem_filter.mpr ⟨List.mem_append_right _ (List.mem_of_getElem? (i := 13) (by decide +kernel)), by decide +kernel⟩
theorem ukX3_113 : Cond.constantLong RX3 113 (200) ∈ UW := List.mem_filter.mpr ⟨List.mem_append_right _ (List.mem_of_getElem? (i := 371) (by decide +kernel)), by decide +kernel⟩
theorem umX3_84 : Cond.methodLink RX3 84 yX3_spreadRepetitions ∈ UW := List.mem_filter.mpr ⟨List.mem_append_right _ (List.mem_of_getElem? (i := 254) (by decide +kernel)), by decide +kernel⟩
theorem ui_X3_spreadRepetitions : Cond.instanceMethod yX3_spreadRepetitions ∈ UW := List.mem_filter.mpr ⟨List.mem_append_right _ (List.mem_of_getElem? (i := 256) (by decide +kernel)), by decide +kernel⟩
theorem us_X3_spreadRepetitions : Cond.selects RX3 yX3_spreadRepetitions yX3_spreadRepetitions ∈ UW := List.mem_filter.mpr ⟨List.mem_append_left _ (List.mem_of_getElem? (i := 5) (by decide +kernel)), by decide +kernel⟩
theorem umX3_87 : Cond.methodLink RX3 87 yX3_isConnected ∈ UW := List.mem_filter.mpr ⟨List.mem_append_right _ (List.mem_of_getElem? (i := 266) (by decide +kernel)), by decide +kernel⟩
theorem ui_X3_isConnected : Cond.instanceMethod yX3_isConnected ∈ UW := List.mem_filter.mpr ⟨List.mem_append_right _ (List.mem_of_getElem? (i := 268) (by decide +kernel)), by decide +kernel⟩
theorem us_X3_isConnected : Cond.selects RX3 yX3_isConnected yX3_isConnected ∈ UW := List.mem_filter.mpr ⟨List.mem_append_left _ (List.mem_of_getElem? (i := 8) (by decide +kernel)), by decide +kernel⟩
theorem umX3_98 : Cond.methodLink RX3 98 yX3_isBalanced ∈ UW := List.mem_filter.mpr ⟨List.mem_append_right _ (List.mem_of_getElem? (i := 340) (by decide +kernel)), by decide +kernel⟩
theorem ui_X3_isBalanced : Cond.instanceMethod yX3_isBalanced ∈ UW := List.mem_filter.mpr ⟨List.mem_append_right _ (List.mem_of_getElem? (i := 342) (by decide +kernel)), by decide +kernel⟩
theorem us_X3_isBalanced : Cond.selects RX3 yX3_isBalanced yX3_isBalanced ∈ UW := List.mem_filter.mpr ⟨List.mem_append_left _ (List.mem_of_getElem? (i := 10) (by decide +kernel)), by decide +kernel⟩
theorem umX3_106 : Cond.methodLink RX3 106 yX3_reduceRepetitions ∈ UW := List.mem_filter.mpr ⟨List.mem_append_right _ (List.mem_of_getElem? (i := 360) (by decide +kernel)), by decide +kernel⟩
theorem ui_X3_reduceRepetitions : Cond.instanceMethod yX3_reduceRepetitions ∈ UW := List.mem_filter.mpr ⟨List.mem_append_right _ (List.mem_of_getElem? (i := 362) (by decide +kernel)), by decide +kernel⟩
theorem us_X3_reduceRepetitions : Cond.selects RX3 yX3_reduceRepetitions yX3_reduceRepetitions ∈ UW := List.mem_filter.mpr ⟨List.mem_append_left _ (List.mem_of_getElem? (i := 11) (by decide +kernel)), by decide +kernel⟩
theorem umX3_109 : Cond.methodLink RX3 109 yX3_sumOfRepetitions ∈ UW := List.mem_filter.mpr ⟨List.mem_append_right _ (List.mem_of_getElem? (i := 367) (by decide +kernel)), by decide +kernel⟩
theorem ui_X3_sumOfRepetitions : Cond.instanceMethod yX3_sumOfRepetitions ∈ UW := List.mem_filter.mpr ⟨List.mem_append_right _ (List.mem_of_getElem? (i := 369) (by decide +kernel)), by decide +kernel⟩
theorem us_X3_sumOfRepetitions : Cond.selects RX3 yX3_sumOfRepetitions yX3_sumOfRepetitions ∈ UW := List.mem_filter.mpr ⟨List.mem_append_left _ (List.mem_of_getElem? (i := 12) (by decide +kernel)), by decide +kernel⟩
theorem umX3_120 : Cond.methodLink RX3 120 yX3_layOut ∈ UW := List.mem_filter.mpr ⟨List.mem_append_right _ (List.mem_of_getElem? (i := 388) (by decide +kernel)), by decide +kernel⟩
theorem ui_X3_layOut : Cond.instanceMethod yX3_layOut ∈ UW := List.mem_filter.mpr ⟨List.mem_append_right _ (List.mem_of_getElem? (i := 390) (by decide +kernel)), by decide +kernel⟩
theorem us_X3_layOut : Cond.selects RX3 yX3_layOut yX3_layOut ∈ UW := List.mem_filter.mpr ⟨List.mem_append_left _ (List.mem_of_getElem? (i := 13) (by decide +kernel)), by decide +kernel⟩
theorem umX3_128 : Cond.methodLink RX3 128 yX3_makeRoomForTokens ∈ UW := List.mem_filter.mpr ⟨List.mem_append_right _ (List.mem_of_getElem? (i := 431) (by decide +kernel)), by decide +kernel⟩
theorem ui_X3_makeRoomForTokens : Cond.instanceMethod yX3_makeRoomForTokens ∈ UW := List.mem_filter.mpr ⟨List.mem_append_right _ (List.mem_of_getElem? (i := 433) (by decide +kernel)), by decide +kernel⟩
theorem us_X3_makeRoomForTokens : Cond.selects RX3 yX3_makeRoomForTokens yX3_makeRoomForTokens ∈ UW := List.mem_filter.mpr ⟨List.mem_append_left _ (List.mem_of_getElem? (i := 17) (by decide +kernel)), by decide +kernel⟩
theorem uc_X3_plan : Cond.code yX3_plan cX3_plan 3 (some .int) ∈ UW := List.mem_filter.mpr ⟨List.mem_append_right _ (List.mem_of_getElem? (i := 253) (by decide +kernel)), by decide +kernel⟩
theorem uc_X3_planned : Cond.code yX3_planned cX3_planned 1 (some .int) ∈ UW := List.mem_filter.mpr ⟨List.mem_append_right _ (List.mem_of_getElem? (i := 206) (by decide +kernel)), by decide +kernel⟩
theorem uc_X3_firing : Cond.code yX3_firing cX3_firing 2 (some .int) ∈ UW := List.mem_filter.mpr ⟨List.mem_append_right _ (List.mem_of_getElem? (i := 210) (by decide +kernel)), by decide +kernel⟩
theorem uc_X3_repetitions : Cond.code yX3_repetitions cX3_repetitions 2 (some .int) ∈ UW := List.mem_filter.mpr ⟨List.mem_append_right _ (List.mem_of_getElem? (i := 214) (by decide +kernel)), by decide +kernel⟩
theorem uc_X3_bound : Cond.code yX3_bound cX3_bound 2 (some .int) ∈ UW := List.mem_filter.mpr ⟨List.mem_append_right _ (List.mem_of_getElem? (i := 218) (by decide +kernel)), by decide +kernel⟩
theorem ufX3_135 : Cond.fieldLink RX3 135 "TokenFlow$Edge" "bound" "I" ∈ UW := List.mem_filter.mpr ⟨List.mem_append_right _ (List.mem_of_getElem? (i := 73) (by decide +kernel)), by decide +kernel⟩
theorem ufX3_156 : Cond.fieldLink RX3 156 "TokenFlow$Actor" "value" "I" ∈ UW := List.mem_filter.mpr ⟨List.mem_append_right _ (List.mem_of_getElem? (i := 37) (by decide +kernel)), by decide +kernel⟩
theorem umX3_199 : Cond.methodLink RX3 199 yX2_forget ∈ UW := List.mem_filter.mpr ⟨List.mem_append_right _ (List.mem_of_getElem? (i := 468) (by decide +kernel)), by decide +kernel⟩
theorem ui_X2_forget : Cond.instanceMethod yX2_forget ∈ UW := List.mem_filter.mpr ⟨List.mem_append_right _ (List.mem_of_getElem? (i := 469) (by decide +kernel)), by decide +kernel⟩
theorem us_X2_forget : Cond.selects RX2 yX2_forget yX2_forget ∈ UW := List.mem_filter.mpr ⟨List.mem_append_right _ (List.mem_of_getElem? (i := 470) (by decide +kernel)), by decide +kernel⟩
theorem umX3_202 : Cond.methodLink RX3 202 yX1_handOver ∈ UW := List.mem_filter.mpr ⟨List.mem_append_right _ (List.mem_of_getElem? (i := 472) (by decide +kernel)), by decide +kernel⟩
theorem ui_X1_handOver : Cond.instanceMethod yX1_handOver ∈ UW := List.mem_filter.mpr ⟨List.mem_append_right _ (List.mem_of_getElem? (i := 473) (by decide +kernel)), by decide +kernel⟩
theorem us_X1_handOver : Cond.selects RX1 yX1_handOver yX1_handOver ∈ UW := List.mem_filter.mpr ⟨List.mem_append_right _ (List.mem_of_getElem? (i := 474) (by decide +kernel)), by decide +kernel⟩
theorem umX3_206 : Cond.methodLink RX3 206 yX0_work ∈ UW := List.mem_filter.mpr ⟨List.mem_append_right _ (List.mem_of_getElem? (i := 482) (by decide +kernel)), by decide +kernel⟩
theorem ui_X0_work : Cond.instanceMethod yX0_work ∈ UW := List.mem_filter.mpr ⟨List.mem_append_right _ (List.mem_of_getElem? (i := 483) (by decide +kernel)), by decide +kernel⟩
theorem us_X0_work : Cond.selects RX0 yX0_work yX0_work ∈ UW := List.mem_filter.mpr ⟨List.mem_append_right _ (List.mem_of_getElem? (i := 484) (by decide +kernel)), by decide +kernel⟩
theorem umX3_209 : Cond.methodLink RX3 209 yX1_receive ∈ UW := List.mem_filter.mpr ⟨List.mem_append_right _ (List.mem_of_getElem? (i := 486) (by decide +kernel)), by decide +kernel⟩
theorem ui_X1_receive : Cond.instanceMethod yX1_receive ∈ UW := List.mem_filter.mpr ⟨List.mem_append_right _ (List.mem_of_getElem? (i := 487) (by decide +kernel)), by decide +kernel⟩
theorem us_X1_receive : Cond.selects RX1 yX1_receive yX1_receive ∈ UW := List.mem_filter.mpr ⟨List.mem_append_right _ (List.mem_of_getElem? (i := 488) (by decide +kernel)), by decide +kernel⟩
theorem uc_X3_fire : Cond.code yX3_fire cX3_fire 4 none ∈ UW := List.mem_filter.mpr ⟨List.mem_append_right _ (List.mem_of_getElem? (i := 467) (by decide +kernel)), by decide +kernel⟩
theorem ulX3_140 : Cond.classLink RX3 140 "java/lang/IllegalArgumentException" ∈ UW := List.mem_filter.mpr ⟨List.mem_append_right _ (List.mem_of_getElem? (i := 448) (by decide +kernel)), by decide +kernel⟩
theorem unIllegalArgumentException : Cond.initialized "java/lang/IllegalArgumentException" ∈ UW := List.mem_filter.mpr ⟨List.mem_append_right _ (List.mem_of_getElem? (i := 14) (by decide +kernel)), by decide +kernel⟩
theorem umX3_145 : Cond.methodLink RX3 145 yX3_fire ∈ UW := List.mem_filter.mpr ⟨List.mem_append_right _ (List.mem_of_getElem? (i := 464) (by decide +kernel)), by decide +kernel⟩
theorem ui_X3_fire : Cond.instanceMethod yX3_fire ∈ UW := List.mem_filter.mpr ⟨List.mem_append_right _ (List.mem_of_getElem? (i := 466) (by decide +kernel)), by decide +kernel⟩
theorem us_X3_fire : Cond.selects RX3 yX3_fire yX3_fire ∈ UW := List.mem_filter.mpr ⟨List.mem_append_left _ (List.mem_of_getElem? (i := 18) (by decide +kernel)), by decide +kernel⟩
theorem uc_X3_run : Cond.code yX3_run cX3_run 4 (some .int) ∈ UW := List.mem_filter.mpr ⟨List.mem_append_right _ (List.mem_of_getElem? (i := 446) (by decide +kernel)), by decide +kernel⟩
theorem uc_X3_tokens : Cond.code yX3_tokens cX3_tokens 2 (some .int) ∈ UW := List.mem_filter.mpr ⟨List.mem_append_right _ (List.mem_of_getElem? (i := 222) (by decide +kernel)), by decide +kernel⟩
theorem ufX3_149 : Cond.fieldLink RX3 149 "TokenFlow$Edge" "count" "I" ∈ UW := List.mem_filter.mpr ⟨List.mem_append_right _ (List.mem_of_getElem? (i := 77) (by decide +kernel)), by decide +kernel⟩
theorem uc_X3_token : Cond.code yX3_token cX3_token 3 (some .int) ∈ UW := List.mem_filter.mpr ⟨List.mem_append_right _ (List.mem_of_getElem? (i := 226) (by decide +kernel)), by decide +kernel⟩
theorem umX3_152 : Cond.methodLink RX3 152 yX1_look ∈ UW := List.mem_filter.mpr ⟨List.mem_append_right _ (List.mem_of_getElem? (i := 227) (by decide +kernel)), by decide +kernel⟩
theorem uc_X3_value : Cond.code yX3_value cX3_value 2 (some .int) ∈ UW := List.mem_filter.mpr ⟨List.mem_append_right _ (List.mem_of_getElem? (i := 238) (by decide +kernel)), by decide +kernel⟩
theorem uc_X3_state : Cond.code yX3_state cX3_state 2 (some .int) ∈ UW := List.mem_filter.mpr ⟨List.mem_append_right _ (List.mem_of_getElem? (i := 242) (by decide +kernel)), by decide +kernel⟩
theorem ufX3_159 : Cond.fieldLink RX3 159 "TokenFlow$Actor" "state" "I" ∈ UW := List.mem_filter.mpr ⟨List.mem_append_right _ (List.mem_of_getElem? (i := 35) (by decide +kernel)), by decide +kernel⟩
theorem umX4_1 : Cond.methodLink RX4 1 objectInit ∈ UW := List.mem_filter.mpr ⟨List.mem_append_right _ (List.mem_of_getElem? (i := 495) (by decide +kernel)), by decide +kernel⟩
theorem ufX4_7 : Cond.fieldLink RX4 7 "TokenFlowModel" "kind" "[I" ∈ UW := List.mem_filter.mpr ⟨List.mem_append_right _ (List.mem_of_getElem? (i := 499) (by decide +kernel)), by decide +kernel⟩
theorem ufX4_13 : Cond.fieldLink RX4 13 "TokenFlowModel" "number" "[I" ∈ UW := List.mem_filter.mpr ⟨List.mem_append_right _ (List.mem_of_getElem? (i := 500) (by decide +kernel)), by decide +kernel⟩
theorem ufX4_16 : Cond.fieldLink RX4 16 "TokenFlowModel" "state" "[I" ∈ UW := List.mem_filter.mpr ⟨List.mem_append_right _ (List.mem_of_getElem? (i := 501) (by decide +kernel)), by decide +kernel⟩
theorem ufX4_19 : Cond.fieldLink RX4 19 "TokenFlowModel" "latest" "[I" ∈ UW := List.mem_filter.mpr ⟨List.mem_append_right _ (List.mem_of_getElem? (i := 502) (by decide +kernel)), by decide +kernel⟩
theorem ufX4_22 : Cond.fieldLink RX4 22 "TokenFlowModel" "from" "[I" ∈ UW := List.mem_filter.mpr ⟨List.mem_append_right _ (List.mem_of_getElem? (i := 503) (by decide +kernel)), by decide +kernel⟩
theorem ufX4_25 : Cond.fieldLink RX4 25 "TokenFlowModel" "to" "[I" ∈ UW := List.mem_filter.mpr ⟨List.mem_append_right _ (List.mem_of_getElem? (i := 504) (by decide +kernel)), by decide +kernel⟩
theorem ufX4_28 : Cond.fieldLink RX4 28 "TokenFlowModel" "gives" "[I" ∈ UW := List.mem_filter.mpr ⟨List.mem_append_right _ (List.mem_of_getElem? (i := 505) (by decide +kernel)), by decide +kernel⟩
theorem ufX4_31 : Cond.fieldLink RX4 31 "TokenFlowModel" "takes" "[I" ∈ UW := List.mem_filter.mpr ⟨List.mem_append_right _ (List.mem_of_getElem? (i := 506) (by decide +kernel)), by decide +kernel⟩
theorem ufX4_34 : Cond.fieldLink RX4 34 "TokenFlowModel" "waiting" "[I" ∈ UW := List.mem_filter.mpr ⟨List.mem_append_right _ (List.mem_of_getElem? (i := 507) (by decide +kernel)), by decide +kernel⟩
theorem ufX4_37 : Cond.fieldLink RX4 37 "TokenFlowModel" "row" "[I" ∈ UW := List.mem_filter.mpr ⟨List.mem_append_right _ (List.mem_of_getElem? (i := 508) (by decide +kernel)), by decide +kernel⟩
theorem ufX4_40 : Cond.fieldLink RX4 40 "TokenFlowModel" "first" "[I" ∈ UW := List.mem_filter.mpr ⟨List.mem_append_right _ (List.mem_of_getElem? (i := 509) (by decide +kernel)), by decide +kernel⟩
theorem ufX4_43 : Cond.fieldLink RX4 43 "TokenFlowModel" "count" "[I" ∈ UW := List.mem_filter.mpr ⟨List.mem_append_right _ (List.mem_of_getElem? (i := 510) (by decide +kernel)), by decide +kernel⟩
theorem ufX4_46 : Cond.fieldLink RX4 46 "TokenFlowModel" "plan" "[I" ∈ UW := List.mem_filter.mpr ⟨List.mem_append_right _ (List.mem_of_getElem? (i := 512) (by decide +kernel)), by decide +kernel⟩
theorem ufX4_49 : Cond.fieldLink RX4 49 "TokenFlowModel" "repetition" "[I" ∈ UW := List.mem_filter.mpr ⟨List.mem_append_right _ (List.mem_of_getElem? (i := 513) (by decide +kernel)), by decide +kernel⟩
theorem ufX4_52 : Cond.fieldLink RX4 52 "TokenFlowModel" "bound" "[I" ∈ UW := List.mem_filter.mpr ⟨List.mem_append_right _ (List.mem_of_getElem? (i := 514) (by decide +kernel)), by decide +kernel⟩
theorem ua_long : Cond.arrayClass .long ∈ UW := List.mem_filter.mpr ⟨List.mem_append_right _ (List.mem_of_getElem? (i := 572) (by decide +kernel)), by decide +kernel⟩
theorem ufX4_55 : Cond.fieldLink RX4 55 "TokenFlowModel" "rate" "[J" ∈ UW := List.mem_filter.mpr ⟨List.mem_append_right _ (List.mem_of_getElem? (i := 515) (by decide +kernel)), by decide +kernel⟩
theorem ufX4_59 : Cond.fieldLink RX4 59 "TokenFlowModel" "fired" "[I" ∈ UW := List.mem_filter.mpr ⟨List.mem_append_right _ (List.mem_of_getElem? (i := 516) (by decide +kernel)), by decide +kernel⟩
theorem ufX4_62 : Cond.fieldLink RX4 62 "TokenFlowModel" "lying" "[I" ∈ UW := List.mem_filter.mpr ⟨List.mem_append_right _ (List.mem_of_getElem? (i := 517) (by decide +kernel)), by decide +kernel⟩
theorem ufX4_65 : Cond.fieldLink RX4 65 "TokenFlowModel" "most" "[I" ∈ UW := List.mem_filter.mpr ⟨List.mem_append_right _ (List.mem_of_getElem? (i := 518) (by decide +kernel)), by decide +kernel⟩
theorem ufX4_68 : Cond.fieldLink RX4 68 "TokenFlowModel" "trial" "[I" ∈ UW := List.mem_filter.mpr ⟨List.mem_append_right _ (List.mem_of_getElem? (i := 519) (by decide +kernel)), by decide +kernel⟩
theorem uc_X4_init : Cond.code yX4_init cX4_init 1 none ∈ UW := List.mem_filter.mpr ⟨List.mem_append_right _ (List.mem_of_getElem? (i := 494) (by decide +kernel)), by decide +kernel⟩
theorem uc_X4_thrown : Cond.code yX4_thrown cX4_thrown 1 (some .int) ∈ UW := List.mem_filter.mpr ⟨List.mem_append_right _ (List.mem_of_getElem? (i := 576) (by decide +kernel)), by decide +kernel⟩
theorem ufX4_71 : Cond.fieldLink RX4 71 "TokenFlowModel" "thrown" "I" ∈ UW := List.mem_filter.mpr ⟨List.mem_append_right _ (List.mem_of_getElem? (i := 498) (by decide +kernel)), by decide +kernel⟩
theorem uc_X4_within : Cond.code yX4_within cX4_within 3 (some .boolean) ∈ UW := List.mem_filter.mpr ⟨List.mem_append_right _ (List.mem_of_getElem? (i := 583) (by decide +kernel)), by decide +kernel⟩
theorem uc_X4_start : Cond.code yX4_start cX4_start 3 none ∈ UW := List.mem_filter.mpr ⟨List.mem_append_right _ (List.mem_of_getElem? (i := 591) (by decide +kernel)), by decide +kernel⟩
theorem ufX4_75 : Cond.fieldLink RX4 75 "TokenFlowModel" "actors" "I" ∈ UW := List.mem_filter.mpr ⟨List.mem_append_right _ (List.mem_of_getElem? (i := 496) (by decide +kernel)), by decide +kernel⟩
theorem ufX4_78 : Cond.fieldLink RX4 78 "TokenFlowModel" "edges" "I" ∈ UW := List.mem_filter.mpr ⟨List.mem_append_right _ (List.mem_of_getElem? (i := 497) (by decide +kernel)), by decide +kernel⟩
theorem uc_X4_changed : Cond.code yX4_changed cX4_changed 1 none ∈ UW := List.mem_filter.mpr ⟨List.mem_append_right _ (List.mem_of_getElem? (i := 587) (by decide +kernel)), by decide +kernel⟩
theorem ufX4_81 : Cond.fieldLink RX4 81 "TokenFlowModel" "planned" "I" ∈ UW := List.mem_filter.mpr ⟨List.mem_append_right _ (List.mem_of_getElem? (i := 511) (by decide +kernel)), by decide +kernel⟩
theorem umX4_84 : Cond.methodLink RX4 84 yX4_start ∈ UW := List.mem_filter.mpr ⟨List.mem_append_right _ (List.mem_of_getElem? (i := 588) (by decide +kernel)), by decide +kernel⟩
theorem ui_X4_start : Cond.instanceMethod yX4_start ∈ UW := List.mem_filter.mpr ⟨List.mem_append_right _ (List.mem_of_getElem? (i := 590) (by decide +kernel)), by decide +kernel⟩
theorem us_X4_start : Cond.selects RX4 yX4_start yX4_start ∈ UW := List.mem_filter.mpr ⟨List.mem_append_left _ (List.mem_of_getElem? (i := 20) (by decide +kernel)), by decide +kernel⟩
theorem unX4 : Cond.initialized RX4 ∈ UW := List.mem_filter.mpr ⟨List.mem_append_right _ (List.mem_of_getElem? (i := 5) (by decide +kernel)), by decide +kernel⟩
theorem uc_X4_actor : Cond.code yX4_actor cX4_actor 3 (some .int) ∈ UW := List.mem_filter.mpr ⟨List.mem_append_right _ (List.mem_of_getElem? (i := 580) (by decide +kernel)), by decide +kernel⟩
theorem umX4_87 : Cond.methodLink RX4 87 yX4_within ∈ UW := List.mem_filter.mpr ⟨List.mem_append_right _ (List.mem_of_getElem? (i := 581) (by decide +kernel)), by decide +kernel⟩
theorem uz_X4_within : Cond.static yX4_within ∈ UW := List.mem_filter.mpr ⟨List.mem_append_right _ (List.mem_of_getElem? (i := 582) (by decide +kernel)), by decide +kernel⟩
theorem umX4_91 : Cond.methodLink RX4 91 yX4_changed ∈ UW := List.mem_filter.mpr ⟨List.mem_append_right _ (List.mem_of_getElem? (i := 584) (by decide +kernel)), by decide +kernel⟩
theorem ui_X4_changed : Cond.instanceMethod yX4_changed ∈ UW := List.mem_filter.mpr ⟨List.mem_append_right _ (List.mem_of_getElem? (i := 586) (by decide +kernel)), by decide +kernel⟩
theorem us_X4_changed : Cond.selects RX4 yX4_changed yX4_changed ∈ UW := List.mem_filter.mpr ⟨List.mem_append_left _ (List.mem_of_getElem? (i := 19) (by decide +kernel)), by decide +kernel⟩
theorem uc_X4_isActor : Cond.code yX4_isActor cX4_isActor 2 (some .boolean) ∈ UW := List.mem_filter.mpr ⟨List.mem_append_right _ (List.mem_of_getElem? (i := 599) (by decide +kernel)), by decide +kernel⟩
theorem uc_X4_isEdge : Cond.code yX4_isEdge cX4_isEdge 2 (some .boolean) ∈ UW := List.mem_filter.mpr ⟨List.mem_append_right _ (List.mem_of_getElem? (i := 607) (by decide +kernel)), by decide +kernel⟩
theorem umX4_94 : Cond.methodLink RX4 94 yX4_isActor ∈ UW := List.mem_filter.mpr ⟨List.mem_append_right _ (List.mem_of_getElem? (i := 596) (by decide +kernel)), by decide +kernel⟩
theorem ui_X4_isActor : Cond.instanceMethod yX4_isActor ∈ UW := List.mem_filter.mpr ⟨List.mem_append_right _ (List.mem_of_getElem? (i := 598) (by decide +kernel)), by decide +kernel⟩
theorem us_X4_isActor : Cond.selects RX4 yX4_isActor yX4_isActor ∈ UW := List.mem_filter.mpr ⟨List.mem_append_left _ (List.mem_of_getElem? (i := 21) (by decide +kernel)), by decide +kernel⟩
theorem uc_X4_edge : Cond.code yX4_edge cX4_edge 6 (some .int) ∈ UW := List.mem_filter.mpr ⟨List.mem_append_right _ (List.mem_of_getElem? (i := 595) (by decide +kernel)), by decide +kernel⟩
theorem umX4_98 : Cond.methodLink RX4 98 yX4_isEdge ∈ UW := List.mem_filter.mpr ⟨List.mem_append_right _ (List.mem_of_getElem? (i := 604) (by decide +kernel)), by decide +kernel⟩
theorem ui_X4_isEdge : Cond.instanceMethod yX4_isEdge ∈ UW := List.mem_filter.mpr ⟨List.mem_append_right _ (List.mem_of_getElem? (i := 606) (by decide +kernel)), by decide +kernel⟩
theorem us_X4_isEdge : Cond.selects RX4 yX4_isEdge yX4_isEdge ∈ UW := List.mem_filter.mpr ⟨List.mem_append_left _ (List.mem_of_getElem? (i := 22) (by decide +kernel)), by decide +kernel⟩
theorem uc_X4_delay : Cond.code yX4_delay cX4_delay 3 (some .boolean) ∈ UW := List.mem_filter.mpr ⟨List.mem_append_right _ (List.mem_of_getElem? (i := 603) (by decide +kernel)), by decide +kernel⟩
theorem uc_X4_reset : Cond.code yX4_reset cX4_reset 1 none ∈ UW := List.mem_filter.mpr ⟨List.mem_append_right _ (List.mem_of_getElem? (i := 611) (by decide +kernel)), by decide +kernel⟩
theorem uc_X4_clear : Cond.code yX4_clear cX4_clear 1 none ∈ UW := List.mem_filter.mpr ⟨List.mem_append_right _ (List.mem_of_getElem? (i := 615) (by decide +kernel)), by decide +kernel⟩
theorem uc_X4_actors : Cond.code yX4_actors cX4_actors 1 (some .int) ∈ UW := List.mem_filter.mpr ⟨List.mem_append_right _ (List.mem_of_getElem? (i := 619) (by decide +kernel)), by decide +kernel⟩
theorem uc_X4_edges : Cond.code yX4_edges cX4_edges 1 (some .int) ∈ UW := List.mem_filter.mpr ⟨List.mem_append_right _ (List.mem_of_getElem? (i := 623) (by decide +kernel)), by decide +kernel⟩
theorem uc_X4_spread : Cond.code yX4_spread cX4_spread 8 (some .boolean) ∈ UW := List.mem_filter.mpr ⟨List.mem_append_right _ (List.mem_of_getElem? (i := 636) (by decide +kernel)), by decide +kernel⟩
theorem ufX4_101 : Cond.fieldLink RX4 101 "TokenFlowModel" "divisors" "J" ∈ UW := List.mem_filter.mpr ⟨List.mem_append_right _ (List.mem_of_getElem? (i := 520) (by decide +kernel)), by decide +kernel⟩
theorem uc_X4_divisor : Cond.code yX4_divisor cX4_divisor 11 (some .long) ∈ UW := List.mem_filter.mpr ⟨List.mem_append_right _ (List.mem_of_getElem? (i := 639) (by decide +kernel)), by decide +kernel⟩
theorem uc_X4_repeat : Cond.code yX4_repeat cX4_repeat 7 (some .int) ∈ UW := List.mem_filter.mpr ⟨List.mem_append_right _ (List.mem_of_getElem? (i := 631) (by decide +kernel)), by decide +kernel⟩
theorem ukX4_105 : Cond.constantLong RX4 105 (4782969) ∈ UW := List.mem_filter.mpr ⟨List.mem_append_right _ (List.mem_of_getElem? (i := 632) (by decide +kernel)), by decide +kernel⟩
theorem ukX4_115 : Cond.constantLong RX4 115 (200) ∈ UW := List.mem_filter.mpr ⟨List.mem_append_right _ (List.mem_of_getElem? (i := 640) (by decide +kernel)), by decide +kernel⟩
theorem umX4_107 : Cond.methodLink RX4 107 yX4_spread ∈ UW := List.mem_filter.mpr ⟨List.mem_append_right _ (List.mem_of_getElem? (i := 633) (by decide +kernel)), by decide +kernel⟩
theorem ui_X4_spread : Cond.instanceMethod yX4_spread ∈ UW := List.mem_filter.mpr ⟨List.mem_append_right _ (List.mem_of_getElem? (i := 635) (by decide +kernel)), by decide +kernel⟩
theorem us_X4_spread : Cond.selects RX4 yX4_spread yX4_spread ∈ UW := List.mem_filter.mpr ⟨List.mem_append_left _ (List.mem_of_getElem? (i := 24) (by decide +kernel)), by decide +kernel⟩
theorem umX4_111 : Cond.methodLink RX4 111 yX4_divisor ∈ UW := List.mem_filter.mpr ⟨List.mem_append_right _ (List.mem_of_getElem? (i := 637) (by decide +kernel)), by decide +kernel⟩
theorem uz_X4_divisor : Cond.static yX4_divisor ∈ UW := List.mem_filter.mpr ⟨List.mem_append_right _ (List.mem_of_getElem? (i := 638) (by decide +kernel)), by decide +kernel⟩
theorem uc_X4_mayFire : Cond.code yX4_mayFire cX4_mayFire 3 (some .boolean) ∈ UW := List.mem_filter.mpr ⟨List.mem_append_right _ (List.mem_of_getElem? (i := 648) (by decide +kernel)), by decide +kernel⟩
theorem uc_X4_attempt : Cond.code yX4_attempt cX4_attempt 6 (some .int) ∈ UW := List.mem_filter.mpr ⟨List.mem_append_right _ (List.mem_of_getElem? (i := 644) (by decide +kernel)), by decide +kernel⟩
theorem umX4_117 : Cond.methodLink RX4 117 yX4_mayFire ∈ UW := List.mem_filter.mpr ⟨List.mem_append_right _ (List.mem_of_getElem? (i := 645) (by decide +kernel)), by decide +kernel⟩
theorem ui_X4_mayFire : Cond.instanceMethod yX4_mayFire ∈ UW := List.mem_filter.mpr ⟨List.mem_append_right _ (List.mem_of_getElem? (i := 647) (by decide +kernel)), by decide +kernel⟩
theorem us_X4_mayFire : Cond.selects RX4 yX4_mayFire yX4_mayFire ∈ UW := List.mem_filter.mpr ⟨List.mem_append_left _ (List.mem_of_getElem? (i := 26) (by decide +kernel)), by decide +kernel⟩
theorem umX4_120 : Cond.methodLink RX4 120 yX4_repeat ∈ UW := List.mem_filter.mpr ⟨List.mem_append_right _ (List.mem_of_getElem? (i := 628) (by decide +kernel)), by decide +kernel⟩
theorem ui_X4_repeat : Cond.instanceMethod yX4_repeat ∈ UW := List.mem_filter.mpr ⟨List.mem_append_right _ (List.mem_of_getElem? (i := 630) (by decide +kernel)), by decide +kernel⟩
theorem us_X4_repeat : Cond.selects RX4 yX4_repeat yX4_repeat ∈ UW := List.mem_filter.mpr ⟨List.mem_append_left _ (List.mem_of_getElem? (i := 23) (by decide +kernel)), by decide +kernel⟩
theorem umX4_124 : Cond.methodLink RX4 124 yX4_attempt ∈ UW := List.mem_filter.mpr ⟨List.mem_append_right _ (List.mem_of_getElem? (i := 641) (by decide +kernel)), by decide +kernel⟩
theorem ui_X4_attempt : Cond.instanceMethod yX4_attempt ∈ UW := List.mem_filter.mpr ⟨List.mem_append_right _ (List.mem_of_getElem? (i := 643) (by decide +kernel)), by decide +kernel⟩
theorem us_X4_attempt : Cond.selects RX4 yX4_attempt yX4_attempt ∈ UW := List.mem_filter.mpr ⟨List.mem_append_left _ (List.mem_of_getElem? (i := 25) (by decide +kernel)), by decide +kernel⟩
theorem uc_X4_plan : Cond.code yX4_plan cX4_plan 3 (some .int) ∈ UW := List.mem_filter.mpr ⟨List.mem_append_right _ (List.mem_of_getElem? (i := 627) (by decide +kernel)), by decide +kernel⟩
theorem uc_X4_planned : Cond.code yX4_planned cX4_planned 1 (some .int) ∈ UW := List.mem_filter.mpr ⟨List.mem_append_right _ (List.mem_of_getElem? (i := 652) (by decide +kernel)), by decide +kernel⟩
theorem uc_X4_firing : Cond.code yX4_firing cX4_firing 2 (some .int) ∈ UW := List.mem_filter.mpr ⟨List.mem_append_right _ (List.mem_of_getElem? (i := 656) (by decide +kernel)), by decide +kernel⟩
theorem uc_X4_repetitions : Cond.code yX4_repetitions cX4_repetitions 2 (some .int) ∈ UW := List.mem_filter.mpr ⟨List.mem_append_right _ (List.mem_of_getElem? (i := 660) (by decide +kernel)), by decide +kernel⟩
theorem uc_X4_bound : Cond.code yX4_bound cX4_bound 2 (some .int) ∈ UW := List.mem_filter.mpr ⟨List.mem_append_right _ (List.mem_of_getElem? (i := 664) (by decide +kernel)), by decide +kernel⟩
theorem uc_X4_at : Cond.code yX4_at cX4_at 3 (some .int) ∈ UW := List.mem_filter.mpr ⟨List.mem_append_right _ (List.mem_of_getElem? (i := 676) (by decide +kernel)), by decide +kernel⟩
theorem uc_X4_fire : Cond.code yX4_fire cX4_fire 9 none ∈ UW := List.mem_filter.mpr ⟨List.mem_append_right _ (List.mem_of_getElem? (i := 672) (by decide +kernel)), by decide +kernel⟩
theorem umX4_127 : Cond.methodLink RX4 127 yX4_at ∈ UW := List.mem_filter.mpr ⟨List.mem_append_right _ (List.mem_of_getElem? (i := 673) (by decide +kernel)), by decide +kernel⟩
theorem ui_X4_at : Cond.instanceMethod yX4_at ∈ UW := List.mem_filter.mpr ⟨List.mem_append_right _ (List.mem_of_getElem? (i := 675) (by decide +kernel)), by decide +kernel⟩
theorem us_X4_at : Cond.selects RX4 yX4_at yX4_at ∈ UW := List.mem_filter.mpr ⟨List.mem_append_left _ (List.mem_of_getElem? (i := 28) (by decide +kernel)), by decide +kernel⟩
theorem umX4_131 : Cond.methodLink RX4 131 yX4_fire ∈ UW := List.mem_filter.mpr ⟨List.mem_append_right _ (List.mem_of_getElem? (i := 669) (by decide +kernel)), by decide +kernel⟩
theorem ui_X4_fire : Cond.instanceMethod yX4_fire ∈ UW := List.mem_filter.mpr ⟨List.mem_append_right _ (List.mem_of_getElem? (i := 671) (by decide +kernel)), by decide +kernel⟩
theorem us_X4_fire : Cond.selects RX4 yX4_fire yX4_fire ∈ UW := List.mem_filter.mpr ⟨List.mem_append_left _ (List.mem_of_getElem? (i := 27) (by decide +kernel)), by decide +kernel⟩
theorem uc_X4_run : Cond.code yX4_run cX4_run 3 (some .int) ∈ UW := List.mem_filter.mpr ⟨List.mem_append_right _ (List.mem_of_getElem? (i := 668) (by decide +kernel)), by decide +kernel⟩
theorem uc_X4_tokens : Cond.code yX4_tokens cX4_tokens 2 (some .int) ∈ UW := List.mem_filter.mpr ⟨List.mem_append_right _ (List.mem_of_getElem? (i := 680) (by decide +kernel)), by decide +kernel⟩
theorem uc_X4_token : Cond.code yX4_token cX4_token 3 (some .int) ∈ UW := List.mem_filter.mpr ⟨List.mem_append_right _ (List.mem_of_getElem? (i := 684) (by decide +kernel)), by decide +kernel⟩
theorem uc_X4_value : Cond.code yX4_value cX4_value 2 (some .int) ∈ UW := List.mem_filter.mpr ⟨List.mem_append_right _ (List.mem_of_getElem? (i := 688) (by decide +kernel)), by decide +kernel⟩
theorem uc_X4_state : Cond.code yX4_state cX4_state 2 (some .int) ∈ UW := List.mem_filter.mpr ⟨List.mem_append_right _ (List.mem_of_getElem? (i := 692) (by decide +kernel)), by decide +kernel⟩
theorem uc_J9_max_7cf53 : Cond.code yJ9_max_7cf53 cJ9_max_7cf53 2 (some .int) ∈ UW := List.mem_filter.mpr ⟨List.mem_append_right _ (List.mem_of_getElem? (i := 414) (by decide +kernel)), by decide +kernel⟩
theorem ulL_13 : Cond.classLink RL 13 "java/lang/IllegalStateException" ∈ UW := List.mem_filter.mpr ⟨List.mem_append_right _ (List.mem_of_getElem? (i := 246) (by decide +kernel)), by decide +kernel⟩
theorem ulL_15 : Cond.classLink RL 15 "java/lang/ArithmeticException" ∈ UW := List.mem_filter.mpr ⟨List.mem_append_right _ (List.mem_of_getElem? (i := 247) (by decide +kernel)), by decide +kernel⟩
theorem ulL_17 : Cond.classLink RL 17 "java/lang/UnsupportedOperationException" ∈ UW := List.mem_filter.mpr ⟨List.mem_append_right _ (List.mem_of_getElem? (i := 248) (by decide +kernel)), by decide +kernel⟩
theorem ulL_19 : Cond.classLink RL 19 "java/util/NoSuchElementException" ∈ UW := List.mem_filter.mpr ⟨List.mem_append_right _ (List.mem_of_getElem? (i := 249) (by decide +kernel)), by decide +kernel⟩
theorem umL_7 : Cond.methodLink RL 7 yX3_plan ∈ UW := List.mem_filter.mpr ⟨List.mem_append_right _ (List.mem_of_getElem? (i := 250) (by decide +kernel)), by decide +kernel⟩
theorem ui_X3_plan : Cond.instanceMethod yX3_plan ∈ UW := List.mem_filter.mpr ⟨List.mem_append_right _ (List.mem_of_getElem? (i := 251) (by decide +kernel)), by decide +kernel⟩
theorem us_X3_plan : Cond.selects RX3 yX3_plan yX3_plan ∈ UW := List.mem_filter.mpr ⟨List.mem_append_right _ (List.mem_of_getElem? (i := 252) (by decide +kernel)), by decide +kernel⟩
theorem uc_L_plan : Cond.codeWith yL_plan cL_plan 3 (some .int) [(0, 8, 11, 13), (0, 8, 14, 15), (0, 8, 17, 17), (0, 8, 20, 19)] ∈ UW := List.mem_filter.mpr ⟨List.mem_append_right _ (List.mem_of_getElem? (i := 245) (by decide +kernel)), by decide +kernel⟩
theorem ulL_25 : Cond.classLink RL 25 "java/lang/IllegalArgumentException" ∈ UW := List.mem_filter.mpr ⟨List.mem_append_right _ (List.mem_of_getElem? (i := 442) (by decide +kernel)), by decide +kernel⟩
theorem umL_21 : Cond.methodLink RL 21 yX3_run ∈ UW := List.mem_filter.mpr ⟨List.mem_append_right _ (List.mem_of_getElem? (i := 443) (by decide +kernel)), by decide +kernel⟩
theorem ui_X3_run : Cond.instanceMethod yX3_run ∈ UW := List.mem_filter.mpr ⟨List.mem_append_right _ (List.mem_of_getElem? (i := 444) (by decide +kernel)), by decide +kernel⟩
theorem us_X3_run : Cond.selects RX3 yX3_run yX3_run ∈ UW := List.mem_filter.mpr ⟨List.mem_append_right _ (List.mem_of_getElem? (i := 445) (by decide +kernel)), by decide +kernel⟩
theorem uc_L_run : Cond.codeWith yL_run cL_run 4 (some .int) [(0, 9, 12, 13), (0, 9, 15, 25)] ∈ UW := List.mem_filter.mpr ⟨List.mem_append_right _ (List.mem_of_getElem? (i := 441) (by decide +kernel)), by decide +kernel⟩
theorem ulL_8 : Cond.classLink RL 8 RX3 ∈ UW := List.mem_filter.mpr ⟨List.mem_append_right _ (List.mem_of_getElem? (i := 15) (by decide +kernel)), by decide +kernel⟩
theorem utX3 : Cond.instantiable RX3 7 ∈ UW := List.mem_filter.mpr ⟨List.mem_append_right _ (List.mem_of_getElem? (i := 16) (by decide +kernel)), by decide +kernel⟩
theorem ulL_28 : Cond.classLink RL 28 RX4 ∈ UW := List.mem_filter.mpr ⟨List.mem_append_right _ (List.mem_of_getElem? (i := 490) (by decide +kernel)), by decide +kernel⟩
theorem utX4 : Cond.instantiable RX4 25 ∈ UW := List.mem_filter.mpr ⟨List.mem_append_right _ (List.mem_of_getElem? (i := 491) (by decide +kernel)), by decide +kernel⟩
theorem umL_27 : Cond.methodLink RL 27 yX3_init ∈ UW := List.mem_filter.mpr ⟨List.mem_append_right _ (List.mem_of_getElem? (i := 17) (by decide +kernel)), by decide +kernel⟩
theorem ui_X3_init : Cond.instanceMethod yX3_init ∈ UW := List.mem_filter.mpr ⟨List.mem_append_right _ (List.mem_of_getElem? (i := 18) (by decide +kernel)), by decide +kernel⟩
theorem umL_30 : Cond.methodLink RL 30 yX4_init ∈ UW := List.mem_filter.mpr ⟨List.mem_append_right _ (List.mem_of_getElem? (i := 492) (by decide +kernel)), by decide +kernel⟩
theorem ui_X4_init : Cond.instanceMethod yX4_init ∈ UW := List.mem_filter.mpr ⟨List.mem_append_right _ (List.mem_of_getElem? (i := 493) (by decide +kernel)), by decide +kernel⟩
theorem umL_31 : Cond.methodLink RL 31 yX3_actor ∈ UW := List.mem_filter.mpr ⟨List.mem_append_right _ (List.mem_of_getElem? (i := 145) (by decide +kernel)), by decide +kernel⟩
theorem ui_X3_actor : Cond.instanceMethod yX3_actor ∈ UW := List.mem_filter.mpr ⟨List.mem_append_right _ (List.mem_of_getElem? (i := 146) (by decide +kernel)), by decide +kernel⟩
theorem us_X3_actor : Cond.selects RX3 yX3_actor yX3_actor ∈ UW := List.mem_filter.mpr ⟨List.mem_append_right _ (List.mem_of_getElem? (i := 147) (by decide +kernel)), by decide +kernel⟩
theorem umL_35 : Cond.methodLink RL 35 yX4_actor ∈ UW := List.mem_filter.mpr ⟨List.mem_append_right _ (List.mem_of_getElem? (i := 577) (by decide +kernel)), by decide +kernel⟩
theorem ui_X4_actor : Cond.instanceMethod yX4_actor ∈ UW := List.mem_filter.mpr ⟨List.mem_append_right _ (List.mem_of_getElem? (i := 578) (by decide +kernel)), by decide +kernel⟩
theorem us_X4_actor : Cond.selects RX4 yX4_actor yX4_actor ∈ UW := List.mem_filter.mpr ⟨List.mem_append_right _ (List.mem_of_getElem? (i := 579) (by decide +kernel)), by decide +kernel⟩
theorem umL_36 : Cond.methodLink RL 36 yX3_edge ∈ UW := List.mem_filter.mpr ⟨List.mem_append_right _ (List.mem_of_getElem? (i := 165) (by decide +kernel)), by decide +kernel⟩
theorem ui_X3_edge : Cond.instanceMethod yX3_edge ∈ UW := List.mem_filter.mpr ⟨List.mem_append_right _ (List.mem_of_getElem? (i := 166) (by decide +kernel)), by decide +kernel⟩
theorem us_X3_edge : Cond.selects RX3 yX3_edge yX3_edge ∈ UW := List.mem_filter.mpr ⟨List.mem_append_right _ (List.mem_of_getElem? (i := 167) (by decide +kernel)), by decide +kernel⟩
theorem umL_40 : Cond.methodLink RL 40 yX4_edge ∈ UW := List.mem_filter.mpr ⟨List.mem_append_right _ (List.mem_of_getElem? (i := 592) (by decide +kernel)), by decide +kernel⟩
theorem ui_X4_edge : Cond.instanceMethod yX4_edge ∈ UW := List.mem_filter.mpr ⟨List.mem_append_right _ (List.mem_of_getElem? (i := 593) (by decide +kernel)), by decide +kernel⟩
theorem us_X4_edge : Cond.selects RX4 yX4_edge yX4_edge ∈ UW := List.mem_filter.mpr ⟨List.mem_append_right _ (List.mem_of_getElem? (i := 594) (by decide +kernel)), by decide +kernel⟩
theorem umL_41 : Cond.methodLink RL 41 yX3_delay ∈ UW := List.mem_filter.mpr ⟨List.mem_append_right _ (List.mem_of_getElem? (i := 179) (by decide +kernel)), by decide +kernel⟩
theorem ui_X3_delay : Cond.instanceMethod yX3_delay ∈ UW := List.mem_filter.mpr ⟨List.mem_append_right _ (List.mem_of_getElem? (i := 180) (by decide +kernel)), by decide +kernel⟩
theorem us_X3_delay : Cond.selects RX3 yX3_delay yX3_delay ∈ UW := List.mem_filter.mpr ⟨List.mem_append_right _ (List.mem_of_getElem? (i := 181) (by decide +kernel)), by decide +kernel⟩
theorem umL_45 : Cond.methodLink RL 45 yX4_delay ∈ UW := List.mem_filter.mpr ⟨List.mem_append_right _ (List.mem_of_getElem? (i := 600) (by decide +kernel)), by decide +kernel⟩
theorem ui_X4_delay : Cond.instanceMethod yX4_delay ∈ UW := List.mem_filter.mpr ⟨List.mem_append_right _ (List.mem_of_getElem? (i := 601) (by decide +kernel)), by decide +kernel⟩
theorem us_X4_delay : Cond.selects RX4 yX4_delay yX4_delay ∈ UW := List.mem_filter.mpr ⟨List.mem_append_right _ (List.mem_of_getElem? (i := 602) (by decide +kernel)), by decide +kernel⟩
theorem umL_46 : Cond.methodLink RL 46 yX3_reset ∈ UW := List.mem_filter.mpr ⟨List.mem_append_right _ (List.mem_of_getElem? (i := 187) (by decide +kernel)), by decide +kernel⟩
theorem ui_X3_reset : Cond.instanceMethod yX3_reset ∈ UW := List.mem_filter.mpr ⟨List.mem_append_right _ (List.mem_of_getElem? (i := 188) (by decide +kernel)), by decide +kernel⟩
theorem us_X3_reset : Cond.selects RX3 yX3_reset yX3_reset ∈ UW := List.mem_filter.mpr ⟨List.mem_append_right _ (List.mem_of_getElem? (i := 189) (by decide +kernel)), by decide +kernel⟩
theorem umL_49 : Cond.methodLink RL 49 yX4_reset ∈ UW := List.mem_filter.mpr ⟨List.mem_append_right _ (List.mem_of_getElem? (i := 608) (by decide +kernel)), by decide +kernel⟩
theorem ui_X4_reset : Cond.instanceMethod yX4_reset ∈ UW := List.mem_filter.mpr ⟨List.mem_append_right _ (List.mem_of_getElem? (i := 609) (by decide +kernel)), by decide +kernel⟩
theorem us_X4_reset : Cond.selects RX4 yX4_reset yX4_reset ∈ UW := List.mem_filter.mpr ⟨List.mem_append_right _ (List.mem_of_getElem? (i := 610) (by decide +kernel)), by decide +kernel⟩
theorem umL_50 : Cond.methodLink RL 50 yX3_clear ∈ UW := List.mem_filter.mpr ⟨List.mem_append_right _ (List.mem_of_getElem? (i := 191) (by decide +kernel)), by decide +kernel⟩
theorem ui_X3_clear : Cond.instanceMethod yX3_clear ∈ UW := List.mem_filter.mpr ⟨List.mem_append_right _ (List.mem_of_getElem? (i := 192) (by decide +kernel)), by decide +kernel⟩
theorem us_X3_clear : Cond.selects RX3 yX3_clear yX3_clear ∈ UW := List.mem_filter.mpr ⟨List.mem_append_right _ (List.mem_of_getElem? (i := 193) (by decide +kernel)), by decide +kernel⟩
theorem umL_53 : Cond.methodLink RL 53 yX4_clear ∈ UW := List.mem_filter.mpr ⟨List.mem_append_right _ (List.mem_of_getElem? (i := 612) (by decide +kernel)), by decide +kernel⟩
theorem ui_X4_clear : Cond.instanceMethod yX4_clear ∈ UW := List.mem_filter.mpr ⟨List.mem_append_right _ (List.mem_of_getElem? (i := 613) (by decide +kernel)), by decide +kernel⟩
theorem us_X4_clear : Cond.selects RX4 yX4_clear yX4_clear ∈ UW := List.mem_filter.mpr ⟨List.mem_append_right _ (List.mem_of_getElem? (i := 614) (by decide +kernel)), by decide +kernel⟩
theorem umL_54 : Cond.methodLink RL 54 yX3_actors ∈ UW := List.mem_filter.mpr ⟨List.mem_append_right _ (List.mem_of_getElem? (i := 195) (by decide +kernel)), by decide +kernel⟩
theorem ui_X3_actors : Cond.instanceMethod yX3_actors ∈ UW := List.mem_filter.mpr ⟨List.mem_append_right _ (List.mem_of_getElem? (i := 196) (by decide +kernel)), by decide +kernel⟩
theorem us_X3_actors : Cond.selects RX3 yX3_actors yX3_actors ∈ UW := List.mem_filter.mpr ⟨List.mem_append_right _ (List.mem_of_getElem? (i := 197) (by decide +kernel)), by decide +kernel⟩
theorem umL_57 : Cond.methodLink RL 57 yX4_actors ∈ UW := List.mem_filter.mpr ⟨List.mem_append_right _ (List.mem_of_getElem? (i := 616) (by decide +kernel)), by decide +kernel⟩
theorem ui_X4_actors : Cond.instanceMethod yX4_actors ∈ UW := List.mem_filter.mpr ⟨List.mem_append_right _ (List.mem_of_getElem? (i := 617) (by decide +kernel)), by decide +kernel⟩
theorem us_X4_actors : Cond.selects RX4 yX4_actors yX4_actors ∈ UW := List.mem_filter.mpr ⟨List.mem_append_right _ (List.mem_of_getElem? (i := 618) (by decide +kernel)), by decide +kernel⟩
theorem umL_58 : Cond.methodLink RL 58 yX3_edges ∈ UW := List.mem_filter.mpr ⟨List.mem_append_right _ (List.mem_of_getElem? (i := 199) (by decide +kernel)), by decide +kernel⟩
theorem ui_X3_edges : Cond.instanceMethod yX3_edges ∈ UW := List.mem_filter.mpr ⟨List.mem_append_right _ (List.mem_of_getElem? (i := 200) (by decide +kernel)), by decide +kernel⟩
theorem us_X3_edges : Cond.selects RX3 yX3_edges yX3_edges ∈ UW := List.mem_filter.mpr ⟨List.mem_append_right _ (List.mem_of_getElem? (i := 201) (by decide +kernel)), by decide +kernel⟩
theorem umL_61 : Cond.methodLink RL 61 yX4_edges ∈ UW := List.mem_filter.mpr ⟨List.mem_append_right _ (List.mem_of_getElem? (i := 620) (by decide +kernel)), by decide +kernel⟩
theorem ui_X4_edges : Cond.instanceMethod yX4_edges ∈ UW := List.mem_filter.mpr ⟨List.mem_append_right _ (List.mem_of_getElem? (i := 621) (by decide +kernel)), by decide +kernel⟩
theorem us_X4_edges : Cond.selects RX4 yX4_edges yX4_edges ∈ UW := List.mem_filter.mpr ⟨List.mem_append_right _ (List.mem_of_getElem? (i := 622) (by decide +kernel)), by decide +kernel⟩
theorem umL_62 : Cond.methodLink RL 62 yL_plan ∈ UW := List.mem_filter.mpr ⟨List.mem_append_right _ (List.mem_of_getElem? (i := 243) (by decide +kernel)), by decide +kernel⟩
theorem uz_L_plan : Cond.static yL_plan ∈ UW := List.mem_filter.mpr ⟨List.mem_append_right _ (List.mem_of_getElem? (i := 244) (by decide +kernel)), by decide +kernel⟩
theorem unL : Cond.initialized RL ∈ UW := List.mem_filter.mpr ⟨List.mem_append_right _ (List.mem_of_getElem? (i := 0) (by decide +kernel)), by decide +kernel⟩
theorem umL_67 : Cond.methodLink RL 67 yX4_plan ∈ UW := List.mem_filter.mpr ⟨List.mem_append_right _ (List.mem_of_getElem? (i := 624) (by decide +kernel)), by decide +kernel⟩
theorem ui_X4_plan : Cond.instanceMethod yX4_plan ∈ UW := List.mem_filter.mpr ⟨List.mem_append_right _ (List.mem_of_getElem? (i := 625) (by decide +kernel)), by decide +kernel⟩
theorem us_X4_plan : Cond.selects RX4 yX4_plan yX4_plan ∈ UW := List.mem_filter.mpr ⟨List.mem_append_right _ (List.mem_of_getElem? (i := 626) (by decide +kernel)), by decide +kernel⟩
theorem umL_68 : Cond.methodLink RL 68 yX4_thrown ∈ UW := List.mem_filter.mpr ⟨List.mem_append_right _ (List.mem_of_getElem? (i := 573) (by decide +kernel)), by decide +kernel⟩
theorem ui_X4_thrown : Cond.instanceMethod yX4_thrown ∈ UW := List.mem_filter.mpr ⟨List.mem_append_right _ (List.mem_of_getElem? (i := 574) (by decide +kernel)), by decide +kernel⟩
theorem us_X4_thrown : Cond.selects RX4 yX4_thrown yX4_thrown ∈ UW := List.mem_filter.mpr ⟨List.mem_append_right _ (List.mem_of_getElem? (i := 575) (by decide +kernel)), by decide +kernel⟩
theorem umL_71 : Cond.methodLink RL 71 yX3_planned ∈ UW := List.mem_filter.mpr ⟨List.mem_append_right _ (List.mem_of_getElem? (i := 203) (by decide +kernel)), by decide +kernel⟩
theorem ui_X3_planned : Cond.instanceMethod yX3_planned ∈ UW := List.mem_filter.mpr ⟨List.mem_append_right _ (List.mem_of_getElem? (i := 204) (by decide +kernel)), by decide +kernel⟩
theorem us_X3_planned : Cond.selects RX3 yX3_planned yX3_planned ∈ UW := List.mem_filter.mpr ⟨List.mem_append_right _ (List.mem_of_getElem? (i := 205) (by decide +kernel)), by decide +kernel⟩
theorem umL_74 : Cond.methodLink RL 74 yX4_planned ∈ UW := List.mem_filter.mpr ⟨List.mem_append_right _ (List.mem_of_getElem? (i := 649) (by decide +kernel)), by decide +kernel⟩
theorem ui_X4_planned : Cond.instanceMethod yX4_planned ∈ UW := List.mem_filter.mpr ⟨List.mem_append_right _ (List.mem_of_getElem? (i := 650) (by decide +kernel)), by decide +kernel⟩
theorem us_X4_planned : Cond.selects RX4 yX4_planned yX4_planned ∈ UW := List.mem_filter.mpr ⟨List.mem_append_right _ (List.mem_of_getElem? (i := 651) (by decide +kernel)), by decide +kernel⟩
theorem umL_75 : Cond.methodLink RL 75 yX3_firing ∈ UW := List.mem_filter.mpr ⟨List.mem_append_right _ (List.mem_of_getElem? (i := 207) (by decide +kernel)), by decide +kernel⟩
theorem ui_X3_firing : Cond.instanceMethod yX3_firing ∈ UW := List.mem_filter.mpr ⟨List.mem_append_right _ (List.mem_of_getElem? (i := 208) (by decide +kernel)), by decide +kernel⟩
theorem us_X3_firing : Cond.selects RX3 yX3_firing yX3_firing ∈ UW := List.mem_filter.mpr ⟨List.mem_append_right _ (List.mem_of_getElem? (i := 209) (by decide +kernel)), by decide +kernel⟩
theorem umL_78 : Cond.methodLink RL 78 yX4_firing ∈ UW := List.mem_filter.mpr ⟨List.mem_append_right _ (List.mem_of_getElem? (i := 653) (by decide +kernel)), by decide +kernel⟩
theorem ui_X4_firing : Cond.instanceMethod yX4_firing ∈ UW := List.mem_filter.mpr ⟨List.mem_append_right _ (List.mem_of_getElem? (i := 654) (by decide +kernel)), by decide +kernel⟩
theorem us_X4_firing : Cond.selects RX4 yX4_firing yX4_firing ∈ UW := List.mem_filter.mpr ⟨List.mem_append_right _ (List.mem_of_getElem? (i := 655) (by decide +kernel)), by decide +kernel⟩
theorem umL_79 : Cond.methodLink RL 79 yX3_repetitions ∈ UW := List.mem_filter.mpr ⟨List.mem_append_right _ (List.mem_of_getElem? (i := 211) (by decide +kernel)), by decide +kernel⟩
theorem ui_X3_repetitions : Cond.instanceMethod yX3_repetitions ∈ UW := List.mem_filter.mpr ⟨List.mem_append_right _ (List.mem_of_getElem? (i := 212) (by decide +kernel)), by decide +kernel⟩
theorem us_X3_repetitions : Cond.selects RX3 yX3_repetitions yX3_repetitions ∈ UW := List.mem_filter.mpr ⟨List.mem_append_right _ (List.mem_of_getElem? (i := 213) (by decide +kernel)), by decide +kernel⟩
theorem umL_82 : Cond.methodLink RL 82 yX4_repetitions ∈ UW := List.mem_filter.mpr ⟨List.mem_append_right _ (List.mem_of_getElem? (i := 657) (by decide +kernel)), by decide +kernel⟩
theorem ui_X4_repetitions : Cond.instanceMethod yX4_repetitions ∈ UW := List.mem_filter.mpr ⟨List.mem_append_right _ (List.mem_of_getElem? (i := 658) (by decide +kernel)), by decide +kernel⟩
theorem us_X4_repetitions : Cond.selects RX4 yX4_repetitions yX4_repetitions ∈ UW := List.mem_filter.mpr ⟨List.mem_append_right _ (List.mem_of_getElem? (i := 659) (by decide +kernel)), by decide +kernel⟩
theorem umL_83 : Cond.methodLink RL 83 yX3_bound ∈ UW := List.mem_filter.mpr ⟨List.mem_append_right _ (List.mem_of_getElem? (i := 215) (by decide +kernel)), by decide +kernel⟩
theorem ui_X3_bound : Cond.instanceMethod yX3_bound ∈ UW := List.mem_filter.mpr ⟨List.mem_append_right _ (List.mem_of_getElem? (i := 216) (by decide +kernel)), by decide +kernel⟩
theorem us_X3_bound : Cond.selects RX3 yX3_bound yX3_bound ∈ UW := List.mem_filter.mpr ⟨List.mem_append_right _ (List.mem_of_getElem? (i := 217) (by decide +kernel)), by decide +kernel⟩
theorem umL_86 : Cond.methodLink RL 86 yX4_bound ∈ UW := List.mem_filter.mpr ⟨List.mem_append_right _ (List.mem_of_getElem? (i := 661) (by decide +kernel)), by decide +kernel⟩
theorem ui_X4_bound : Cond.instanceMethod yX4_bound ∈ UW := List.mem_filter.mpr ⟨List.mem_append_right _ (List.mem_of_getElem? (i := 662) (by decide +kernel)), by decide +kernel⟩
theorem us_X4_bound : Cond.selects RX4 yX4_bound yX4_bound ∈ UW := List.mem_filter.mpr ⟨List.mem_append_right _ (List.mem_of_getElem? (i := 663) (by decide +kernel)), by decide +kernel⟩
theorem umL_87 : Cond.methodLink RL 87 yL_run ∈ UW := List.mem_filter.mpr ⟨List.mem_append_right _ (List.mem_of_getElem? (i := 439) (by decide +kernel)), by decide +kernel⟩
theorem uz_L_run : Cond.static yL_run ∈ UW := List.mem_filter.mpr ⟨List.mem_append_right _ (List.mem_of_getElem? (i := 440) (by decide +kernel)), by decide +kernel⟩
theorem umL_90 : Cond.methodLink RL 90 yX4_run ∈ UW := List.mem_filter.mpr ⟨List.mem_append_right _ (List.mem_of_getElem? (i := 665) (by decide +kernel)), by decide +kernel⟩
theorem ui_X4_run : Cond.instanceMethod yX4_run ∈ UW := List.mem_filter.mpr ⟨List.mem_append_right _ (List.mem_of_getElem? (i := 666) (by decide +kernel)), by decide +kernel⟩
theorem us_X4_run : Cond.selects RX4 yX4_run yX4_run ∈ UW := List.mem_filter.mpr ⟨List.mem_append_right _ (List.mem_of_getElem? (i := 667) (by decide +kernel)), by decide +kernel⟩
theorem umL_91 : Cond.methodLink RL 91 yX3_tokens ∈ UW := List.mem_filter.mpr ⟨List.mem_append_right _ (List.mem_of_getElem? (i := 219) (by decide +kernel)), by decide +kernel⟩
theorem ui_X3_tokens : Cond.instanceMethod yX3_tokens ∈ UW := List.mem_filter.mpr ⟨List.mem_append_right _ (List.mem_of_getElem? (i := 220) (by decide +kernel)), by decide +kernel⟩
theorem us_X3_tokens : Cond.selects RX3 yX3_tokens yX3_tokens ∈ UW := List.mem_filter.mpr ⟨List.mem_append_right _ (List.mem_of_getElem? (i := 221) (by decide +kernel)), by decide +kernel⟩
theorem umL_94 : Cond.methodLink RL 94 yX4_tokens ∈ UW := List.mem_filter.mpr ⟨List.mem_append_right _ (List.mem_of_getElem? (i := 677) (by decide +kernel)), by decide +kernel⟩
theorem ui_X4_tokens : Cond.instanceMethod yX4_tokens ∈ UW := List.mem_filter.mpr ⟨List.mem_append_right _ (List.mem_of_getElem? (i := 678) (by decide +kernel)), by decide +kernel⟩
theorem us_X4_tokens : Cond.selects RX4 yX4_tokens yX4_tokens ∈ UW := List.mem_filter.mpr ⟨List.mem_append_right _ (List.mem_of_getElem? (i := 679) (by decide +kernel)), by decide +kernel⟩
theorem umL_95 : Cond.methodLink RL 95 yX3_token ∈ UW := List.mem_filter.mpr ⟨List.mem_append_right _ (List.mem_of_getElem? (i := 223) (by decide +kernel)), by decide +kernel⟩
theorem ui_X3_token : Cond.instanceMethod yX3_token ∈ UW := List.mem_filter.mpr ⟨List.mem_append_right _ (List.mem_of_getElem? (i := 224) (by decide +kernel)), by decide +kernel⟩
theorem us_X3_token : Cond.selects RX3 yX3_token yX3_token ∈ UW := List.mem_filter.mpr ⟨List.mem_append_right _ (List.mem_of_getElem? (i := 225) (by decide +kernel)), by decide +kernel⟩
theorem umL_98 : Cond.methodLink RL 98 yX4_token ∈ UW := List.mem_filter.mpr ⟨List.mem_append_right _ (List.mem_of_getElem? (i := 681) (by decide +kernel)), by decide +kernel⟩
theorem ui_X4_token : Cond.instanceMethod yX4_token ∈ UW := List.mem_filter.mpr ⟨List.mem_append_right _ (List.mem_of_getElem? (i := 682) (by decide +kernel)), by decide +kernel⟩
theorem us_X4_token : Cond.selects RX4 yX4_token yX4_token ∈ UW := List.mem_filter.mpr ⟨List.mem_append_right _ (List.mem_of_getElem? (i := 683) (by decide +kernel)), by decide +kernel⟩
theorem umL_99 : Cond.methodLink RL 99 yX3_value ∈ UW := List.mem_filter.mpr ⟨List.mem_append_right _ (List.mem_of_getElem? (i := 235) (by decide +kernel)), by decide +kernel⟩
theorem ui_X3_value : Cond.instanceMethod yX3_value ∈ UW := List.mem_filter.mpr ⟨List.mem_append_right _ (List.mem_of_getElem? (i := 236) (by decide +kernel)), by decide +kernel⟩
theorem us_X3_value : Cond.selects RX3 yX3_value yX3_value ∈ UW := List.mem_filter.mpr ⟨List.mem_append_right _ (List.mem_of_getElem? (i := 237) (by decide +kernel)), by decide +kernel⟩
theorem umL_102 : Cond.methodLink RL 102 yX4_value ∈ UW := List.mem_filter.mpr ⟨List.mem_append_right _ (List.mem_of_getElem? (i := 685) (by decide +kernel)), by decide +kernel⟩
theorem ui_X4_value : Cond.instanceMethod yX4_value ∈ UW := List.mem_filter.mpr ⟨List.mem_append_right _ (List.mem_of_getElem? (i := 686) (by decide +kernel)), by decide +kernel⟩
theorem us_X4_value : Cond.selects RX4 yX4_value yX4_value ∈ UW := List.mem_filter.mpr ⟨List.mem_append_right _ (List.mem_of_getElem? (i := 687) (by decide +kernel)), by decide +kernel⟩
theorem umL_103 : Cond.methodLink RL 103 yX3_state ∈ UW := List.mem_filter.mpr ⟨List.mem_append_right _ (List.mem_of_getElem? (i := 239) (by decide +kernel)), by decide +kernel⟩
theorem ui_X3_state : Cond.instanceMethod yX3_state ∈ UW := List.mem_filter.mpr ⟨List.mem_append_right _ (List.mem_of_getElem? (i := 240) (by decide +kernel)), by decide +kernel⟩
theorem us_X3_state : Cond.selects RX3 yX3_state yX3_state ∈ UW := List.mem_filter.mpr ⟨List.mem_append_right _ (List.mem_of_getElem? (i := 241) (by decide +kernel)), by decide +kernel⟩
theorem umL_106 : Cond.methodLink RL 106 yX4_state ∈ UW := List.mem_filter.mpr ⟨List.mem_append_right _ (List.mem_of_getElem? (i := 689) (by decide +kernel)), by decide +kernel⟩
theorem ui_X4_state : Cond.instanceMethod yX4_state ∈ UW := List.mem_filter.mpr ⟨List.mem_append_right _ (List.mem_of_getElem? (i := 690) (by decide +kernel)), by decide +kernel⟩
theorem us_X4_state : Cond.selects RX4 yX4_state yX4_state ∈ UW := List.mem_filter.mpr ⟨List.mem_append_right _ (List.mem_of_getElem? (i := 691) (by decide +kernel)), by decide +kernel⟩
