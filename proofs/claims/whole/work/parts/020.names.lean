theorem goodIn_r {big : List Cond} (ws : List Cond) (ps : List Nat) (hp : ws = ps.filterMap (fun i => big[i]?)) (h : ws.all goodWord = true) : GoodIn big ws := by
  intro w hw
  have h1 := List.all_eq_true.mp h w hw
  rw [hp] at hw
  obtain ⟨i, -, hi⟩ := List.mem_filterMap.mp hw
  have hm : w ∈ big := by first | exact List.mem_of_getElem? hi | exact List.getElem?_mem hi
  exact ⟨hm, good_of_word h1⟩
theorem goodIn_app {big a b : List Cond} (ha : GoodIn big a) (hb : GoodIn big b) : GoodIn big (a ++ b) := fun w h => (List.mem_append.mp h).elim (ha w) (hb w)
theorem goodIn_ca {big a b : List Cond} {c : Cond} (ha : GoodIn big (c :: a)) (hb : GoodIn big b) : GoodIn big (c :: (a ++ b)) := fun w h => (List.mem_cons.mp h).elim (fun e => ha w (List.mem_cons.mpr (Or.inl e))) (fun h => (List.mem_append.mp h).elim (fun h => ha w (List.mem_cons.mpr (Or.inr h))) (hb w))
theorem goodIn_sub {big ws : List Cond} (hm : ∀ w ∈ ws, w ∈ big) (h : ws.all goodWord = true) : GoodIn big ws := fun w hw => ⟨hm w hw, good_of_word (List.all_eq_true.mp h w hw)⟩
def RX0 : String := "SetWorkshop$Amounts"
def TX0 : u_T := fun k => match k with
  | 0 => ("SetWorkshop$Amounts", "stocks", "[I", true)
  | 1 => ("SetWorkshop$Amounts", "amounts", "[I", true)
  | _ => ("SetWorkshop$Amounts", "size", "I", false)
def tyX0 : Nat → FieldType := fun k => match k with
  | 0 => .array .int
  | 1 => .array .int
  | _ => .int
abbrev wsX00 : List Cond := u_ws RX0 TX0 3
theorem nmX0 : ∀ a, a < 3 → ∀ b, b < 3 → a ≠ b → (TX0 a).2.1 ≠ (TX0 b).2.1 := by decide +kernel
theorem tyX0_ok : ∀ k, k < 3 → parseFieldDescriptor (TX0 k).2.2.1 = some (tyX0 k) := by decide +kernel
abbrev cX0_init : ByteArray := prog_2_method_1_code
def yX0_init : MethodName := ⟨RX0, "<init>", "()V"⟩
abbrev cX0_put : ByteArray := prog_2_method_2_code
def yX0_put : MethodName := ⟨RX0, "put", "(II)V"⟩
abbrev cX0_amountOf : ByteArray := prog_2_method_3_code
def yX0_amountOf : MethodName := ⟨RX0, "amountOf", "(I)I"⟩
abbrev cX0_placeOf : ByteArray := prog_2_method_4_code
def yX0_placeOf : MethodName := ⟨RX0, "placeOf", "(I)I"⟩
def RX1 : String := "SetWorkshop$Bench"
def TX1 : u_T := fun k => match k with
  | 0 => ("SetWorkshop$Bench", "parts", "[J", true)
  | 1 => ("SetWorkshop$Bench", "aside", "[J", true)
  | _ => ("SetWorkshop$Bench", "result", "I", false)
def tyX1 : Nat → FieldType := fun k => match k with
  | 0 => .array .long
  | 1 => .array .long
  | _ => .int
abbrev wsX10 : List Cond := u_ws RX1 TX1 3
theorem nmX1 : ∀ a, a < 3 → ∀ b, b < 3 → a ≠ b → (TX1 a).2.1 ≠ (TX1 b).2.1 := by decide +kernel
theorem tyX1_ok : ∀ k, k < 3 → parseFieldDescriptor (TX1 k).2.2.1 = some (tyX1 k) := by decide +kernel
abbrev cX1_init : ByteArray := prog_3_method_1_code
def yX1_init : MethodName := ⟨RX1, "<init>", "()V"⟩
abbrev cX1_compute : ByteArray := prog_3_method_2_code
def yX1_compute : MethodName := ⟨RX1, "compute", "(LSetWorkshop$Recipe;)V"⟩
abbrev cX1_cutBoards : ByteArray := prog_3_method_3_code
def yX1_cutBoards : MethodName := ⟨RX1, "cutBoards", "(LSetWorkshop$Recipe;)V"⟩
abbrev cX1_greatestUncut : ByteArray := prog_3_method_4_code
def yX1_greatestUncut : MethodName := ⟨RX1, "greatestUncut", "(LSetWorkshop$Recipe;)I"⟩
abbrev cX1_boardFor : ByteArray := prog_3_method_5_code
def yX1_boardFor : MethodName := ⟨RX1, "boardFor", "(JLSetWorkshop$Recipe;)I"⟩
abbrev cX1_mixParts : ByteArray := prog_3_method_6_code
def yX1_mixParts : MethodName := ⟨RX1, "mixParts", "(LSetWorkshop$Recipe;)V"⟩
abbrev cX1_greatestRest : ByteArray := prog_3_method_7_code
def yX1_greatestRest : MethodName := ⟨RX1, "greatestRest", "(I)I"⟩
abbrev cX1_loadPoints : ByteArray := prog_3_method_8_code
def yX1_loadPoints : MethodName := ⟨RX1, "loadPoints", "(LSetWorkshop$Recipe;)V"⟩
abbrev cX1_share : ByteArray := prog_3_method_9_code
def yX1_share : MethodName := ⟨RX1, "share", "(LSetWorkshop$Recipe;)J"⟩
abbrev cX1_countUp : ByteArray := prog_3_method_10_code
def yX1_countUp : MethodName := ⟨RX1, "countUp", "(LSetWorkshop$Recipe;)V"⟩
def RX2 : String := "SetWorkshop$Craft"
def TX2 : u_T := fun k => match k with
  | 0 => ("SetWorkshop$Craft", "number", "I", true)
  | 1 => ("SetWorkshop$Craft", "firstWorker", "I", true)
  | 2 => ("SetWorkshop$Craft", "workers", "I", true)
  | _ => ("SetWorkshop$Craft", "free", "I", false)
def tyX2 : Nat → FieldType := fun k => match k with
  | 0 => .int
  | 1 => .int
  | 2 => .int
  | _ => .int
abbrev wsX20 : List Cond := u_ws RX2 TX2 4
theorem nmX2 : ∀ a, a < 4 → ∀ b, b < 4 → a ≠ b → (TX2 a).2.1 ≠ (TX2 b).2.1 := by decide +kernel
theorem tyX2_ok : ∀ k, k < 4 → parseFieldDescriptor (TX2 k).2.2.1 = some (tyX2 k) := by decide +kernel
abbrev cX2_init : ByteArray := prog_4_method_1_code
def yX2_init : MethodName := ⟨RX2, "<init>", "(III)V"⟩
def RX3 : String := "SetWorkshop$Events"
def TX3 : u_T := fun k => match k with
  | 0 => ("SetWorkshop$Events", "keys", "[J", true)
  | _ => ("SetWorkshop$Events", "size", "I", false)
def tyX3 : Nat → FieldType := fun k => match k with
  | 0 => .array .long
  | _ => .int
abbrev wsX30 : List Cond := u_ws RX3 TX3 2
theorem nmX3 : ∀ a, a < 2 → ∀ b, b < 2 → a ≠ b → (TX3 a).2.1 ≠ (TX3 b).2.1 := by decide +kernel
theorem tyX3_ok : ∀ k, k < 2 → parseFieldDescriptor (TX3 k).2.2.1 = some (tyX3 k) := by decide +kernel
abbrev cX3_init : ByteArray := prog_5_method_1_code
def yX3_init : MethodName := ⟨RX3, "<init>", "()V"⟩
abbrev cX3_put : ByteArray := prog_5_method_2_code
def yX3_put : MethodName := ⟨RX3, "put", "(III)V"⟩
abbrev cX3_minuteOf : ByteArray := prog_5_method_3_code
def yX3_minuteOf : MethodName := ⟨RX3, "minuteOf", "(I)I"⟩
abbrev cX3_kindOf : ByteArray := prog_5_method_4_code
def yX3_kindOf : MethodName := ⟨RX3, "kindOf", "(I)I"⟩
abbrev cX3_jobOf : ByteArray := prog_5_method_5_code
def yX3_jobOf : MethodName := ⟨RX3, "jobOf", "(I)I"⟩
def RX4 : String := "SetWorkshop$Job"
def TX4 : u_T := fun k => match k with
  | 0 => ("SetWorkshop$Job", "number", "I", true)
  | 1 => ("SetWorkshop$Job", "craft", "LSetWorkshop$Craft;", true)
  | 2 => ("SetWorkshop$Job", "minutes", "I", true)
  | 3 => ("SetWorkshop$Job", "priority", "I", true)
  | 4 => ("SetWorkshop$Job", "before", "Ljava/util/ArrayList;", true)
  | 5 => ("SetWorkshop$Job", "after", "Ljava/util/ArrayList;", true)
  | 6 => ("SetWorkshop$Job", "leaning", "LSetWorkshop$JobSet;", true)
  | 7 => ("SetWorkshop$Job", "machines", "J", false)
  | 8 => ("SetWorkshop$Job", "used", "LSetWorkshop$Amounts;", true)
  | 9 => ("SetWorkshop$Job", "given", "LSetWorkshop$Amounts;", true)
  | 10 => ("SetWorkshop$Job", "recipe", "LSetWorkshop$Recipe;", true)
  | 11 => ("SetWorkshop$Job", "planMinute", "I", false)
  | 12 => ("SetWorkshop$Job", "planKind", "I", false)
  | 13 => ("SetWorkshop$Job", "head", "I", false)
  | 14 => ("SetWorkshop$Job", "tail", "I", false)
  | _ => ("SetWorkshop$Job", "trace", "LSetWorkshop$Trace;", true)
def tyX4 : Nat → FieldType := fun k => match k with
  | 0 => .int
  | 1 => .object "SetWorkshop$Craft"
  | 2 => .int
  | 3 => .int
  | 4 => .object "java/util/ArrayList"
  | 5 => .object "java/util/ArrayList"
  | 6 => .object "SetWorkshop$JobSet"
  | 7 => .long
  | 8 => .object "SetWorkshop$Amounts"
  | 9 => .object "SetWorkshop$Amounts"
  | 10 => .object "SetWorkshop$Recipe"
  | 11 => .int
  | 12 => .int
  | 13 => .int
  | 14 => .int
  | _ => .object "SetWorkshop$Trace"
abbrev wsX40 : List Cond := u_ws RX4 TX4 16
theorem nmX4 : ∀ a, a < 16 → ∀ b, b < 16 → a ≠ b → (TX4 a).2.1 ≠ (TX4 b).2.1 := by decide +kernel
theorem tyX4_ok : ∀ k, k < 16 → parseFieldDescriptor (TX4 k).2.2.1 = some (tyX4 k) := by decide +kernel
abbrev cX4_init : ByteArray := prog_6_method_1_code
def yX4_init : MethodName := ⟨RX4, "<init>", "(ILSetWorkshop$Craft;II)V"⟩
abbrev cX4_hasPlan : ByteArray := prog_6_method_2_code
def yX4_hasPlan : MethodName := ⟨RX4, "hasPlan", "()Z"⟩
abbrev cX4_endMinute : ByteArray := prog_6_method_3_code
def yX4_endMinute : MethodName := ⟨RX4, "endMinute", "()I"⟩
abbrev cX4_isDirectlyBehind : ByteArray := prog_6_method_4_code
def yX4_isDirectlyBehind : MethodName := ⟨RX4, "isDirectlyBehind", "(LSetWorkshop$Job;)Z"⟩
abbrev cX4_comesAheadOf : ByteArray := prog_6_method_5_code
def yX4_comesAheadOf : MethodName := ⟨RX4, "comesAheadOf", "(LSetWorkshop$Job;)Z"⟩
def RX5 : String := "SetWorkshop$JobSet"
def TX5 : u_T := fun k => match k with
  | _ => ("SetWorkshop$JobSet", "words", "[J", true)
def tyX5 : Nat → FieldType := fun k => match k with
  | _ => .array .long
abbrev wsX50 : List Cond := u_ws RX5 TX5 1
theorem nmX5 : ∀ a, a < 1 → ∀ b, b < 1 → a ≠ b → (TX5 a).2.1 ≠ (TX5 b).2.1 := by decide +kernel
theorem tyX5_ok : ∀ k, k < 1 → parseFieldDescriptor (TX5 k).2.2.1 = some (tyX5 k) := by decide +kernel
abbrev cX5_init : ByteArray := prog_7_method_1_code
def yX5_init : MethodName := ⟨RX5, "<init>", "()V"⟩
abbrev cX5_add : ByteArray := prog_7_method_2_code
def yX5_add : MethodName := ⟨RX5, "add", "(I)V"⟩
abbrev cX5_has : ByteArray := prog_7_method_3_code
def yX5_has : MethodName := ⟨RX5, "has", "(I)Z"⟩
abbrev cX5_addAll : ByteArray := prog_7_method_4_code
def yX5_addAll : MethodName := ⟨RX5, "addAll", "(LSetWorkshop$JobSet;)V"⟩
abbrev cX5_meets : ByteArray := prog_7_method_5_code
def yX5_meets : MethodName := ⟨RX5, "meets", "(LSetWorkshop$JobSet;)Z"⟩
abbrev cX5_clear : ByteArray := prog_7_method_6_code
def yX5_clear : MethodName := ⟨RX5, "clear", "()V"⟩
def RX6 : String := "SetWorkshop$Paths"
def TX6 : u_T := fun k => match k with
  | 0 => ("SetWorkshop$Paths", "shop", "LSetWorkshop$Shop;", true)
  | 1 => ("SetWorkshop$Paths", "sorted", "[LSetWorkshop$Job;", true)
  | 2 => ("SetWorkshop$Paths", "open", "[I", true)
  | 3 => ("SetWorkshop$Paths", "sortedSize", "I", false)
  | 4 => ("SetWorkshop$Paths", "chain", "[LSetWorkshop$Job;", true)
  | 5 => ("SetWorkshop$Paths", "chainSize", "I", false)
  | 6 => ("SetWorkshop$Paths", "longest", "I", false)
  | _ => ("SetWorkshop$Paths", "fresh", "Z", false)
def tyX6 : Nat → FieldType := fun k => match k with
  | 0 => .object "SetWorkshop$Shop"
  | 1 => .array (.object "SetWorkshop$Job")
  | 2 => .array .int
  | 3 => .int
  | 4 => .array (.object "SetWorkshop$Job")
  | 5 => .int
  | 6 => .int
  | _ => .boolean
abbrev wsX60 : List Cond := u_ws RX6 TX6 8
theorem nmX6 : ∀ a, a < 8 → ∀ b, b < 8 → a ≠ b → (TX6 a).2.1 ≠ (TX6 b).2.1 := by decide +kernel
theorem tyX6_ok : ∀ k, k < 8 → parseFieldDescriptor (TX6 k).2.2.1 = some (tyX6 k) := by decide +kernel
abbrev cX6_init : ByteArray := prog_8_method_1_code
def yX6_init : MethodName := ⟨RX6, "<init>", "(LSetWorkshop$Shop;)V"⟩
abbrev cX6_chainLength : ByteArray := prog_8_method_2_code
def yX6_chainLength : MethodName := ⟨RX6, "chainLength", "()I"⟩
abbrev cX6_longestTail : ByteArray := prog_8_method_3_code
def yX6_longestTail : MethodName := ⟨RX6, "longestTail", "()I"⟩
abbrev cX6_reckon : ByteArray := prog_8_method_4_code
def yX6_reckon : MethodName := ⟨RX6, "reckon", "()V"⟩
abbrev cX6_sortJobs : ByteArray := prog_8_method_5_code
def yX6_sortJobs : MethodName := ⟨RX6, "sortJobs", "()V"⟩
abbrev cX6_putSorted : ByteArray := prog_8_method_6_code
def yX6_putSorted : MethodName := ⟨RX6, "putSorted", "(LSetWorkshop$Job;)V"⟩
abbrev cX6_reckonHeads : ByteArray := prog_8_method_7_code
def yX6_reckonHeads : MethodName := ⟨RX6, "reckonHeads", "()V"⟩
abbrev cX6_reckonTails : ByteArray := prog_8_method_8_code
def yX6_reckonTails : MethodName := ⟨RX6, "reckonTails", "()V"⟩
abbrev cX6_followChain : ByteArray := prog_8_method_9_code
def yX6_followChain : MethodName := ⟨RX6, "followChain", "()V"⟩
abbrev cX6_longestBehind : ByteArray := prog_8_method_10_code
def yX6_longestBehind : MethodName := ⟨RX6, "longestBehind", "(LSetWorkshop$Job;)LSetWorkshop$Job;"⟩
abbrev cX6_longerOf : ByteArray := prog_8_method_11_code
def yX6_longerOf : MethodName := ⟨RX6, "longerOf", "(LSetWorkshop$Job;LSetWorkshop$Job;)LSetWorkshop$Job;"⟩
def RX7 : String := "SetWorkshop$Recipe"
def TX7 : u_T := fun k => match k with
  | 0 => ("SetWorkshop$Recipe", "kind", "I", false)
  | 1 => ("SetWorkshop$Recipe", "a", "I", false)
  | 2 => ("SetWorkshop$Recipe", "b", "I", false)
  | 3 => ("SetWorkshop$Recipe", "numbers", "[I", true)
  | _ => ("SetWorkshop$Recipe", "size", "I", false)
def tyX7 : Nat → FieldType := fun k => match k with
  | 0 => .int
  | 1 => .int
  | 2 => .int
  | 3 => .array .int
  | _ => .int
abbrev wsX70 : List Cond := u_ws RX7 TX7 5
theorem nmX7 : ∀ a, a < 5 → ∀ b, b < 5 → a ≠ b → (TX7 a).2.1 ≠ (TX7 b).2.1 := by decide +kernel
theorem tyX7_ok : ∀ k, k < 5 → parseFieldDescriptor (TX7 k).2.2.1 = some (tyX7 k) := by decide +kernel
abbrev cX7_init : ByteArray := prog_9_method_1_code
def yX7_init : MethodName := ⟨RX7, "<init>", "()V"⟩
abbrev cX7_fault : ByteArray := prog_9_method_2_code
def yX7_fault : MethodName := ⟨RX7, "fault", "()I"⟩
abbrev cX7_sum : ByteArray := prog_9_method_3_code
def yX7_sum : MethodName := ⟨RX7, "sum", "()J"⟩
abbrev cX7_faultOfCut : ByteArray := prog_9_method_4_code
def yX7_faultOfCut : MethodName := ⟨RX7, "faultOfCut", "()I"⟩
abbrev cX7_faultOfShares : ByteArray := prog_9_method_5_code
def yX7_faultOfShares : MethodName := ⟨RX7, "faultOfShares", "()I"⟩
abbrev cX7_faultOfPairs : ByteArray := prog_9_method_6_code
def yX7_faultOfPairs : MethodName := ⟨RX7, "faultOfPairs", "()I"⟩
abbrev cX7_isBelowZero : ByteArray := prog_9_method_7_code
def yX7_isBelowZero : MethodName := ⟨RX7, "isBelowZero", "()Z"⟩
def RX8 : String := "SetWorkshop$Shift"
def TX8 : u_T := fun k => match k with
  | 0 => ("SetWorkshop$Shift", "shop", "LSetWorkshop$Shop;", true)
  | 1 => ("SetWorkshop$Shift", "store", "[J", true)
  | 2 => ("SetWorkshop$Shift", "everThere", "[J", true)
  | 3 => ("SetWorkshop$Shift", "latest", "[I", true)
  | 4 => ("SetWorkshop$Shift", "atWork", "[LSetWorkshop$Job;", true)
  | 5 => ("SetWorkshop$Shift", "queue", "[LSetWorkshop$Job;", true)
  | 6 => ("SetWorkshop$Shift", "marked", "LSetWorkshop$JobSet;", true)
  | 7 => ("SetWorkshop$Shift", "events", "LSetWorkshop$Events;", true)
  | 8 => ("SetWorkshop$Shift", "ran", "Z", false)
  | 9 => ("SetWorkshop$Shift", "answer", "I", false)
  | 10 => ("SetWorkshop$Shift", "now", "I", false)
  | 11 => ("SetWorkshop$Shift", "failed", "I", false)
  | 12 => ("SetWorkshop$Shift", "done", "I", false)
  | 13 => ("SetWorkshop$Shift", "lastEnd", "I", false)
  | 14 => ("SetWorkshop$Shift", "queued", "I", false)
  | 15 => ("SetWorkshop$Shift", "working", "I", false)
  | 16 => ("SetWorkshop$Shift", "someFailed", "Z", false)
  | _ => ("SetWorkshop$Shift", "busyMachines", "J", false)
def tyX8 : Nat → FieldType := fun k => match k with
  | 0 => .object "SetWorkshop$Shop"
  | 1 => .array .long
  | 2 => .array .long
  | 3 => .array .int
  | 4 => .array (.object "SetWorkshop$Job")
  | 5 => .array (.object "SetWorkshop$Job")
  | 6 => .object "SetWorkshop$JobSet"
  | 7 => .object "SetWorkshop$Events"
  | 8 => .boolean
  | 9 => .int
  | 10 => .int
  | 11 => .int
  | 12 => .int
  | 13 => .int
  | 14 => .int
  | 15 => .int
  | 16 => .boolean
  | _ => .long
abbrev wsX80 : List Cond := u_ws RX8 TX8 18
theorem nmX8 : ∀ a, a < 18 → ∀ b, b < 18 → a ≠ b → (TX8 a).2.1 ≠ (TX8 b).2.1 := by decide +kernel
theorem tyX8_ok : ∀ k, k < 18 → parseFieldDescriptor (TX8 k).2.2.1 = some (tyX8 k) := by decide +kernel
abbrev cX8_init : ByteArray := prog_10_method_1_code
def yX8_init : MethodName := ⟨RX8, "<init>", "(LSetWorkshop$Shop;)V"⟩
abbrev cX8_empty : ByteArray := prog_10_method_2_code
def yX8_empty : MethodName := ⟨RX8, "empty", "()Z"⟩
abbrev cX8_work : ByteArray := prog_10_method_3_code
def yX8_work : MethodName := ⟨RX8, "work", "(I)I"⟩
abbrev cX8_culpritOf : ByteArray := prog_10_method_4_code
def yX8_culpritOf : MethodName := ⟨RX8, "culpritOf", "(LSetWorkshop$Job;)I"⟩
abbrev cX8_failedJob : ByteArray := prog_10_method_5_code
def yX8_failedJob : MethodName := ⟨RX8, "failedJob", "(I)I"⟩
abbrev cX8_idleMinutes : ByteArray := prog_10_method_6_code
def yX8_idleMinutes : MethodName := ⟨RX8, "idleMinutes", "(LSetWorkshop$Craft;)J"⟩
abbrev cX8_wipe : ByteArray := prog_10_method_7_code
def yX8_wipe : MethodName := ⟨RX8, "wipe", "()V"⟩
abbrev cX8_forgetMarks : ByteArray := prog_10_method_8_code
def yX8_forgetMarks : MethodName := ⟨RX8, "forgetMarks", "()V"⟩
abbrev cX8_layOut : ByteArray := prog_10_method_9_code
def yX8_layOut : MethodName := ⟨RX8, "layOut", "()V"⟩
abbrev cX8_addGiven : ByteArray := prog_10_method_10_code
def yX8_addGiven : MethodName := ⟨RX8, "addGiven", "(LSetWorkshop$Job;[J)V"⟩
abbrev cX8_turnAwayHopeless : ByteArray := prog_10_method_11_code
def yX8_turnAwayHopeless : MethodName := ⟨RX8, "turnAwayHopeless", "()V"⟩
abbrev cX8_isHopeless : ByteArray := prog_10_method_12_code
def yX8_isHopeless : MethodName := ⟨RX8, "isHopeless", "(LSetWorkshop$Job;)Z"⟩
abbrev cX8_turnAway : ByteArray := prog_10_method_13_code
def yX8_turnAway : MethodName := ⟨RX8, "turnAway", "(LSetWorkshop$Job;)V"⟩
abbrev cX8_passMinute : ByteArray := prog_10_method_14_code
def yX8_passMinute : MethodName := ⟨RX8, "passMinute", "(I)Z"⟩
abbrev cX8_endJobs : ByteArray := prog_10_method_15_code
def yX8_endJobs : MethodName := ⟨RX8, "endJobs", "()V"⟩
abbrev cX8_finish : ByteArray := prog_10_method_16_code
def yX8_finish : MethodName := ⟨RX8, "finish", "(LSetWorkshop$Job;)V"⟩
abbrev cX8_fail : ByteArray := prog_10_method_17_code
def yX8_fail : MethodName := ⟨RX8, "fail", "(LSetWorkshop$Job;I)V"⟩
abbrev cX8_leave : ByteArray := prog_10_method_18_code
def yX8_leave : MethodName := ⟨RX8, "leave", "(LSetWorkshop$Job;II)V"⟩
abbrev cX8_bringBackRest : ByteArray := prog_10_method_19_code
def yX8_bringBackRest : MethodName := ⟨RX8, "bringBackRest", "(LSetWorkshop$Job;)V"⟩
abbrev cX8_cancelLeaning : ByteArray := prog_10_method_20_code
def yX8_cancelLeaning : MethodName := ⟨RX8, "cancelLeaning", "()V"⟩
abbrev cX8_stopAtDeadline : ByteArray := prog_10_method_21_code
def yX8_stopAtDeadline : MethodName := ⟨RX8, "stopAtDeadline", "()V"⟩
abbrev cX8_interruptAll : ByteArray := prog_10_method_22_code
def yX8_interruptAll : MethodName := ⟨RX8, "interruptAll", "()V"⟩
abbrev cX8_someoneWouldBegin : ByteArray := prog_10_method_23_code
def yX8_someoneWouldBegin : MethodName := ⟨RX8, "someoneWouldBegin", "()Z"⟩
abbrev cX8_giveUp : ByteArray := prog_10_method_24_code
def yX8_giveUp : MethodName := ⟨RX8, "giveUp", "()V"⟩
abbrev cX8_beginJobs : ByteArray := prog_10_method_25_code
def yX8_beginJobs : MethodName := ⟨RX8, "beginJobs", "()V"⟩
abbrev cX8_canBegin : ByteArray := prog_10_method_26_code
def yX8_canBegin : MethodName := ⟨RX8, "canBegin", "(LSetWorkshop$Job;)Z"⟩
abbrev cX8_isThere : ByteArray := prog_10_method_27_code
def yX8_isThere : MethodName := ⟨RX8, "isThere", "(LSetWorkshop$Amounts;)Z"⟩
abbrev cX8_begin : ByteArray := prog_10_method_28_code
def yX8_begin : MethodName := ⟨RX8, "begin", "(LSetWorkshop$Job;)V"⟩
abbrev cX8_leastFreeWorker : ByteArray := prog_10_method_29_code
def yX8_leastFreeWorker : MethodName := ⟨RX8, "leastFreeWorker", "(LSetWorkshop$Craft;)I"⟩
abbrev cX8_takeMachines : ByteArray := prog_10_method_30_code
def yX8_takeMachines : MethodName := ⟨RX8, "takeMachines", "(LSetWorkshop$Job;)V"⟩
abbrev cX8_nextMinute : ByteArray := prog_10_method_31_code
def yX8_nextMinute : MethodName := ⟨RX8, "nextMinute", "(I)I"⟩
def RX9 : String := "SetWorkshop$Shop"
def TX9 : u_T := fun k => match k with
  | 0 => ("SetWorkshop$Shop", "crafts", "[LSetWorkshop$Craft;", true)
  | 1 => ("SetWorkshop$Shop", "craftCount", "I", false)
  | 2 => ("SetWorkshop$Shop", "workerCount", "I", false)
  | 3 => ("SetWorkshop$Shop", "machineCount", "I", false)
  | 4 => ("SetWorkshop$Shop", "first", "[J", true)
  | 5 => ("SetWorkshop$Shop", "jobs", "[LSetWorkshop$Job;", true)
  | 6 => ("SetWorkshop$Shop", "order", "[LSetWorkshop$Job;", true)
  | _ => ("SetWorkshop$Shop", "jobCount", "I", false)
def tyX9 : Nat → FieldType := fun k => match k with
  | 0 => .array (.object "SetWorkshop$Craft")
  | 1 => .int
  | 2 => .int
  | 3 => .int
  | 4 => .array .long
  | 5 => .array (.object "SetWorkshop$Job")
  | 6 => .array (.object "SetWorkshop$Job")
  | _ => .int
abbrev wsX90 : List Cond := u_ws RX9 TX9 8
theorem nmX9 : ∀ a, a < 8 → ∀ b, b < 8 → a ≠ b → (TX9 a).2.1 ≠ (TX9 b).2.1 := by decide +kernel
theorem tyX9_ok : ∀ k, k < 8 → parseFieldDescriptor (TX9 k).2.2.1 = some (tyX9 k) := by decide +kernel
abbrev cX9_init : ByteArray := prog_11_method_1_code
def yX9_init : MethodName := ⟨RX9, "<init>", "()V"⟩
abbrev cX9_hasCraft : ByteArray := prog_11_method_2_code
def yX9_hasCraft : MethodName := ⟨RX9, "hasCraft", "(I)Z"⟩
abbrev cX9_hasMachine : ByteArray := prog_11_method_3_code
def yX9_hasMachine : MethodName := ⟨RX9, "hasMachine", "(I)Z"⟩
abbrev cX9_hasStock : ByteArray := prog_11_method_4_code
def yX9_hasStock : MethodName := ⟨RX9, "hasStock", "(I)Z"⟩
abbrev cX9_hasJob : ByteArray := prog_11_method_5_code
def yX9_hasJob : MethodName := ⟨RX9, "hasJob", "(I)Z"⟩
abbrev cX9_addCraft : ByteArray := prog_11_method_6_code
def yX9_addCraft : MethodName := ⟨RX9, "addCraft", "(I)I"⟩
abbrev cX9_addMachine : ByteArray := prog_11_method_7_code
def yX9_addMachine : MethodName := ⟨RX9, "addMachine", "()I"⟩
abbrev cX9_addJob : ByteArray := prog_11_method_8_code
def yX9_addJob : MethodName := ⟨RX9, "addJob", "(LSetWorkshop$Craft;II)I"⟩
abbrev cX9_join : ByteArray := prog_11_method_9_code
def yX9_join : MethodName := ⟨RX9, "join", "(LSetWorkshop$Job;LSetWorkshop$Job;)V"⟩
def RX10 : String := "SetWorkshop$Trace"
def TX10 : u_T := fun k => match k with
  | 0 => ("SetWorkshop$Trace", "state", "I", false)
  | 1 => ("SetWorkshop$Trace", "began", "I", false)
  | 2 => ("SetWorkshop$Trace", "ended", "I", false)
  | 3 => ("SetWorkshop$Trace", "worker", "I", false)
  | 4 => ("SetWorkshop$Trace", "far", "I", false)
  | 5 => ("SetWorkshop$Trace", "noticed", "I", false)
  | 6 => ("SetWorkshop$Trace", "kind", "I", false)
  | _ => ("SetWorkshop$Trace", "waitsFor", "I", false)
def tyX10 : Nat → FieldType := fun k => match k with
  | 0 => .int
  | 1 => .int
  | 2 => .int
  | 3 => .int
  | 4 => .int
  | 5 => .int
  | 6 => .int
  | _ => .int
abbrev wsX100 : List Cond := u_ws RX10 TX10 8
theorem nmX10 : ∀ a, a < 8 → ∀ b, b < 8 → a ≠ b → (TX10 a).2.1 ≠ (TX10 b).2.1 := by decide +kernel
theorem tyX10_ok : ∀ k, k < 8 → parseFieldDescriptor (TX10 k).2.2.1 = some (tyX10 k) := by decide +kernel
abbrev cX10_init : ByteArray := prog_12_method_1_code
def yX10_init : MethodName := ⟨RX10, "<init>", "()V"⟩
abbrev cX10_wipe : ByteArray := prog_12_method_2_code
def yX10_wipe : MethodName := ⟨RX10, "wipe", "()V"⟩
def RX11 : String := "SetWorkshop"
def TX11 : u_T := fun k => match k with
  | 0 => ("SetWorkshop", "shop", "LSetWorkshop$Shop;", true)
  | 1 => ("SetWorkshop", "paths", "LSetWorkshop$Paths;", true)
  | 2 => ("SetWorkshop", "bench", "LSetWorkshop$Bench;", true)
  | _ => ("SetWorkshop", "shift", "LSetWorkshop$Shift;", true)
def tyX11 : Nat → FieldType := fun k => match k with
  | 0 => .object "SetWorkshop$Shop"
  | 1 => .object "SetWorkshop$Paths"
  | 2 => .object "SetWorkshop$Bench"
  | _ => .object "SetWorkshop$Shift"
abbrev wsX110 : List Cond := u_ws RX11 TX11 4
theorem nmX11 : ∀ a, a < 4 → ∀ b, b < 4 → a ≠ b → (TX11 a).2.1 ≠ (TX11 b).2.1 := by decide +kernel
theorem tyX11_ok : ∀ k, k < 4 → parseFieldDescriptor (TX11 k).2.2.1 = some (tyX11 k) := by decide +kernel
abbrev cX11_init : ByteArray := prog_1_method_1_code
def yX11_init : MethodName := ⟨RX11, "<init>", "()V"⟩
abbrev cX11_craft : ByteArray := prog_1_method_2_code
def yX11_craft : MethodName := ⟨RX11, "craft", "(I)I"⟩
abbrev cX11_machine : ByteArray := prog_1_method_3_code
def yX11_machine : MethodName := ⟨RX11, "machine", "()I"⟩
abbrev cX11_stock : ByteArray := prog_1_method_4_code
def yX11_stock : MethodName := ⟨RX11, "stock", "(II)I"⟩
abbrev cX11_job : ByteArray := prog_1_method_5_code
def yX11_job : MethodName := ⟨RX11, "job", "(III)I"⟩
abbrev cX11_after : ByteArray := prog_1_method_6_code
def yX11_after : MethodName := ⟨RX11, "after", "(II)I"⟩
abbrev cX11_needs : ByteArray := prog_1_method_7_code
def yX11_needs : MethodName := ⟨RX11, "needs", "(II)I"⟩
abbrev cX11_uses : ByteArray := prog_1_method_8_code
def yX11_uses : MethodName := ⟨RX11, "uses", "(III)I"⟩
abbrev cX11_gives : ByteArray := prog_1_method_9_code
def yX11_gives : MethodName := ⟨RX11, "gives", "(III)I"⟩
abbrev cX11_statusOfAmount : ByteArray := prog_1_method_10_code
def yX11_statusOfAmount : MethodName := ⟨RX11, "statusOfAmount", "(III)I"⟩
abbrev cX11_body : ByteArray := prog_1_method_11_code
def yX11_body : MethodName := ⟨RX11, "body", "(IIII)I"⟩
abbrev cX11_piece : ByteArray := prog_1_method_12_code
def yX11_piece : MethodName := ⟨RX11, "piece", "(II)I"⟩
abbrev cX11_strip : ByteArray := prog_1_method_13_code
def yX11_strip : MethodName := ⟨RX11, "strip", "(I)I"⟩
abbrev cX11_plan : ByteArray := prog_1_method_14_code
def yX11_plan : MethodName := ⟨RX11, "plan", "(III)I"⟩
abbrev cX11_clearPlan : ByteArray := prog_1_method_15_code
def yX11_clearPlan : MethodName := ⟨RX11, "clearPlan", "()I"⟩
abbrev cX11_run : ByteArray := prog_1_method_16_code
def yX11_run : MethodName := ⟨RX11, "run", "(I)I"⟩
abbrev cX11_again : ByteArray := prog_1_method_17_code
def yX11_again : MethodName := ⟨RX11, "again", "()Z"⟩
abbrev cX11_state : ByteArray := prog_1_method_18_code
def yX11_state : MethodName := ⟨RX11, "state", "(II)I"⟩
abbrev cX11_result : ByteArray := prog_1_method_19_code
def yX11_result : MethodName := ⟨RX11, "result", "(I)I"⟩
abbrev cX11_part : ByteArray := prog_1_method_20_code
def yX11_part : MethodName := ⟨RX11, "part", "(II)J"⟩
abbrev cX11_check : ByteArray := prog_1_method_21_code
def yX11_check : MethodName := ⟨RX11, "check", "(I)I"⟩
abbrev cX11_failures : ByteArray := prog_1_method_22_code
def yX11_failures : MethodName := ⟨RX11, "failures", "()I"⟩
abbrev cX11_failure : ByteArray := prog_1_method_23_code
def yX11_failure : MethodName := ⟨RX11, "failure", "(II)I"⟩
abbrev cX11_left : ByteArray := prog_1_method_24_code
def yX11_left : MethodName := ⟨RX11, "left", "(I)J"⟩
abbrev cX11_had : ByteArray := prog_1_method_25_code
def yX11_had : MethodName := ⟨RX11, "had", "(I)I"⟩
abbrev cX11_idle : ByteArray := prog_1_method_26_code
def yX11_idle : MethodName := ⟨RX11, "idle", "(I)J"⟩
abbrev cX11_log : ByteArray := prog_1_method_27_code
def yX11_log : MethodName := ⟨RX11, "log", "(II)I"⟩
abbrev cX11_critical : ByteArray := prog_1_method_28_code
def yX11_critical : MethodName := ⟨RX11, "critical", "(I)I"⟩
abbrev cX11_slack : ByteArray := prog_1_method_29_code
def yX11_slack : MethodName := ⟨RX11, "slack", "(I)I"⟩
abbrev cX11_leans : ByteArray := prog_1_method_30_code
def yX11_leans : MethodName := ⟨RX11, "leans", "(II)Z"⟩
abbrev cX11_audit : ByteArray := prog_1_method_31_code
def yX11_audit : MethodName := ⟨RX11, "audit", "()I"⟩
abbrev cX11_count : ByteArray := prog_1_method_32_code
def yX11_count : MethodName := ⟨RX11, "count", "(I)I"⟩
abbrev cX11_knownJob : ByteArray := prog_1_method_33_code
def yX11_knownJob : MethodName := ⟨RX11, "knownJob", "(I)LSetWorkshop$Job;"⟩
def RX12 : String := "SetWorkshopModel"
def TX12 : u_T := fun k => match k with
  | 0 => ("SetWorkshopModel", "thrown", "I", false)
  | 1 => ("SetWorkshopModel", "crafts", "I", false)
  | 2 => ("SetWorkshopModel", "workers", "I", false)
  | 3 => ("SetWorkshopModel", "machines", "I", false)
  | 4 => ("SetWorkshopModel", "jobs", "I", false)
  | 5 => ("SetWorkshopModel", "craftWorkers", "[I", true)
  | 6 => ("SetWorkshopModel", "first", "[I", true)
  | 7 => ("SetWorkshopModel", "craft", "[I", true)
  | 8 => ("SetWorkshopModel", "minutes", "[I", true)
  | 9 => ("SetWorkshopModel", "priority", "[I", true)
  | 10 => ("SetWorkshopModel", "before", "[Z", true)
  | 11 => ("SetWorkshopModel", "leans", "[Z", true)
  | 12 => ("SetWorkshopModel", "needs", "[Z", true)
  | 13 => ("SetWorkshopModel", "uses", "[I", true)
  | 14 => ("SetWorkshopModel", "gives", "[I", true)
  | 15 => ("SetWorkshopModel", "kind", "[I", true)
  | 16 => ("SetWorkshopModel", "bodyA", "[I", true)
  | 17 => ("SetWorkshopModel", "bodyB", "[I", true)
  | 18 => ("SetWorkshopModel", "list", "[I", true)
  | 19 => ("SetWorkshopModel", "listed", "[I", true)
  | 20 => ("SetWorkshopModel", "planMinute", "[I", true)
  | 21 => ("SetWorkshopModel", "planKind", "[I", true)
  | 22 => ("SetWorkshopModel", "wasRun", "Z", false)
  | 23 => ("SetWorkshopModel", "answer", "I", false)
  | 24 => ("SetWorkshopModel", "minute", "I", false)
  | 25 => ("SetWorkshopModel", "events", "I", false)
  | 26 => ("SetWorkshopModel", "state", "[I", true)
  | 27 => ("SetWorkshopModel", "began", "[I", true)
  | 28 => ("SetWorkshopModel", "ended", "[I", true)
  | 29 => ("SetWorkshopModel", "worker", "[I", true)
  | 30 => ("SetWorkshopModel", "noticed", "[I", true)
  | 31 => ("SetWorkshopModel", "failed", "[I", true)
  | 32 => ("SetWorkshopModel", "atWorker", "[I", true)
  | 33 => ("SetWorkshopModel", "atMachine", "[I", true)
  | 34 => ("SetWorkshopModel", "had", "[I", true)
  | 35 => ("SetWorkshopModel", "left", "[J", true)
  | 36 => ("SetWorkshopModel", "eMinute", "[I", true)
  | 37 => ("SetWorkshopModel", "eJob", "[I", true)
  | 38 => ("SetWorkshopModel", "eKind", "[I", true)
  | 39 => ("SetWorkshopModel", "wrong", "I", false)
  | 40 => ("SetWorkshopModel", "parts", "[J", true)
  | 41 => ("SetWorkshopModel", "result", "I", false)
  | 42 => ("SetWorkshopModel", "gone", "[Z", true)
  | 43 => ("SetWorkshopModel", "used", "[J", true)
  | 44 => ("SetWorkshopModel", "hopeless", "[Z", true)
  | 45 => ("SetWorkshopModel", "asked", "[Z", true)
  | 46 => ("SetWorkshopModel", "tail", "[I", true)
  | _ => ("SetWorkshopModel", "head", "[I", true)
def tyX12 : Nat → FieldType := fun k => match k with
  | 0 => .int
  | 1 => .int
  | 2 => .int
  | 3 => .int
  | 4 => .int
  | 5 => .array .int
  | 6 => .array .int
  | 7 => .array .int
  | 8 => .array .int
  | 9 => .array .int
  | 10 => .array .boolean
  | 11 => .array .boolean
  | 12 => .array .boolean
  | 13 => .array .int
  | 14 => .array .int
  | 15 => .array .int
  | 16 => .array .int
  | 17 => .array .int
  | 18 => .array .int
  | 19 => .array .int
  | 20 => .array .int
  | 21 => .array .int
  | 22 => .boolean
  | 23 => .int
  | 24 => .int
  | 25 => .int
  | 26 => .array .int
  | 27 => .array .int
  | 28 => .array .int
  | 29 => .array .int
  | 30 => .array .int
  | 31 => .array .int
  | 32 => .array .int
  | 33 => .array .int
  | 34 => .array .int
  | 35 => .array .long
  | 36 => .array .int
  | 37 => .array .int
  | 38 => .array .int
  | 39 => .int
  | 40 => .array .long
  | 41 => .int
  | 42 => .array .boolean
  | 43 => .array .long
  | 44 => .array .boolean
  | 45 => .array .boolean
  | 46 => .array .int
  | _ => .array .int
abbrev wsX120 : List Cond := u_ws RX12 TX12 48
theorem nmX12 : ∀ a, a < 48 → ∀ b, b < 48 → a ≠ b → (TX12 a).2.1 ≠ (TX12 b).2.1 := by decide +kernel
theorem tyX12_ok : ∀ k, k < 48 → parseFieldDescriptor (TX12 k).2.2.1 = some (tyX12 k) := by decide +kernel
abbrev cX12_init : ByteArray := prog_14_method_1_code
def yX12_init : MethodName := ⟨RX12, "<init>", "()V"⟩
abbrev cX12_thrown : ByteArray := prog_14_method_2_code
def yX12_thrown : MethodName := ⟨RX12, "thrown", "()I"⟩
abbrev cX12_isJob : ByteArray := prog_14_method_3_code
def yX12_isJob : MethodName := ⟨RX12, "isJob", "(I)Z"⟩
abbrev cX12_isStock : ByteArray := prog_14_method_4_code
def yX12_isStock : MethodName := ⟨RX12, "isStock", "(I)Z"⟩
abbrev cX12_done : ByteArray := prog_14_method_5_code
def yX12_done : MethodName := ⟨RX12, "done", "(I)I"⟩
abbrev cX12_craft : ByteArray := prog_14_method_6_code
def yX12_craft : MethodName := ⟨RX12, "craft", "(I)I"⟩
abbrev cX12_machine : ByteArray := prog_14_method_7_code
def yX12_machine : MethodName := ⟨RX12, "machine", "()I"⟩
abbrev cX12_stock : ByteArray := prog_14_method_8_code
def yX12_stock : MethodName := ⟨RX12, "stock", "(II)I"⟩
abbrev cX12_job : ByteArray := prog_14_method_9_code
def yX12_job : MethodName := ⟨RX12, "job", "(III)I"⟩
abbrev cX12_after : ByteArray := prog_14_method_10_code
def yX12_after : MethodName := ⟨RX12, "after", "(II)I"⟩
abbrev cX12_needs : ByteArray := prog_14_method_11_code
def yX12_needs : MethodName := ⟨RX12, "needs", "(II)I"⟩
abbrev cX12_uses : ByteArray := prog_14_method_12_code
def yX12_uses : MethodName := ⟨RX12, "uses", "(III)I"⟩
abbrev cX12_gives : ByteArray := prog_14_method_13_code
def yX12_gives : MethodName := ⟨RX12, "gives", "(III)I"⟩
abbrev cX12_body : ByteArray := prog_14_method_14_code
def yX12_body : MethodName := ⟨RX12, "body", "(IIII)I"⟩
abbrev cX12_piece : ByteArray := prog_14_method_15_code
def yX12_piece : MethodName := ⟨RX12, "piece", "(II)I"⟩
abbrev cX12_strip : ByteArray := prog_14_method_16_code
def yX12_strip : MethodName := ⟨RX12, "strip", "(I)I"⟩
abbrev cX12_plan : ByteArray := prog_14_method_17_code
def yX12_plan : MethodName := ⟨RX12, "plan", "(III)I"⟩
abbrev cX12_clearPlan : ByteArray := prog_14_method_18_code
def yX12_clearPlan : MethodName := ⟨RX12, "clearPlan", "()I"⟩
abbrev cX12_number : ByteArray := prog_14_method_19_code
def yX12_number : MethodName := ⟨RX12, "number", "(II)I"⟩
abbrev cX12_bodyOf : ByteArray := prog_14_method_20_code
def yX12_bodyOf : MethodName := ⟨RX12, "bodyOf", "(I)I"⟩
abbrev cX12_cuts : ByteArray := prog_14_method_21_code
def yX12_cuts : MethodName := ⟨RX12, "cuts", "(I)I"⟩
abbrev cX12_sumOf : ByteArray := prog_14_method_22_code
def yX12_sumOf : MethodName := ⟨RX12, "sumOf", "(I)J"⟩
abbrev cX12_isBelow : ByteArray := prog_14_method_23_code
def yX12_isBelow : MethodName := ⟨RX12, "isBelow", "(I)Z"⟩
abbrev cX12_shares : ByteArray := prog_14_method_24_code
def yX12_shares : MethodName := ⟨RX12, "shares", "(IJ)J"⟩
abbrev cX12_mixes : ByteArray := prog_14_method_25_code
def yX12_mixes : MethodName := ⟨RX12, "mixes", "(I)I"⟩
abbrev cX12_loads : ByteArray := prog_14_method_26_code
def yX12_loads : MethodName := ⟨RX12, "loads", "(I)I"⟩
abbrev cX12_checks : ByteArray := prog_14_method_27_code
def yX12_checks : MethodName := ⟨RX12, "checks", "(I)I"⟩
abbrev cX12_counts : ByteArray := prog_14_method_28_code
def yX12_counts : MethodName := ⟨RX12, "counts", "(I)I"⟩
abbrev cX12_tells : ByteArray := prog_14_method_29_code
def yX12_tells : MethodName := ⟨RX12, "tells", "(II)V"⟩
abbrev cX12_isHopeless : ByteArray := prog_14_method_30_code
def yX12_isHopeless : MethodName := ⟨RX12, "isHopeless", "(I)Z"⟩
abbrev cX12_begins : ByteArray := prog_14_method_31_code
def yX12_begins : MethodName := ⟨RX12, "begins", "()V"⟩
abbrev cX12_endOf : ByteArray := prog_14_method_32_code
def yX12_endOf : MethodName := ⟨RX12, "endOf", "(I)I"⟩
abbrev cX12_frees : ByteArray := prog_14_method_33_code
def yX12_frees : MethodName := ⟨RX12, "frees", "(I)V"⟩
abbrev cX12_farOf : ByteArray := prog_14_method_34_code
def yX12_farOf : MethodName := ⟨RX12, "farOf", "(I)I"⟩
abbrev cX12_restBack : ByteArray := prog_14_method_35_code
def yX12_restBack : MethodName := ⟨RX12, "restBack", "(I)V"⟩
abbrev cX12_ends : ByteArray := prog_14_method_36_code
def yX12_ends : MethodName := ⟨RX12, "ends", "(I)V"⟩
abbrev cX12_cancels : ByteArray := prog_14_method_37_code
def yX12_cancels : MethodName := ⟨RX12, "cancels", "()V"⟩
abbrev cX12_interrupts : ByteArray := prog_14_method_38_code
def yX12_interrupts : MethodName := ⟨RX12, "interrupts", "(I)V"⟩
abbrev cX12_isReady : ByteArray := prog_14_method_39_code
def yX12_isReady : MethodName := ⟨RX12, "isReady", "(I)Z"⟩
abbrev cX12_freeWorker : ByteArray := prog_14_method_40_code
def yX12_freeWorker : MethodName := ⟨RX12, "freeWorker", "(I)I"⟩
abbrev cX12_canBegin : ByteArray := prog_14_method_41_code
def yX12_canBegin : MethodName := ⟨RX12, "canBegin", "(I)Z"⟩
abbrev cX12_beginsWork : ByteArray := prog_14_method_42_code
def yX12_beginsWork : MethodName := ⟨RX12, "beginsWork", "(I)V"⟩
abbrev cX12_nextReady : ByteArray := prog_14_method_43_code
def yX12_nextReady : MethodName := ⟨RX12, "nextReady", "(I)I"⟩
abbrev cX12_hands : ByteArray := prog_14_method_44_code
def yX12_hands : MethodName := ⟨RX12, "hands", "(Z)Z"⟩
abbrev cX12_isAnyAtWork : ByteArray := prog_14_method_45_code
def yX12_isAnyAtWork : MethodName := ⟨RX12, "isAnyAtWork", "()Z"⟩
abbrev cX12_neverBegin : ByteArray := prog_14_method_46_code
def yX12_neverBegin : MethodName := ⟨RX12, "neverBegin", "()V"⟩
abbrev cX12_areAllDone : ByteArray := prog_14_method_47_code
def yX12_areAllDone : MethodName := ⟨RX12, "areAllDone", "()Z"⟩
abbrev cX12_goesOn : ByteArray := prog_14_method_48_code
def yX12_goesOn : MethodName := ⟨RX12, "goesOn", "(I)I"⟩
abbrev cX12_swaps : ByteArray := prog_14_method_49_code
def yX12_swaps : MethodName := ⟨RX12, "swaps", "(II)V"⟩
abbrev cX12_isAhead : ByteArray := prog_14_method_50_code
def yX12_isAhead : MethodName := ⟨RX12, "isAhead", "(II)Z"⟩
abbrev cX12_run : ByteArray := prog_14_method_51_code
def yX12_run : MethodName := ⟨RX12, "run", "(I)I"⟩
abbrev cX12_again : ByteArray := prog_14_method_52_code
def yX12_again : MethodName := ⟨RX12, "again", "()Z"⟩
abbrev cX12_causeOf : ByteArray := prog_14_method_53_code
def yX12_causeOf : MethodName := ⟨RX12, "causeOf", "(I)I"⟩
abbrev cX12_state : ByteArray := prog_14_method_54_code
def yX12_state : MethodName := ⟨RX12, "state", "(II)I"⟩
abbrev cX12_result : ByteArray := prog_14_method_55_code
def yX12_result : MethodName := ⟨RX12, "result", "(I)I"⟩
abbrev cX12_part : ByteArray := prog_14_method_56_code
def yX12_part : MethodName := ⟨RX12, "part", "(II)J"⟩
abbrev cX12_check : ByteArray := prog_14_method_57_code
def yX12_check : MethodName := ⟨RX12, "check", "(I)I"⟩
abbrev cX12_failures : ByteArray := prog_14_method_58_code
def yX12_failures : MethodName := ⟨RX12, "failures", "()I"⟩
abbrev cX12_failedAt : ByteArray := prog_14_method_59_code
def yX12_failedAt : MethodName := ⟨RX12, "failedAt", "(I)I"⟩
abbrev cX12_failure : ByteArray := prog_14_method_60_code
def yX12_failure : MethodName := ⟨RX12, "failure", "(II)I"⟩
abbrev cX12_left : ByteArray := prog_14_method_61_code
def yX12_left : MethodName := ⟨RX12, "left", "(I)J"⟩
abbrev cX12_had : ByteArray := prog_14_method_62_code
def yX12_had : MethodName := ⟨RX12, "had", "(I)I"⟩
abbrev cX12_idle : ByteArray := prog_14_method_63_code
def yX12_idle : MethodName := ⟨RX12, "idle", "(I)J"⟩
abbrev cX12_log : ByteArray := prog_14_method_64_code
def yX12_log : MethodName := ⟨RX12, "log", "(II)I"⟩
abbrev cX12_lengths : ByteArray := prog_14_method_65_code
def yX12_lengths : MethodName := ⟨RX12, "lengths", "()I"⟩
abbrev cX12_nextOfChain : ByteArray := prog_14_method_66_code
def yX12_nextOfChain : MethodName := ⟨RX12, "nextOfChain", "(I)I"⟩
abbrev cX12_critical : ByteArray := prog_14_method_67_code
def yX12_critical : MethodName := ⟨RX12, "critical", "(I)I"⟩
abbrev cX12_slack : ByteArray := prog_14_method_68_code
def yX12_slack : MethodName := ⟨RX12, "slack", "(I)I"⟩
abbrev cX12_leans : ByteArray := prog_14_method_69_code
def yX12_leans : MethodName := ⟨RX12, "leans", "(II)Z"⟩
abbrev cX12_audit : ByteArray := prog_14_method_70_code
def yX12_audit : MethodName := ⟨RX12, "audit", "()I"⟩
abbrev cX12_count : ByteArray := prog_14_method_71_code
def yX12_count : MethodName := ⟨RX12, "count", "(I)I"⟩
def RJx145de : String := "java/io/Serializable"
def TJx145de : u_T := fun k => match k with
  | _ => ("", "", "", false)
def tyJx145de : Nat → FieldType := fun k => match k with
  | _ => .int
abbrev wsJx145de0 : List Cond := u_ws RJx145de TJx145de 0
theorem nmJx145de : ∀ a, a < 0 → ∀ b, b < 0 → a ≠ b → (TJx145de a).2.1 ≠ (TJx145de b).2.1 := by decide +kernel
theorem tyJx145de_ok : ∀ k, k < 0 → parseFieldDescriptor (TJx145de k).2.2.1 = some (tyJx145de k) := by decide +kernel
def RJx8e188 : String := "java/lang/Cloneable"
def TJx8e188 : u_T := fun k => match k with
  | _ => ("", "", "", false)
def tyJx8e188 : Nat → FieldType := fun k => match k with
  | _ => .int
abbrev wsJx8e1880 : List Cond := u_ws RJx8e188 TJx8e188 0
theorem nmJx8e188 : ∀ a, a < 0 → ∀ b, b < 0 → a ≠ b → (TJx8e188 a).2.1 ≠ (TJx8e188 b).2.1 := by decide +kernel
theorem tyJx8e188_ok : ∀ k, k < 0 → parseFieldDescriptor (TJx8e188 k).2.2.1 = some (tyJx8e188 k) := by decide +kernel
def RJxab1ab : String := "java/lang/Iterable"
def TJxab1ab : u_T := fun k => match k with
  | _ => ("", "", "", false)
def tyJxab1ab : Nat → FieldType := fun k => match k with
  | _ => .int
abbrev wsJxab1ab0 : List Cond := u_ws RJxab1ab TJxab1ab 0
theorem nmJxab1ab : ∀ a, a < 0 → ∀ b, b < 0 → a ≠ b → (TJxab1ab a).2.1 ≠ (TJxab1ab b).2.1 := by decide +kernel
theorem tyJxab1ab_ok : ∀ k, k < 0 → parseFieldDescriptor (TJxab1ab k).2.2.1 = some (tyJxab1ab k) := by decide +kernel
def RJ9 : String := "java/lang/Math"
def TJ9 : u_T := fun k => match k with
  | _ => ("", "", "", false)
def tyJ9 : Nat → FieldType := fun k => match k with
  | _ => .int
abbrev wsJ90 : List Cond := u_ws RJ9 TJ9 0
theorem nmJ9 : ∀ a, a < 0 → ∀ b, b < 0 → a ≠ b → (TJ9 a).2.1 ≠ (TJ9 b).2.1 := by decide +kernel
theorem tyJ9_ok : ∀ k, k < 0 → parseFieldDescriptor (TJ9 k).2.2.1 = some (tyJ9 k) := by decide +kernel
abbrev cJ9_max_7cf53 : ByteArray := prog_19_method_65_code
def yJ9_max_7cf53 : MethodName := ⟨RJ9, "max", "(II)I"⟩
abbrev cJ9_min_7cf53 : ByteArray := prog_19_method_69_code
def yJ9_min_7cf53 : MethodName := ⟨RJ9, "min", "(II)I"⟩
def RJ0 : String := "java/lang/String"
def TJ0 : u_T := fun k => match k with
  | _ => ("", "", "", false)
def tyJ0 : Nat → FieldType := fun k => match k with
  | _ => .int
abbrev wsJ00 : List Cond := u_ws RJ0 TJ0 0
theorem nmJ0 : ∀ a, a < 0 → ∀ b, b < 0 → a ≠ b → (TJ0 a).2.1 ≠ (TJ0 b).2.1 := by decide +kernel
theorem tyJ0_ok : ∀ k, k < 0 → parseFieldDescriptor (TJ0 k).2.2.1 = some (tyJ0 k) := by decide +kernel
def RJ10 : String := "java/lang/System"
def TJ10 : u_T := fun k => match k with
  | _ => ("", "", "", false)
def tyJ10 : Nat → FieldType := fun k => match k with
  | _ => .int
abbrev wsJ100 : List Cond := u_ws RJ10 TJ10 0
theorem nmJ10 : ∀ a, a < 0 → ∀ b, b < 0 → a ≠ b → (TJ10 a).2.1 ≠ (TJ10 b).2.1 := by decide +kernel
theorem tyJ10_ok : ∀ k, k < 0 → parseFieldDescriptor (TJ10 k).2.2.1 = some (tyJ10 k) := by decide +kernel
def RJxa1e45 : String := "java/util/AbstractCollection"
def TJxa1e45 : u_T := fun k => match k with
  | _ => ("", "", "", false)
def tyJxa1e45 : Nat → FieldType := fun k => match k with
  | _ => .int
abbrev wsJxa1e450 : List Cond := u_ws RJxa1e45 TJxa1e45 0
theorem nmJxa1e45 : ∀ a, a < 0 → ∀ b, b < 0 → a ≠ b → (TJxa1e45 a).2.1 ≠ (TJxa1e45 b).2.1 := by decide +kernel
theorem tyJxa1e45_ok : ∀ k, k < 0 → parseFieldDescriptor (TJxa1e45 k).2.2.1 = some (tyJxa1e45 k) := by decide +kernel
abbrev cJxa1e45_init_da8c8 : ByteArray := prog_24_method_1_code
def yJxa1e45_init_da8c8 : MethodName := ⟨RJxa1e45, "<init>", "()V"⟩
def RJxc12de : String := "java/util/AbstractList"
def TJxc12de : u_T := fun k => match k with
  | _ => ("", "", "", false)
def tyJxc12de : Nat → FieldType := fun k => match k with
  | _ => .int
abbrev wsJxc12de0 : List Cond := u_ws RJxc12de TJxc12de 0
theorem nmJxc12de : ∀ a, a < 0 → ∀ b, b < 0 → a ≠ b → (TJxc12de a).2.1 ≠ (TJxc12de b).2.1 := by decide +kernel
theorem tyJxc12de_ok : ∀ k, k < 0 → parseFieldDescriptor (TJxc12de k).2.2.1 = some (tyJxc12de k) := by decide +kernel
abbrev cJxc12de_init_da8c8 : ByteArray := prog_25_method_1_code
def yJxc12de_init_da8c8 : MethodName := ⟨RJxc12de, "<init>", "()V"⟩
def RJx4a65c : String := "java/util/ArrayList"
def TJx4a65c : u_T := fun k => match k with
  | 0 => ("java/util/AbstractList", "modCount", "I", false)
  | 1 => ("java/util/ArrayList", "elementData", "[Ljava/lang/Object;", false)
  | _ => ("java/util/ArrayList", "size", "I", false)
def tyJx4a65c : Nat → FieldType := fun k => match k with
  | 0 => .int
  | 1 => .array (.object "java/lang/Object")
  | _ => .int
abbrev wsJx4a65c0 : List Cond := u_ws RJx4a65c TJx4a65c 3
theorem nmJx4a65c : ∀ a, a < 3 → ∀ b, b < 3 → a ≠ b → (TJx4a65c a).2.1 ≠ (TJx4a65c b).2.1 := by decide +kernel
theorem tyJx4a65c_ok : ∀ k, k < 3 → parseFieldDescriptor (TJx4a65c k).2.2.1 = some (tyJx4a65c k) := by decide +kernel
abbrev cJx4a65c_init_da8c8 : ByteArray := prog_26_method_2_code
def yJx4a65c_init_da8c8 : MethodName := ⟨RJx4a65c, "<init>", "()V"⟩
abbrev cJx4a65c_grow_92f84 : ByteArray := prog_26_method_6_code
def yJx4a65c_grow_92f84 : MethodName := ⟨RJx4a65c, "grow", "(I)[Ljava/lang/Object;"⟩
abbrev cJx4a65c_grow_d5877 : ByteArray := prog_26_method_7_code
def yJx4a65c_grow_d5877 : MethodName := ⟨RJx4a65c, "grow", "()[Ljava/lang/Object;"⟩
abbrev cJx4a65c_size_8abf5 : ByteArray := prog_26_method_8_code
def yJx4a65c_size_8abf5 : MethodName := ⟨RJx4a65c, "size", "()I"⟩
abbrev cJx4a65c_elementData_915e3 : ByteArray := prog_26_method_18_code
def yJx4a65c_elementData_915e3 : MethodName := ⟨RJx4a65c, "elementData", "(I)Ljava/lang/Object;"⟩
abbrev cJx4a65c_get_915e3 : ByteArray := prog_26_method_20_code
def yJx4a65c_get_915e3 : MethodName := ⟨RJx4a65c, "get", "(I)Ljava/lang/Object;"⟩
abbrev cJx4a65c_add_72be8 : ByteArray := prog_26_method_24_code
def yJx4a65c_add_72be8 : MethodName := ⟨RJx4a65c, "add", "(Ljava/lang/Object;[Ljava/lang/Object;I)V"⟩
abbrev cJx4a65c_add_9ea2d : ByteArray := prog_26_method_25_code
def yJx4a65c_add_9ea2d : MethodName := ⟨RJx4a65c, "add", "(Ljava/lang/Object;)Z"⟩
def RJ7 : String := "java/util/Arrays"
def TJ7 : u_T := fun k => match k with
  | _ => ("", "", "", false)
def tyJ7 : Nat → FieldType := fun k => match k with
  | _ => .int
abbrev wsJ70 : List Cond := u_ws RJ7 TJ7 0
theorem nmJ7 : ∀ a, a < 0 → ∀ b, b < 0 → a ≠ b → (TJ7 a).2.1 ≠ (TJ7 b).2.1 := by decide +kernel
theorem tyJ7_ok : ∀ k, k < 0 → parseFieldDescriptor (TJ7 k).2.2.1 = some (tyJ7 k) := by decide +kernel
abbrev cJ7_copyOf_1904c : ByteArray := prog_27_method_119_code
def yJ7_copyOf_1904c : MethodName := ⟨RJ7, "copyOf", "([Ljava/lang/Object;I)[Ljava/lang/Object;"⟩
abbrev cJ7_copyOf_6403c : ByteArray := prog_27_method_120_code
def yJ7_copyOf_6403c : MethodName := ⟨RJ7, "copyOf", "([Ljava/lang/Object;ILjava/lang/Class;)[Ljava/lang/Object;"⟩
def RJx5ef63 : String := "java/util/Collection"
def TJx5ef63 : u_T := fun k => match k with
  | _ => ("", "", "", false)
def tyJx5ef63 : Nat → FieldType := fun k => match k with
  | _ => .int
abbrev wsJx5ef630 : List Cond := u_ws RJx5ef63 TJx5ef63 0
theorem nmJx5ef63 : ∀ a, a < 0 → ∀ b, b < 0 → a ≠ b → (TJx5ef63 a).2.1 ≠ (TJx5ef63 b).2.1 := by decide +kernel
theorem tyJx5ef63_ok : ∀ k, k < 0 → parseFieldDescriptor (TJx5ef63 k).2.2.1 = some (tyJx5ef63 k) := by decide +kernel
def RJxbd725 : String := "java/util/List"
def TJxbd725 : u_T := fun k => match k with
  | _ => ("", "", "", false)
def tyJxbd725 : Nat → FieldType := fun k => match k with
  | _ => .int
abbrev wsJxbd7250 : List Cond := u_ws RJxbd725 TJxbd725 0
theorem nmJxbd725 : ∀ a, a < 0 → ∀ b, b < 0 → a ≠ b → (TJxbd725 a).2.1 ≠ (TJxbd725 b).2.1 := by decide +kernel
theorem tyJxbd725_ok : ∀ k, k < 0 → parseFieldDescriptor (TJxbd725 k).2.2.1 = some (tyJxbd725 k) := by decide +kernel
def RJ15 : String := "java/util/Objects"
def TJ15 : u_T := fun k => match k with
  | _ => ("", "", "", false)
def tyJ15 : Nat → FieldType := fun k => match k with
  | _ => .int
abbrev wsJ150 : List Cond := u_ws RJ15 TJ15 0
theorem nmJ15 : ∀ a, a < 0 → ∀ b, b < 0 → a ≠ b → (TJ15 a).2.1 ≠ (TJ15 b).2.1 := by decide +kernel
theorem tyJ15_ok : ∀ k, k < 0 → parseFieldDescriptor (TJ15 k).2.2.1 = some (tyJ15 k) := by decide +kernel
abbrev cJ15_checkIndex_7cf53 : ByteArray := prog_31_method_17_code
def yJ15_checkIndex_7cf53 : MethodName := ⟨RJ15, "checkIndex", "(II)I"⟩
def RJxf0a74 : String := "java/util/RandomAccess"
def TJxf0a74 : u_T := fun k => match k with
  | _ => ("", "", "", false)
def tyJxf0a74 : Nat → FieldType := fun k => match k with
  | _ => .int
abbrev wsJxf0a740 : List Cond := u_ws RJxf0a74 TJxf0a74 0
theorem nmJxf0a74 : ∀ a, a < 0 → ∀ b, b < 0 → a ≠ b → (TJxf0a74 a).2.1 ≠ (TJxf0a74 b).2.1 := by decide +kernel
theorem tyJxf0a74_ok : ∀ k, k < 0 → parseFieldDescriptor (TJxf0a74 k).2.2.1 = some (tyJxf0a74 k) := by decide +kernel
def RJxa66e6 : String := "java/util/SequencedCollection"
def TJxa66e6 : u_T := fun k => match k with
  | _ => ("", "", "", false)
def tyJxa66e6 : Nat → FieldType := fun k => match k with
  | _ => .int
abbrev wsJxa66e60 : List Cond := u_ws RJxa66e6 TJxa66e6 0
theorem nmJxa66e6 : ∀ a, a < 0 → ∀ b, b < 0 → a ≠ b → (TJxa66e6 a).2.1 ≠ (TJxa66e6 b).2.1 := by decide +kernel
theorem tyJxa66e6_ok : ∀ k, k < 0 → parseFieldDescriptor (TJxa66e6 k).2.2.1 = some (tyJxa66e6 k) := by decide +kernel
def RJ8 : String := "jdk/internal/util/ArraysSupport"
def TJ8 : u_T := fun k => match k with
  | _ => ("", "", "", false)
def tyJ8 : Nat → FieldType := fun k => match k with
  | _ => .int
abbrev wsJ80 : List Cond := u_ws RJ8 TJ8 0
theorem nmJ8 : ∀ a, a < 0 → ∀ b, b < 0 → a ≠ b → (TJ8 a).2.1 ≠ (TJ8 b).2.1 := by decide +kernel
theorem tyJ8_ok : ∀ k, k < 0 → parseFieldDescriptor (TJ8 k).2.2.1 = some (tyJ8 k) := by decide +kernel
abbrev cJ8_newLength_cabcc : ByteArray := prog_34_method_27_code
def yJ8_newLength_cabcc : MethodName := ⟨RJ8, "newLength", "(III)I"⟩
abbrev cJ8_hugeLength_7cf53 : ByteArray := prog_34_method_28_code
def yJ8_hugeLength_7cf53 : MethodName := ⟨RJ8, "hugeLength", "(II)I"⟩
def RJ3 : String := "jdk/internal/util/Preconditions"
def TJ3 : u_T := fun k => match k with
  | _ => ("", "", "", false)
def tyJ3 : Nat → FieldType := fun k => match k with
  | _ => .int
abbrev wsJ30 : List Cond := u_ws RJ3 TJ3 0
theorem nmJ3 : ∀ a, a < 0 → ∀ b, b < 0 → a ≠ b → (TJ3 a).2.1 ≠ (TJ3 b).2.1 := by decide +kernel
theorem tyJ3_ok : ∀ k, k < 0 → parseFieldDescriptor (TJ3 k).2.2.1 = some (tyJ3 k) := by decide +kernel
abbrev cJ3_checkIndex_8e157 : ByteArray := prog_35_method_11_code
def yJ3_checkIndex_8e157 : MethodName := ⟨RJ3, "checkIndex", "(IILjava/util/function/BiFunction;)I"⟩
def RL : String := "SetWorkshopLaw"
abbrev cL_state : ByteArray := method_3_code
def yL_state : MethodName := ⟨RL, "state", "(LSetWorkshop;II[J)I"⟩
abbrev cL_result : ByteArray := method_4_code
def yL_result : MethodName := ⟨RL, "result", "(LSetWorkshop;I[J)I"⟩
abbrev cL_part : ByteArray := method_5_code
def yL_part : MethodName := ⟨RL, "part", "(LSetWorkshop;II[J)I"⟩
abbrev cL_check : ByteArray := method_6_code
def yL_check : MethodName := ⟨RL, "check", "(LSetWorkshop;I[J)I"⟩
abbrev cL_failure : ByteArray := method_7_code
def yL_failure : MethodName := ⟨RL, "failure", "(LSetWorkshop;II[J)I"⟩
abbrev cL_left : ByteArray := method_8_code
def yL_left : MethodName := ⟨RL, "left", "(LSetWorkshop;I[J)I"⟩
abbrev cL_had : ByteArray := method_9_code
def yL_had : MethodName := ⟨RL, "had", "(LSetWorkshop;I[J)I"⟩
abbrev cL_idle : ByteArray := method_10_code
def yL_idle : MethodName := ⟨RL, "idle", "(LSetWorkshop;I[J)I"⟩
abbrev cL_slack : ByteArray := method_11_code
def yL_slack : MethodName := ⟨RL, "slack", "(LSetWorkshop;I[J)I"⟩
abbrev cL_leans : ByteArray := method_12_code
def yL_leans : MethodName := ⟨RL, "leans", "(LSetWorkshop;II[J)I"⟩
abbrev cL_law : ByteArray := code
def yL_law : MethodName := ⟨RL, "law", "([I)Z"⟩
abbrev vwCl : List vw_C := [(RJx4a65c, TJx4a65c, 3), (RX0, TX0, 3), (RX1, TX1, 3), (RX2, TX2, 4), (RX3, TX3, 2), (RX4, TX4, 16), (RX5, TX5, 1), (RX6, TX6, 8), (RX7, TX7, 5), (RX8, TX8, 18), (RX9, TX9, 8), (RX10, TX10, 8), (RX11, TX11, 4), (RX12, TX12, 48)]
