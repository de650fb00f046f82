/-! ===== BEGIN printed: names, fields, word lists, decode rows ===== -/
def RX0 : String := "Saltwedge$Barrier"
def TX0 : u_T := fun k => match k with
  | 0 => ("Saltwedge$Barrier", "first", "[I", true)
  | 1 => ("Saltwedge$Barrier", "last", "[I", true)
  | 2 => ("Saltwedge$Barrier", "right", "[Z", true)
  | 3 => ("Saltwedge$Barrier", "closureCount", "I", false)
  | 4 => ("Saltwedge$Barrier", "mark", "I", false)
  | 5 => ("Saltwedge$Barrier", "lead", "I", false)
  | _ => ("Saltwedge$Barrier", "closed", "Z", false)
def tyX0 : Nat → FieldType := fun k => match k with
  | 0 => .array .int
  | 1 => .array .int
  | 2 => .array .boolean
  | 3 => .int
  | 4 => .int
  | 5 => .int
  | _ => .boolean
abbrev wsX00 : List Cond := u_ws RX0 TX0 7
theorem nmX0 : ∀ a, a < 7 → ∀ b, b < 7 → a ≠ b → (TX0 a).2.1 ≠ (TX0 b).2.1 := by decide +kernel
theorem tyX0_ok : ∀ k, k < 7 → parseFieldDescriptor (TX0 k).2.2.1 = some (tyX0 k) := by decide +kernel
abbrev cX0_init : ByteArray := prog_2_method_1_code
def yX0_init : MethodName := ⟨RX0, "<init>", "()V"⟩
abbrev cX0_begin : ByteArray := prog_2_method_2_code
def yX0_begin : MethodName := ⟨RX0, "begin", "()V"⟩
abbrev cX0_look : ByteArray := prog_2_method_3_code
def yX0_look : MethodName := ⟨RX0, "look", "(LSaltwedge$Sea;I)V"⟩
abbrev cX0_answer : ByteArray := prog_2_method_4_code
def yX0_answer : MethodName := ⟨RX0, "answer", "(II)I"⟩
def RX1 : String := "Saltwedge$Intake"
def TX1 : u_T := fun k => match k with
  | 0 => ("Saltwedge$Intake", "section", "I", false)
  | 1 => ("Saltwedge$Intake", "rate", "I", false)
  | 2 => ("Saltwedge$Intake", "grain", "I", false)
  | 3 => ("Saltwedge$Intake", "room", "I", false)
  | 4 => ("Saltwedge$Intake", "use", "I", false)
  | 5 => ("Saltwedge$Intake", "held", "I", false)
  | 6 => ("Saltwedge$Intake", "taken", "I", false)
  | 7 => ("Saltwedge$Intake", "lacking", "I", false)
  | 8 => ("Saltwedge$Intake", "stoppedHours", "I", false)
  | _ => ("Saltwedge$Intake", "stopped", "Z", false)
def tyX1 : Nat → FieldType := fun k => match k with
  | 0 => .int
  | 1 => .int
  | 2 => .int
  | 3 => .int
  | 4 => .int
  | 5 => .int
  | 6 => .int
  | 7 => .int
  | 8 => .int
  | _ => .boolean
abbrev wsX10 : List Cond := u_ws RX1 TX1 10
theorem nmX1 : ∀ a, a < 10 → ∀ b, b < 10 → a ≠ b → (TX1 a).2.1 ≠ (TX1 b).2.1 := by decide +kernel
theorem tyX1_ok : ∀ k, k < 10 → parseFieldDescriptor (TX1 k).2.2.1 = some (tyX1 k) := by decide +kernel
abbrev cX1_init : ByteArray := prog_3_method_1_code
def yX1_init : MethodName := ⟨RX1, "<init>", "()V"⟩
abbrev cX1_begin : ByteArray := prog_3_method_2_code
def yX1_begin : MethodName := ⟨RX1, "begin", "(IIIII)V"⟩
abbrev cX1_take : ByteArray := prog_3_method_3_code
def yX1_take : MethodName := ⟨RX1, "take", "(LSaltwedge$Layer;[J)V"⟩
abbrev cX1_supply : ByteArray := prog_3_method_4_code
def yX1_supply : MethodName := ⟨RX1, "supply", "()V"⟩
abbrev cX1_answer : ByteArray := prog_3_method_5_code
def yX1_answer : MethodName := ⟨RX1, "answer", "(I)I"⟩
def RX2 : String := "Saltwedge$Layer"
def TX2 : u_T := fun k => match k with
  | 0 => ("Saltwedge$Layer", "water", "I", false)
  | _ => ("Saltwedge$Layer", "salt", "I", false)
def tyX2 : Nat → FieldType := fun k => match k with
  | 0 => .int
  | _ => .int
abbrev wsX20 : List Cond := u_ws RX2 TX2 2
theorem nmX2 : ∀ a, a < 2 → ∀ b, b < 2 → a ≠ b → (TX2 a).2.1 ≠ (TX2 b).2.1 := by decide +kernel
theorem tyX2_ok : ∀ k, k < 2 → parseFieldDescriptor (TX2 k).2.2.1 = some (tyX2 k) := by decide +kernel
abbrev cX2_init : ByteArray := prog_4_method_1_code
def yX2_init : MethodName := ⟨RX2, "<init>", "()V"⟩
abbrev cX2_begin : ByteArray := prog_4_method_2_code
def yX2_begin : MethodName := ⟨RX2, "begin", "(I)V"⟩
abbrev cX2_salinity : ByteArray := prog_4_method_3_code
def yX2_salinity : MethodName := ⟨RX2, "salinity", "()I"⟩
abbrev cX2_saltWith : ByteArray := prog_4_method_4_code
def yX2_saltWith : MethodName := ⟨RX2, "saltWith", "(I)I"⟩
abbrev cX2_giveOut : ByteArray := prog_4_method_5_code
def yX2_giveOut : MethodName := ⟨RX2, "giveOut", "(I)I"⟩
abbrev cX2_takeIn : ByteArray := prog_4_method_6_code
def yX2_takeIn : MethodName := ⟨RX2, "takeIn", "(II)V"⟩
def RX3 : String := "Saltwedge$Mouth"
def TX3 : u_T := fun k => match k with
  | 0 => ("Saltwedge$Mouth", "sea", "LSaltwedge$Sea;", true)
  | 1 => ("Saltwedge$Mouth", "barrier", "LSaltwedge$Barrier;", true)
  | 2 => ("Saltwedge$Mouth", "sections", "[LSaltwedge$Section;", true)
  | 3 => ("Saltwedge$Mouth", "intakes", "[LSaltwedge$Intake;", true)
  | 4 => ("Saltwedge$Mouth", "sums", "[J", true)
  | 5 => ("Saltwedge$Mouth", "sectionCount", "I", false)
  | 6 => ("Saltwedge$Mouth", "intakeCount", "I", false)
  | 7 => ("Saltwedge$Mouth", "riverWater", "I", false)
  | 8 => ("Saltwedge$Mouth", "riverSilt", "I", false)
  | _ => ("Saltwedge$Mouth", "now", "I", false)
def tyX3 : Nat → FieldType := fun k => match k with
  | 0 => .object "Saltwedge$Sea"
  | 1 => .object "Saltwedge$Barrier"
  | 2 => .array (.object "Saltwedge$Section")
  | 3 => .array (.object "Saltwedge$Intake")
  | 4 => .array .long
  | 5 => .int
  | 6 => .int
  | 7 => .int
  | 8 => .int
  | _ => .int
abbrev wsX30 : List Cond := u_ws RX3 TX3 10
theorem nmX3 : ∀ a, a < 10 → ∀ b, b < 10 → a ≠ b → (TX3 a).2.1 ≠ (TX3 b).2.1 := by decide +kernel
theorem tyX3_ok : ∀ k, k < 10 → parseFieldDescriptor (TX3 k).2.2.1 = some (tyX3 k) := by decide +kernel
abbrev cX3_init : ByteArray := prog_5_method_1_code
def yX3_init : MethodName := ⟨RX3, "<init>", "()V"⟩
abbrev cX3_begin : ByteArray := prog_5_method_2_code
def yX3_begin : MethodName := ⟨RX3, "begin", "()V"⟩
abbrev cX3_hasSection : ByteArray := prog_5_method_3_code
def yX3_hasSection : MethodName := ⟨RX3, "hasSection", "(I)Z"⟩
abbrev cX3_hear : ByteArray := prog_5_method_4_code
def yX3_hear : MethodName := ⟨RX3, "hear", "(IIIIII)V"⟩
abbrev cX3_addSection : ByteArray := prog_5_method_5_code
def yX3_addSection : MethodName := ⟨RX3, "addSection", "(IIII)V"⟩
abbrev cX3_addIntake : ByteArray := prog_5_method_6_code
def yX3_addIntake : MethodName := ⟨RX3, "addIntake", "(IIIII)V"⟩
abbrev cX3_setPermit : ByteArray := prog_5_method_7_code
def yX3_setPermit : MethodName := ⟨RX3, "setPermit", "(II)V"⟩
abbrev cX3_moveMud : ByteArray := prog_5_method_8_code
def yX3_moveMud : MethodName := ⟨RX3, "moveMud", "(III)V"⟩
abbrev cX3_seaOf : ByteArray := prog_5_method_9_code
def yX3_seaOf : MethodName := ⟨RX3, "seaOf", "(I)I"⟩
abbrev cX3_firstHourAt : ByteArray := prog_5_method_10_code
def yX3_firstHourAt : MethodName := ⟨RX3, "firstHourAt", "(II)I"⟩
abbrev cX3_goOnTo : ByteArray := prog_5_method_11_code
def yX3_goOnTo : MethodName := ⟨RX3, "goOnTo", "(I)V"⟩
abbrev cX3_letHourGoBy : ByteArray := prog_5_method_12_code
def yX3_letHourGoBy : MethodName := ⟨RX3, "letHourGoBy", "()V"⟩
abbrev cX3_meetSea : ByteArray := prog_5_method_13_code
def yX3_meetSea : MethodName := ⟨RX3, "meetSea", "(LSaltwedge$Section;I)V"⟩
abbrev cX3_meetRiver : ByteArray := prog_5_method_14_code
def yX3_meetRiver : MethodName := ⟨RX3, "meetRiver", "(LSaltwedge$Section;)V"⟩
abbrev cX3_flowByLevels : ByteArray := prog_5_method_15_code
def yX3_flowByLevels : MethodName := ⟨RX3, "flowByLevels", "(LSaltwedge$Section;LSaltwedge$Section;)V"⟩
abbrev cX3_creep : ByteArray := prog_5_method_16_code
def yX3_creep : MethodName := ⟨RX3, "creep", "(LSaltwedge$Section;LSaltwedge$Section;)V"⟩
abbrev cX3_flowInLow : ByteArray := prog_5_method_17_code
def yX3_flowInLow : MethodName := ⟨RX3, "flowInLow", "(LSaltwedge$Section;LSaltwedge$Section;I)V"⟩
abbrev cX3_flowInUp : ByteArray := prog_5_method_18_code
def yX3_flowInUp : MethodName := ⟨RX3, "flowInUp", "(LSaltwedge$Section;LSaltwedge$Section;I)V"⟩
abbrev cX3_serveIntakes : ByteArray := prog_5_method_19_code
def yX3_serveIntakes : MethodName := ⟨RX3, "serveIntakes", "()V"⟩
def RX4 : String := "Saltwedge$Oysters"
def TX4 : u_T := fun k => match k with
  | 0 => ("Saltwedge$Oysters", "section", "I", false)
  | 1 => ("Saltwedge$Oysters", "grain", "I", false)
  | _ => ("Saltwedge$Oysters", "hours", "I", false)
def tyX4 : Nat → FieldType := fun k => match k with
  | 0 => .int
  | 1 => .int
  | _ => .int
abbrev wsX40 : List Cond := u_ws RX4 TX4 3
theorem nmX4 : ∀ a, a < 3 → ∀ b, b < 3 → a ≠ b → (TX4 a).2.1 ≠ (TX4 b).2.1 := by decide +kernel
theorem tyX4_ok : ∀ k, k < 3 → parseFieldDescriptor (TX4 k).2.2.1 = some (tyX4 k) := by decide +kernel
abbrev cX4_init : ByteArray := prog_6_method_1_code
def yX4_init : MethodName := ⟨RX4, "<init>", "()V"⟩
def RX5 : String := "Saltwedge$Sea"
def TX5 : u_T := fun k => match k with
  | 0 => ("Saltwedge$Sea", "turns", "[LSaltwedge$Turn;", true)
  | 1 => ("Saltwedge$Sea", "surges", "[LSaltwedge$Surge;", true)
  | 2 => ("Saltwedge$Sea", "past", "[I", true)
  | 3 => ("Saltwedge$Sea", "turnCount", "I", false)
  | 4 => ("Saltwedge$Sea", "surgeCount", "I", false)
  | _ => ("Saltwedge$Sea", "mean", "I", false)
def tyX5 : Nat → FieldType := fun k => match k with
  | 0 => .array (.object "Saltwedge$Turn")
  | 1 => .array (.object "Saltwedge$Surge")
  | 2 => .array .int
  | 3 => .int
  | 4 => .int
  | _ => .int
abbrev wsX50 : List Cond := u_ws RX5 TX5 6
theorem nmX5 : ∀ a, a < 6 → ∀ b, b < 6 → a ≠ b → (TX5 a).2.1 ≠ (TX5 b).2.1 := by decide +kernel
theorem tyX5_ok : ∀ k, k < 6 → parseFieldDescriptor (TX5 k).2.2.1 = some (tyX5 k) := by decide +kernel
abbrev cX5_init : ByteArray := prog_7_method_1_code
def yX5_init : MethodName := ⟨RX5, "<init>", "()V"⟩
abbrev cX5_begin : ByteArray := prog_7_method_2_code
def yX5_begin : MethodName := ⟨RX5, "begin", "()V"⟩
abbrev cX5_addTurn : ByteArray := prog_7_method_3_code
def yX5_addTurn : MethodName := ⟨RX5, "addTurn", "(IIII)V"⟩
abbrev cX5_addSurge : ByteArray := prog_7_method_4_code
def yX5_addSurge : MethodName := ⟨RX5, "addSurge", "(III)V"⟩
abbrev cX5_foretold : ByteArray := prog_7_method_5_code
def yX5_foretold : MethodName := ⟨RX5, "foretold", "(I)I"⟩
abbrev cX5_foretoldAbove : ByteArray := prog_7_method_6_code
def yX5_foretoldAbove : MethodName := ⟨RX5, "foretoldAbove", "(III)Z"⟩
abbrev cX5_keep : ByteArray := prog_7_method_7_code
def yX5_keep : MethodName := ⟨RX5, "keep", "(II)V"⟩
def RX6 : String := "Saltwedge$Section"
def TX6 : u_T := fun k => match k with
  | 0 => ("Saltwedge$Section", "up", "LSaltwedge$Layer;", true)
  | 1 => ("Saltwedge$Section", "low", "LSaltwedge$Layer;", true)
  | 2 => ("Saltwedge$Section", "lowAtEnd", "[I", true)
  | 3 => ("Saltwedge$Section", "area", "I", false)
  | 4 => ("Saltwedge$Section", "mud", "I", false)
  | 5 => ("Saltwedge$Section", "cloud", "I", false)
  | 6 => ("Saltwedge$Section", "run", "I", false)
  | _ => ("Saltwedge$Section", "permit", "I", false)
def tyX6 : Nat → FieldType := fun k => match k with
  | 0 => .object "Saltwedge$Layer"
  | 1 => .object "Saltwedge$Layer"
  | 2 => .array .int
  | 3 => .int
  | 4 => .int
  | 5 => .int
  | 6 => .int
  | _ => .int
abbrev wsX60 : List Cond := u_ws RX6 TX6 8
theorem nmX6 : ∀ a, a < 8 → ∀ b, b < 8 → a ≠ b → (TX6 a).2.1 ≠ (TX6 b).2.1 := by decide +kernel
theorem tyX6_ok : ∀ k, k < 8 → parseFieldDescriptor (TX6 k).2.2.1 = some (tyX6 k) := by decide +kernel
abbrev cX6_init : ByteArray := prog_8_method_1_code
def yX6_init : MethodName := ⟨RX6, "<init>", "()V"⟩
abbrev cX6_begin : ByteArray := prog_8_method_2_code
def yX6_begin : MethodName := ⟨RX6, "begin", "(IIII)V"⟩
abbrev cX6_bed : ByteArray := prog_8_method_3_code
def yX6_bed : MethodName := ⟨RX6, "bed", "()I"⟩
abbrev cX6_level : ByteArray := prog_8_method_4_code
def yX6_level : MethodName := ⟨RX6, "level", "()I"⟩
abbrev cX6_giveCloud : ByteArray := prog_8_method_5_code
def yX6_giveCloud : MethodName := ⟨RX6, "giveCloud", "(I)I"⟩
abbrev cX6_refusal : ByteArray := prog_8_method_6_code
def yX6_refusal : MethodName := ⟨RX6, "refusal", "(I)I"⟩
abbrev cX6_mix : ByteArray := prog_8_method_7_code
def yX6_mix : MethodName := ⟨RX6, "mix", "()V"⟩
abbrev cX6_settleOrLift : ByteArray := prog_8_method_8_code
def yX6_settleOrLift : MethodName := ⟨RX6, "settleOrLift", "()V"⟩
abbrev cX6_endHour : ByteArray := prog_8_method_9_code
def yX6_endHour : MethodName := ⟨RX6, "endHour", "(I)V"⟩
abbrev cX6_wasFresher : ByteArray := prog_8_method_10_code
def yX6_wasFresher : MethodName := ⟨RX6, "wasFresher", "(III)Z"⟩
abbrev cX6_answer : ByteArray := prog_8_method_11_code
def yX6_answer : MethodName := ⟨RX6, "answer", "(I)I"⟩
def RX7 : String := "Saltwedge$Surge"
def TX7 : u_T := fun k => match k with
  | 0 => ("Saltwedge$Surge", "from", "I", false)
  | 1 => ("Saltwedge$Surge", "to", "I", false)
  | _ => ("Saltwedge$Surge", "height", "I", false)
def tyX7 : Nat → FieldType := fun k => match k with
  | 0 => .int
  | 1 => .int
  | _ => .int
abbrev wsX70 : List Cond := u_ws RX7 TX7 3
theorem nmX7 : ∀ a, a < 3 → ∀ b, b < 3 → a ≠ b → (TX7 a).2.1 ≠ (TX7 b).2.1 := by decide +kernel
theorem tyX7_ok : ∀ k, k < 3 → parseFieldDescriptor (TX7 k).2.2.1 = some (tyX7 k) := by decide +kernel
abbrev cX7_init : ByteArray := prog_9_method_1_code
def yX7_init : MethodName := ⟨RX7, "<init>", "()V"⟩
def RX8 : String := "Saltwedge$Told"
def TX8 : u_T := fun k => match k with
  | 0 => ("Saltwedge$Told", "rows", "[I", true)
  | _ => ("Saltwedge$Told", "count", "I", false)
def tyX8 : Nat → FieldType := fun k => match k with
  | 0 => .array .int
  | _ => .int
abbrev wsX80 : List Cond := u_ws RX8 TX8 2
theorem nmX8 : ∀ a, a < 2 → ∀ b, b < 2 → a ≠ b → (TX8 a).2.1 ≠ (TX8 b).2.1 := by decide +kernel
theorem tyX8_ok : ∀ k, k < 2 → parseFieldDescriptor (TX8 k).2.2.1 = some (tyX8 k) := by decide +kernel
abbrev cX8_init : ByteArray := prog_10_method_1_code
def yX8_init : MethodName := ⟨RX8, "<init>", "()V"⟩
abbrev cX8_keep : ByteArray := prog_10_method_2_code
def yX8_keep : MethodName := ⟨RX8, "keep", "(IIIIIII)V"⟩
abbrev cX8_part : ByteArray := prog_10_method_3_code
def yX8_part : MethodName := ⟨RX8, "part", "(II)I"⟩
def RX9 : String := "Saltwedge$Turn"
def TX9 : u_T := fun k => match k with
  | 0 => ("Saltwedge$Turn", "period", "I", false)
  | 1 => ("Saltwedge$Turn", "rise", "I", false)
  | 2 => ("Saltwedge$Turn", "range", "I", false)
  | _ => ("Saltwedge$Turn", "phase", "I", false)
def tyX9 : Nat → FieldType := fun k => match k with
  | 0 => .int
  | 1 => .int
  | 2 => .int
  | _ => .int
abbrev wsX90 : List Cond := u_ws RX9 TX9 4
theorem nmX9 : ∀ a, a < 4 → ∀ b, b < 4 → a ≠ b → (TX9 a).2.1 ≠ (TX9 b).2.1 := by decide +kernel
theorem tyX9_ok : ∀ k, k < 4 → parseFieldDescriptor (TX9 k).2.2.1 = some (tyX9 k) := by decide +kernel
abbrev cX9_init : ByteArray := prog_11_method_1_code
def yX9_init : MethodName := ⟨RX9, "<init>", "()V"⟩
abbrev cX9_height : ByteArray := prog_11_method_2_code
def yX9_height : MethodName := ⟨RX9, "height", "(I)I"⟩
def RX10 : String := "Saltwedge"
def TX10 : u_T := fun k => match k with
  | 0 => ("Saltwedge", "live", "LSaltwedge$Mouth;", true)
  | 1 => ("Saltwedge", "anew", "LSaltwedge$Mouth;", true)
  | 2 => ("Saltwedge", "told", "LSaltwedge$Told;", true)
  | 3 => ("Saltwedge", "oysters", "[LSaltwedge$Oysters;", true)
  | _ => ("Saltwedge", "oysterCount", "I", false)
def tyX10 : Nat → FieldType := fun k => match k with
  | 0 => .object "Saltwedge$Mouth"
  | 1 => .object "Saltwedge$Mouth"
  | 2 => .object "Saltwedge$Told"
  | 3 => .array (.object "Saltwedge$Oysters")
  | _ => .int
abbrev wsX100 : List Cond := u_ws RX10 TX10 5
theorem nmX10 : ∀ a, a < 5 → ∀ b, b < 5 → a ≠ b → (TX10 a).2.1 ≠ (TX10 b).2.1 := by decide +kernel
theorem tyX10_ok : ∀ k, k < 5 → parseFieldDescriptor (TX10 k).2.2.1 = some (tyX10 k) := by decide +kernel
abbrev cX10_init : ByteArray := prog_1_method_1_code
def yX10_init : MethodName := ⟨RX10, "<init>", "()V"⟩
abbrev cX10_turn : ByteArray := prog_1_method_2_code
def yX10_turn : MethodName := ⟨RX10, "turn", "(IIII)I"⟩
abbrev cX10_mean : ByteArray := prog_1_method_3_code
def yX10_mean : MethodName := ⟨RX10, "mean", "(I)I"⟩
abbrev cX10_surge : ByteArray := prog_1_method_4_code
def yX10_surge : MethodName := ⟨RX10, "surge", "(III)I"⟩
abbrev cX10_river : ByteArray := prog_1_method_5_code
def yX10_river : MethodName := ⟨RX10, "river", "(II)I"⟩
abbrev cX10_barrier : ByteArray := prog_1_method_6_code
def yX10_barrier : MethodName := ⟨RX10, "barrier", "(II)I"⟩
abbrev cX10_section : ByteArray := prog_1_method_7_code
def yX10_section : MethodName := ⟨RX10, "section", "(IIII)I"⟩
abbrev cX10_intake : ByteArray := prog_1_method_8_code
def yX10_intake : MethodName := ⟨RX10, "intake", "(IIIII)I"⟩
abbrev cX10_oysters : ByteArray := prog_1_method_9_code
def yX10_oysters : MethodName := ⟨RX10, "oysters", "(III)I"⟩
abbrev cX10_permit : ByteArray := prog_1_method_10_code
def yX10_permit : MethodName := ⟨RX10, "permit", "(II)I"⟩
abbrev cX10_whyNot : ByteArray := prog_1_method_11_code
def yX10_whyNot : MethodName := ⟨RX10, "whyNot", "(II)I"⟩
abbrev cX10_dredge : ByteArray := prog_1_method_12_code
def yX10_dredge : MethodName := ⟨RX10, "dredge", "(III)I"⟩
abbrev cX10_pass : ByteArray := prog_1_method_13_code
def yX10_pass : MethodName := ⟨RX10, "pass", "(I)I"⟩
abbrev cX10_now : ByteArray := prog_1_method_14_code
def yX10_now : MethodName := ⟨RX10, "now", "()I"⟩
abbrev cX10_sea : ByteArray := prog_1_method_15_code
def yX10_sea : MethodName := ⟨RX10, "sea", "(I)I"⟩
abbrev cX10_ofSection : ByteArray := prog_1_method_16_code
def yX10_ofSection : MethodName := ⟨RX10, "ofSection", "(II)I"⟩
abbrev cX10_ofSectionAnew : ByteArray := prog_1_method_17_code
def yX10_ofSectionAnew : MethodName := ⟨RX10, "ofSectionAnew", "(II)I"⟩
abbrev cX10_ofIntake : ByteArray := prog_1_method_18_code
def yX10_ofIntake : MethodName := ⟨RX10, "ofIntake", "(II)I"⟩
abbrev cX10_isClosed : ByteArray := prog_1_method_19_code
def yX10_isClosed : MethodName := ⟨RX10, "isClosed", "(I)Z"⟩
abbrev cX10_closures : ByteArray := prog_1_method_20_code
def yX10_closures : MethodName := ⟨RX10, "closures", "()I"⟩
abbrev cX10_closure : ByteArray := prog_1_method_21_code
def yX10_closure : MethodName := ⟨RX10, "closure", "(II)I"⟩
abbrev cX10_intrusion : ByteArray := prog_1_method_22_code
def yX10_intrusion : MethodName := ⟨RX10, "intrusion", "(I)I"⟩
abbrev cX10_window : ByteArray := prog_1_method_23_code
def yX10_window : MethodName := ⟨RX10, "window", "(II)I"⟩
abbrev cX10_sum : ByteArray := prog_1_method_24_code
def yX10_sum : MethodName := ⟨RX10, "sum", "(I)J"⟩
abbrev cX10_within : ByteArray := prog_1_method_25_code
def yX10_within : MethodName := ⟨RX10, "within", "(III)Z"⟩
abbrev cX10_goesWith : ByteArray := prog_1_method_26_code
def yX10_goesWith : MethodName := ⟨RX10, "goesWith", "(III)I"⟩
abbrev cX10_tell : ByteArray := prog_1_method_27_code
def yX10_tell : MethodName := ⟨RX10, "tell", "(IIIIII)V"⟩
def RX11 : String := "SaltwedgeModel"
def TX11 : u_T := fun k => match k with
  | _ => ("", "", "", false)
def tyX11 : Nat → FieldType := fun k => match k with
  | _ => .int
abbrev wsX110 : List Cond := u_ws RX11 TX11 0
theorem nmX11 : ∀ a, a < 0 → ∀ b, b < 0 → a ≠ b → (TX11 a).2.1 ≠ (TX11 b).2.1 := by decide +kernel
theorem tyX11_ok : ∀ k, k < 0 → parseFieldDescriptor (TX11 k).2.2.1 = some (tyX11 k) := by decide +kernel
def RJ9 : String := "java/lang/Math"
def TJ9 : u_T := fun k => match k with
  | _ => ("", "", "", false)
def tyJ9 : Nat → FieldType := fun k => match k with
  | _ => .int
abbrev wsJ90 : List Cond := u_ws RJ9 TJ9 0
theorem nmJ9 : ∀ a, a < 0 → ∀ b, b < 0 → a ≠ b → (TJ9 a).2.1 ≠ (TJ9 b).2.1 := by decide +kernel
theorem tyJ9_ok : ∀ k, k < 0 → parseFieldDescriptor (TJ9 k).2.2.1 = some (tyJ9 k) := by decide +kernel
abbrev cJ9_floorMod_7cf53 : ByteArray := prog_18_method_50_code
def yJ9_floorMod_7cf53 : MethodName := ⟨RJ9, "floorMod", "(II)I"⟩
abbrev cJ9_max_7cf53 : ByteArray := prog_18_method_65_code
def yJ9_max_7cf53 : MethodName := ⟨RJ9, "max", "(II)I"⟩
abbrev cJ9_min_7cf53 : ByteArray := prog_18_method_69_code
def yJ9_min_7cf53 : MethodName := ⟨RJ9, "min", "(II)I"⟩
def RJ0 : String := "java/lang/String"
def TJ0 : u_T := fun k => match k with
  | _ => ("", "", "", false)
def tyJ0 : Nat → FieldType := fun k => match k with
  | _ => .int
abbrev wsJ00 : List Cond := u_ws RJ0 TJ0 0
theorem nmJ0 : ∀ a, a < 0 → ∀ b, b < 0 → a ≠ b → (TJ0 a).2.1 ≠ (TJ0 b).2.1 := by decide +kernel
theorem tyJ0_ok : ∀ k, k < 0 → parseFieldDescriptor (TJ0 k).2.2.1 = some (tyJ0 k) := by decide +kernel
def RL : String := "SaltwedgeLaw"
abbrev cL_draw : ByteArray := method_2_code
def yL_draw : MethodName := ⟨RL, "draw", "([II)I"⟩
abbrev cL_section : ByteArray := method_3_code
def yL_section : MethodName := ⟨RL, "section", "(LSaltwedge;IIII)I"⟩
abbrev cL_acts : ByteArray := method_4_code
def yL_acts : MethodName := ⟨RL, "acts", "(LSaltwedge;IIII)I"⟩
abbrev cL_turn : ByteArray := method_5_code
def yL_turn : MethodName := ⟨RL, "turn", "(LSaltwedge;IIII)I"⟩
abbrev cL_intake : ByteArray := method_6_code
def yL_intake : MethodName := ⟨RL, "intake", "(LSaltwedge;IIIII)I"⟩
abbrev cL_oysters : ByteArray := method_7_code
def yL_oysters : MethodName := ⟨RL, "oysters", "(LSaltwedge;III)I"⟩
abbrev cL_step : ByteArray := method_8_code
def yL_step : MethodName := ⟨RL, "step", "(LSaltwedge;[IIII)Z"⟩
abbrev cL_isTide : ByteArray := method_9_code
def yL_isTide : MethodName := ⟨RL, "isTide", "(LSaltwedge;[II)Z"⟩
abbrev cL_isDredged : ByteArray := method_10_code
def yL_isDredged : MethodName := ⟨RL, "isDredged", "(LSaltwedge;III)Z"⟩
abbrev cL_isWindow : ByteArray := method_11_code
def yL_isWindow : MethodName := ⟨RL, "isWindow", "(LSaltwedge;[III)Z"⟩
abbrev cL_hasPassed : ByteArray := method_12_code
def yL_hasPassed : MethodName := ⟨RL, "hasPassed", "(LSaltwedge;[II)Z"⟩
abbrev cL_isKept : ByteArray := method_13_code
def yL_isKept : MethodName := ⟨RL, "isKept", "(LSaltwedge;[I)Z"⟩
abbrev cL_law : ByteArray := code
def yL_law : MethodName := ⟨RL, "law", "([I)Z"⟩
def wsL_law0_r1 : List Cond := [Cond.classLink RL 11 RX10, Cond.instantiable RX10 5, Cond.initialized RX10, Cond.arrayClass .int, Cond.methodLink RL 125 yX10_init, Cond.instanceMethod yX10_init, Cond.code yX10_init cX10_init 2 none, Cond.methodLink RX10 1 objectInit, Cond.instanceMethod objectInit, Cond.code objectInit ⟨#[0xb1]⟩ 1 none, Cond.classLink RX10 7 RX3, Cond.instantiable RX3 10, Cond.initialized RX3, Cond.fieldLink RX10 10 "Saltwedge" "live" "LSaltwedge$Mouth;", Cond.fieldLink RX10 16 "Saltwedge" "anew" "LSaltwedge$Mouth;", Cond.classLink RX10 19 RX8, Cond.instantiable RX8 2, Cond.initialized RX8, Cond.fieldLink RX10 22 "Saltwedge" "told" "LSaltwedge$Told;", Cond.classLink RX10 26 RX4, Cond.fieldLink RX10 28 "Saltwedge" "oysters" "[LSaltwedge$Oysters;", Cond.instantiable RX4 3, Cond.initialized RX4, Cond.methodLink RX10 9 yX3_init]
def wsL_law0_r2 : List Cond := [Cond.instanceMethod yX3_init, Cond.code yX3_init cX3_init 2 none, Cond.methodLink RX3 3 objectInit, Cond.classLink RX3 9 RX5, Cond.instantiable RX5 6, Cond.initialized RX5, Cond.fieldLink RX3 12 "Saltwedge$Mouth" "sea" "LSaltwedge$Sea;", Cond.classLink RX3 18 RX0, Cond.instantiable RX0 7, Cond.initialized RX0, Cond.fieldLink RX3 21 "Saltwedge$Mouth" "barrier" "LSaltwedge$Barrier;", Cond.classLink RX3 25 RX6, Cond.fieldLink RX3 27 "Saltwedge$Mouth" "sections" "[LSaltwedge$Section;", Cond.classLink RX3 31 RX1, Cond.fieldLink RX3 33 "Saltwedge$Mouth" "intakes" "[LSaltwedge$Intake;", Cond.arrayClass .long, Cond.fieldLink RX3 37 "Saltwedge$Mouth" "sums" "[J", Cond.instantiable RX6 8, Cond.initialized RX6, Cond.instantiable RX1 10, Cond.initialized RX1, Cond.methodLink RX3 11 yX5_init, Cond.instanceMethod yX5_init, Cond.code yX5_init cX5_init 2 none]
def wsL_law0_r3 : List Cond := [Cond.methodLink RX5 3 objectInit, Cond.classLink RX5 9 RX9, Cond.fieldLink RX5 11 "Saltwedge$Sea" "turns" "[LSaltwedge$Turn;", Cond.classLink RX5 17 RX7, Cond.fieldLink RX5 19 "Saltwedge$Sea" "surges" "[LSaltwedge$Surge;", Cond.fieldLink RX5 23 "Saltwedge$Sea" "past" "[I", Cond.fieldLink RX5 27 "Saltwedge$Sea" "mean" "I", Cond.instantiable RX9 4, Cond.initialized RX9, Cond.instantiable RX7 3, Cond.initialized RX7, Cond.instanceMethod yX9_init, Cond.code yX9_init cX9_init 1 none, Cond.methodLink RX9 1 objectInit, Cond.instanceMethod yX7_init, Cond.code yX7_init cX7_init 1 none, Cond.methodLink RX7 1 objectInit, Cond.instanceMethod yX0_init, Cond.code yX0_init cX0_init 1 none, Cond.methodLink RX0 3 objectInit, Cond.fieldLink RX0 9 "Saltwedge$Barrier" "first" "[I", Cond.fieldLink RX0 15 "Saltwedge$Barrier" "last" "[I", Cond.arrayClass .boolean, Cond.fieldLink RX0 18 "Saltwedge$Barrier" "right" "[Z"]
def wsL_law0_r4 : List Cond := [Cond.fieldLink RX0 22 "Saltwedge$Barrier" "mark" "I", Cond.instanceMethod yX6_init, Cond.code yX6_init cX6_init 1 none, Cond.methodLink RX6 3 objectInit, Cond.classLink RX6 9 RX2, Cond.instantiable RX2 2, Cond.initialized RX2, Cond.fieldLink RX6 12 "Saltwedge$Section" "up" "LSaltwedge$Layer;", Cond.fieldLink RX6 18 "Saltwedge$Section" "low" "LSaltwedge$Layer;", Cond.fieldLink RX6 21 "Saltwedge$Section" "lowAtEnd" "[I", Cond.fieldLink RX6 25 "Saltwedge$Section" "area" "I", Cond.instanceMethod yX2_init, Cond.code yX2_init cX2_init 1 none, Cond.methodLink RX2 1 objectInit, Cond.instanceMethod yX1_init, Cond.code yX1_init cX1_init 1 none, Cond.methodLink RX1 3 objectInit, Cond.instanceMethod yX8_init, Cond.code yX8_init cX8_init 1 none, Cond.methodLink RX8 3 objectInit, Cond.fieldLink RX8 11 "Saltwedge$Told" "rows" "[I", Cond.instanceMethod yX4_init, Cond.code yX4_init cX4_init 1 none, Cond.methodLink RX4 1 objectInit]
def wsL_law0_r5 : List Cond := [Cond.methodLink RL 117 yX10_now, Cond.instanceMethod yX10_now, Cond.selects RX10 yX10_now yX10_now, Cond.code yX10_now cX10_now 1 (some .int), Cond.fieldLink RX10 70 "Saltwedge$Mouth" "now" "I", Cond.methodLink RL 64 yX10_sea, Cond.instanceMethod yX10_sea, Cond.selects RX10 yX10_sea yX10_sea, Cond.code yX10_sea cX10_sea 2 (some .int), Cond.classLink RX10 37 "java/lang/IllegalArgumentException", Cond.initialized "java/lang/IllegalArgumentException", Cond.methodLink RX10 33 yX10_within, Cond.static yX10_within, Cond.code yX10_within cX10_within 3 (some .boolean), Cond.methodLink RX10 168 yX3_seaOf, Cond.instanceMethod yX3_seaOf, Cond.selects RX3 yX3_seaOf yX3_seaOf, Cond.code yX3_seaOf cX3_seaOf 2 (some .int), Cond.fieldLink RX3 60 "Saltwedge$Mouth" "now" "I", Cond.fieldLink RX3 111 "Saltwedge$Sea" "past" "[I", Cond.methodLink RX3 115 yX5_foretold, Cond.instanceMethod yX5_foretold, Cond.selects RX5 yX5_foretold yX5_foretold, Cond.code yX5_foretold cX5_foretold 4 (some .int)]
def wsL_law0_r6 : List Cond := [Cond.fieldLink RX5 33 "Saltwedge$Sea" "turnCount" "I", Cond.fieldLink RX5 36 "Saltwedge$Sea" "surgeCount" "I", Cond.fieldLink RX5 51 "Saltwedge$Surge" "from" "I", Cond.fieldLink RX5 54 "Saltwedge$Surge" "to" "I", Cond.fieldLink RX5 57 "Saltwedge$Surge" "height" "I", Cond.methodLink RX5 60 yX9_height, Cond.instanceMethod yX9_height, Cond.selects RX9 yX9_height yX9_height, Cond.code yX9_height cX9_height 3 (some .int), Cond.fieldLink RX9 7 "Saltwedge$Turn" "rise" "I", Cond.fieldLink RX9 13 "Saltwedge$Turn" "period" "I", Cond.fieldLink RX9 16 "Saltwedge$Turn" "phase" "I", Cond.fieldLink RX9 19 "Saltwedge$Turn" "range" "I", Cond.methodLink RL 113 yX10_closures, Cond.instanceMethod yX10_closures, Cond.selects RX10 yX10_closures yX10_closures, Cond.code yX10_closures cX10_closures 1 (some .int), Cond.fieldLink RX10 87 "Saltwedge$Mouth" "barrier" "LSaltwedge$Barrier;", Cond.fieldLink RX10 203 "Saltwedge$Barrier" "closureCount" "I", Cond.methodLink RL 126 yX10_intrusion, Cond.instanceMethod yX10_intrusion, Cond.selects RX10 yX10_intrusion yX10_intrusion, Cond.code yX10_intrusion cX10_intrusion 3 (some .int), Cond.fieldLink RX10 100 "Saltwedge$Mouth" "sectionCount" "I"]
def wsL_law0_r7 : List Cond := [Cond.fieldLink RX10 141 "Saltwedge$Mouth" "sections" "[LSaltwedge$Section;", Cond.fieldLink RX10 212 "Saltwedge$Section" "low" "LSaltwedge$Layer;", Cond.methodLink RX10 216 yX2_salinity, Cond.instanceMethod yX2_salinity, Cond.selects RX2 yX2_salinity yX2_salinity, Cond.code yX2_salinity cX2_salinity 1 (some .int), Cond.fieldLink RX2 7 "Saltwedge$Layer" "water" "I", Cond.fieldLink RX2 13 "Saltwedge$Layer" "salt" "I", Cond.methodLink RL 109 yX10_sum, Cond.instanceMethod yX10_sum, Cond.selects RX10 yX10_sum yX10_sum, Cond.code yX10_sum cX10_sum 2 (some .long), Cond.fieldLink RX10 232 "Saltwedge$Mouth" "sums" "[J", Cond.methodLink RL 129 yL_draw, Cond.static yL_draw, Cond.initialized RL, Cond.code yL_draw cL_draw 2 (some .int), Cond.constant RL 7 (2147483647), Cond.constant RL 8 (104729), Cond.constant RL 9 (65521), Cond.methodLink RL 133 yL_step, Cond.static yL_step, Cond.code yL_step cL_step 19 (some .boolean), Cond.methodLink RL 47 yL_section]
def wsL_law0_r8 : List Cond := [Cond.static yL_section, Cond.codeWith yL_section cL_section 6 (some .int) [(0, 9, 10, 16)], Cond.classLink RL 16 "java/lang/IllegalStateException", Cond.methodLink RL 10 yX10_section, Cond.instanceMethod yX10_section, Cond.selects RX10 yX10_section yX10_section, Cond.code yX10_section cX10_section 6 (some .int), Cond.classLink RX10 56 "java/lang/IllegalStateException", Cond.initialized "java/lang/IllegalStateException", Cond.methodLink RX10 61 yX10_tell, Cond.instanceMethod yX10_tell, Cond.selects RX10 yX10_tell yX10_tell, Cond.code yX10_tell cX10_tell 7 none, Cond.methodLink RX10 236 yX8_keep, Cond.instanceMethod yX8_keep, Cond.selects RX8 yX8_keep yX8_keep, Cond.code yX8_keep cX8_keep 9 none, Cond.fieldLink RX8 15 "Saltwedge$Told" "count" "I", Cond.methodLink RX10 186 yX3_hear, Cond.instanceMethod yX3_hear, Cond.selects RX3 yX3_hear yX3_hear, Cond.code yX3_hear cX3_hear 7 none, Cond.fieldLink RX3 67 "Saltwedge$Sea" "mean" "I", Cond.fieldLink RX3 54 "Saltwedge$Mouth" "riverWater" "I"]
def wsL_law0_r9 : List Cond := [Cond.fieldLink RX3 57 "Saltwedge$Mouth" "riverSilt" "I", Cond.fieldLink RX3 74 "Saltwedge$Barrier" "mark" "I", Cond.fieldLink RX3 77 "Saltwedge$Barrier" "lead" "I", Cond.methodLink RX3 63 yX5_addTurn, Cond.instanceMethod yX5_addTurn, Cond.selects RX5 yX5_addTurn yX5_addTurn, Cond.code yX5_addTurn cX5_addTurn 6 none, Cond.fieldLink RX5 39 "Saltwedge$Turn" "period" "I", Cond.fieldLink RX5 42 "Saltwedge$Turn" "rise" "I", Cond.fieldLink RX5 45 "Saltwedge$Turn" "range" "I", Cond.fieldLink RX5 48 "Saltwedge$Turn" "phase" "I", Cond.methodLink RX3 70 yX5_addSurge, Cond.instanceMethod yX5_addSurge, Cond.selects RX5 yX5_addSurge yX5_addSurge, Cond.code yX5_addSurge cX5_addSurge 5 none, Cond.methodLink RX3 80 yX3_addSection, Cond.instanceMethod yX3_addSection, Cond.selects RX3 yX3_addSection yX3_addSection, Cond.code yX3_addSection cX3_addSection 5 none, Cond.fieldLink RX3 47 "Saltwedge$Mouth" "sectionCount" "I", Cond.methodLink RX3 94 yX6_begin, Cond.instanceMethod yX6_begin, Cond.selects RX6 yX6_begin yX6_begin, Cond.code yX6_begin cX6_begin 5 none]
def wsL_law0_r10 : List Cond := [Cond.fieldLink RX6 29 "Saltwedge$Section" "mud" "I", Cond.fieldLink RX6 36 "Saltwedge$Section" "cloud" "I", Cond.fieldLink RX6 39 "Saltwedge$Section" "run" "I", Cond.fieldLink RX6 42 "Saltwedge$Section" "permit" "I", Cond.methodLink RX6 32 yX2_begin, Cond.instanceMethod yX2_begin, Cond.selects RX2 yX2_begin yX2_begin, Cond.code yX2_begin cX2_begin 2 none, Cond.methodLink RX3 83 yX3_addIntake, Cond.instanceMethod yX3_addIntake, Cond.selects RX3 yX3_addIntake yX3_addIntake, Cond.code yX3_addIntake cX3_addIntake 6 none, Cond.fieldLink RX3 51 "Saltwedge$Mouth" "intakeCount" "I", Cond.methodLink RX3 96 yX1_begin, Cond.instanceMethod yX1_begin, Cond.selects RX1 yX1_begin yX1_begin, Cond.code yX1_begin cX1_begin 6 none, Cond.fieldLink RX1 9 "Saltwedge$Intake" "section" "I", Cond.fieldLink RX1 15 "Saltwedge$Intake" "rate" "I", Cond.fieldLink RX1 18 "Saltwedge$Intake" "grain" "I", Cond.fieldLink RX1 21 "Saltwedge$Intake" "room" "I", Cond.fieldLink RX1 24 "Saltwedge$Intake" "use" "I", Cond.fieldLink RX1 27 "Saltwedge$Intake" "held" "I", Cond.fieldLink RX1 30 "Saltwedge$Intake" "taken" "I"]
def wsL_law0_r11 : List Cond := [Cond.fieldLink RX1 33 "Saltwedge$Intake" "lacking" "I", Cond.fieldLink RX1 36 "Saltwedge$Intake" "stoppedHours" "I", Cond.fieldLink RX1 39 "Saltwedge$Intake" "stopped" "Z", Cond.methodLink RX3 87 yX3_setPermit, Cond.instanceMethod yX3_setPermit, Cond.selects RX3 yX3_setPermit yX3_setPermit, Cond.code yX3_setPermit cX3_setPermit 3 none, Cond.fieldLink RX3 102 "Saltwedge$Section" "permit" "I", Cond.methodLink RX3 98 yX3_hasSection, Cond.instanceMethod yX3_hasSection, Cond.selects RX3 yX3_hasSection yX3_hasSection, Cond.code yX3_hasSection cX3_hasSection 2 (some .boolean), Cond.methodLink RX3 91 yX3_moveMud, Cond.instanceMethod yX3_moveMud, Cond.selects RX3 yX3_moveMud yX3_moveMud, Cond.code yX3_moveMud cX3_moveMud 4 none, Cond.fieldLink RX3 105 "Saltwedge$Section" "mud" "I", Cond.fieldLink RX3 108 "Saltwedge$Section" "cloud" "I", Cond.methodLink RL 52 yX10_ofSection, Cond.instanceMethod yX10_ofSection, Cond.selects RX10 yX10_ofSection yX10_ofSection, Cond.code yX10_ofSection cX10_ofSection 3 (some .int), Cond.classLink RX10 109 "java/lang/IndexOutOfBoundsException", Cond.initialized "java/lang/IndexOutOfBoundsException"]
def wsL_law0_r12 : List Cond := [Cond.methodLink RX10 105 yX3_hasSection, Cond.methodLink RX10 173 yX6_answer, Cond.instanceMethod yX6_answer, Cond.selects RX6 yX6_answer yX6_answer, Cond.code yX6_answer cX6_answer 2 (some .int), Cond.fieldLink RX6 49 "Saltwedge$Layer" "water" "I", Cond.fieldLink RX6 66 "Saltwedge$Layer" "salt" "I", Cond.methodLink RX6 78 yX6_level, Cond.instanceMethod yX6_level, Cond.selects RX6 yX6_level yX6_level, Cond.code yX6_level cX6_level 1 (some .int), Cond.methodLink RX6 45 yX6_bed, Cond.instanceMethod yX6_bed, Cond.selects RX6 yX6_bed yX6_bed, Cond.code yX6_bed cX6_bed 1 (some .int), Cond.methodLink RX6 72 yX2_salinity, Cond.methodLink RL 55 yL_turn, Cond.static yL_turn, Cond.codeWith yL_turn cL_turn 6 (some .int) [(0, 9, 10, 16)], Cond.methodLink RL 37 yX10_turn, Cond.instanceMethod yX10_turn, Cond.selects RX10 yX10_turn yX10_turn, Cond.code yX10_turn cX10_turn 6 (some .int), Cond.fieldLink RX10 46 "Saltwedge$Mouth" "sea" "LSaltwedge$Sea;"]
def wsL_law0_r13 : List Cond := [Cond.fieldLink RX10 50 "Saltwedge$Sea" "turnCount" "I", Cond.methodLink RL 57 yL_isTide, Cond.static yL_isTide, Cond.code yL_isTide cL_isTide 3 (some .boolean), Cond.methodLink RL 61 yX10_mean, Cond.instanceMethod yX10_mean, Cond.selects RX10 yX10_mean yX10_mean, Cond.code yX10_mean cX10_mean 3 (some .int), Cond.fieldLink RX10 67 "Saltwedge$Sea" "mean" "I", Cond.methodLink RL 67 yL_acts, Cond.static yL_acts, Cond.codeWith yL_acts cL_acts 6 (some .int) [(0, 51, 52, 16), (0, 51, 58, 33), (0, 51, 64, 35)], Cond.classLink RL 33 "java/lang/IllegalArgumentException", Cond.classLink RL 35 "java/lang/IndexOutOfBoundsException", Cond.methodLink RL 18 yX10_dredge, Cond.instanceMethod yX10_dredge, Cond.selects RX10 yX10_dredge yX10_dredge, Cond.code yX10_dredge cX10_dredge 4 (some .int), Cond.fieldLink RX10 145 "Saltwedge$Section" "permit" "I", Cond.methodLink RX10 150 yX6_refusal, Cond.instanceMethod yX6_refusal, Cond.selects RX6 yX6_refusal yX6_refusal, Cond.code yX6_refusal cX6_refusal 2 (some .int), Cond.methodLink RL 22 yX10_window]
def wsL_law0_r14 : List Cond := [Cond.instanceMethod yX10_window, Cond.selects RX10 yX10_window yX10_window, Cond.code yX10_window cX10_window 3 (some .int), Cond.methodLink RX10 226 yX6_bed, Cond.methodLink RX10 229 yX3_firstHourAt, Cond.instanceMethod yX3_firstHourAt, Cond.selects RX3 yX3_firstHourAt yX3_firstHourAt, Cond.code yX3_firstHourAt cX3_firstHourAt 5 (some .int), Cond.methodLink RL 26 yX10_pass, Cond.instanceMethod yX10_pass, Cond.selects RX10 yX10_pass yX10_pass, Cond.code yX10_pass cX10_pass 2 (some .int), Cond.methodLink RX10 162 yX3_goOnTo, Cond.instanceMethod yX3_goOnTo, Cond.selects RX3 yX3_goOnTo yX3_goOnTo, Cond.code yX3_goOnTo cX3_goOnTo 4 none, Cond.methodLink RX3 119 Lib.Math.min.name, Cond.static Lib.Math.min.name, Cond.initialized "java/lang/Math", Cond.code Lib.Math.min.name Lib.Math.min.code 2 (some .int), Cond.methodLink RX3 125 yX3_letHourGoBy, Cond.instanceMethod yX3_letHourGoBy, Cond.selects RX3 yX3_letHourGoBy yX3_letHourGoBy, Cond.code yX3_letHourGoBy cX3_letHourGoBy 3 none]
def wsL_law0_r15 : List Cond := [Cond.fieldLink RX3 128 "Saltwedge$Section" "run" "I", Cond.fieldLink RX3 135 "Saltwedge$Barrier" "closed" "Z", Cond.methodLink RX3 131 yX0_look, Cond.instanceMethod yX0_look, Cond.selects RX0 yX0_look yX0_look, Cond.code yX0_look cX0_look 5 none, Cond.fieldLink RX0 32 "Saltwedge$Barrier" "closed" "Z", Cond.fieldLink RX0 29 "Saltwedge$Barrier" "lead" "I", Cond.fieldLink RX0 26 "Saltwedge$Barrier" "closureCount" "I", Cond.methodLink RX0 36 yX5_foretoldAbove, Cond.instanceMethod yX5_foretoldAbove, Cond.selects RX5 yX5_foretoldAbove yX5_foretoldAbove, Cond.code yX5_foretoldAbove cX5_foretoldAbove 5 (some .boolean), Cond.methodLink RX5 63 yX5_foretold, Cond.methodLink RX0 42 yX5_foretold, Cond.methodLink RX3 139 yX3_meetSea, Cond.instanceMethod yX3_meetSea, Cond.selects RX3 yX3_meetSea yX3_meetSea, Cond.code yX3_meetSea cX3_meetSea 5 none, Cond.fieldLink RX3 174 "Saltwedge$Section" "area" "I", Cond.fieldLink RX3 177 "Saltwedge$Section" "low" "LSaltwedge$Layer;", Cond.fieldLink RX3 186 "Saltwedge$Section" "up" "LSaltwedge$Layer;", Cond.fieldLink RX3 189 "Saltwedge$Layer" "water" "I", Cond.methodLink RX3 170 yX6_level]
def wsL_law0_r16 : List Cond := [Cond.methodLink RX3 181 yX2_takeIn, Cond.instanceMethod yX2_takeIn, Cond.selects RX2 yX2_takeIn yX2_takeIn, Cond.code yX2_takeIn cX2_takeIn 3 none, Cond.methodLink RX3 192 yX6_giveCloud, Cond.instanceMethod yX6_giveCloud, Cond.selects RX6 yX6_giveCloud yX6_giveCloud, Cond.code yX6_giveCloud cX6_giveCloud 3 (some .int), Cond.static yX10_goesWith, Cond.code yX10_goesWith cX10_goesWith 3 (some .int), Cond.methodLink RX3 195 yX2_giveOut, Cond.instanceMethod yX2_giveOut, Cond.selects RX2 yX2_giveOut yX2_giveOut, Cond.code yX2_giveOut cX2_giveOut 3 (some .int), Cond.methodLink RX3 143 yX3_meetRiver, Cond.instanceMethod yX3_meetRiver, Cond.selects RX3 yX3_meetRiver yX3_meetRiver, Cond.code yX3_meetRiver cX3_meetRiver 2 none, Cond.methodLink RX3 147 yX3_flowByLevels, Cond.instanceMethod yX3_flowByLevels, Cond.selects RX3 yX3_flowByLevels yX3_flowByLevels, Cond.code yX3_flowByLevels cX3_flowByLevels 6 none, Cond.methodLink RX3 198 yX3_flowInLow, Cond.instanceMethod yX3_flowInLow]
def wsL_law0_r17 : List Cond := [Cond.selects RX3 yX3_flowInLow yX3_flowInLow, Cond.code yX3_flowInLow cX3_flowInLow 5 none, Cond.methodLink RX3 202 yX3_flowInUp, Cond.instanceMethod yX3_flowInUp, Cond.selects RX3 yX3_flowInUp yX3_flowInUp, Cond.code yX3_flowInUp cX3_flowInUp 6 none, Cond.methodLink RX3 151 yX3_creep, Cond.instanceMethod yX3_creep, Cond.selects RX3 yX3_creep yX3_creep, Cond.code yX3_creep cX3_creep 4 none, Cond.methodLink RX3 205 yX2_salinity, Cond.methodLink RX3 154 yX6_mix, Cond.instanceMethod yX6_mix, Cond.selects RX6 yX6_mix yX6_mix, Cond.code yX6_mix cX6_mix 3 none, Cond.methodLink RX6 56 Lib.Math.min.name, Cond.methodLink RX6 62 yX2_saltWith, Cond.instanceMethod yX2_saltWith, Cond.selects RX2 yX2_saltWith yX2_saltWith, Cond.code yX2_saltWith cX2_saltWith 2 (some .int), Cond.methodLink RX3 157 yX6_settleOrLift, Cond.instanceMethod yX6_settleOrLift, Cond.selects RX6 yX6_settleOrLift yX6_settleOrLift, Cond.code yX6_settleOrLift cX6_settleOrLift 2 none]
def wsL_law0_r18 : List Cond := [Cond.methodLink RX3 160 yX3_serveIntakes, Cond.instanceMethod yX3_serveIntakes, Cond.selects RX3 yX3_serveIntakes yX3_serveIntakes, Cond.code yX3_serveIntakes cX3_serveIntakes 3 none, Cond.fieldLink RX3 208 "Saltwedge$Intake" "section" "I", Cond.methodLink RX3 211 yX1_take, Cond.instanceMethod yX1_take, Cond.selects RX1 yX1_take yX1_take, Cond.code yX1_take cX1_take 5 none, Cond.fieldLink RX1 43 "Saltwedge$Layer" "water" "I", Cond.methodLink RX1 52 Lib.Math.min.name, Cond.methodLink RX1 48 yX2_salinity, Cond.methodLink RX1 58 yX2_giveOut, Cond.methodLink RX3 215 yX1_supply, Cond.instanceMethod yX1_supply, Cond.selects RX1 yX1_supply yX1_supply, Cond.code yX1_supply cX1_supply 2 none, Cond.methodLink RX3 163 yX6_endHour, Cond.instanceMethod yX6_endHour, Cond.selects RX6 yX6_endHour yX6_endHour, Cond.code yX6_endHour cX6_endHour 2 none, Cond.methodLink RX6 69 yJ9_floorMod_7cf53, Cond.static yJ9_floorMod_7cf53, Cond.initialized RJ9]
def wsL_law0_r19 : List Cond := [Cond.code yJ9_floorMod_7cf53 cJ9_floorMod_7cf53 3 (some .int), Cond.methodLink RX3 167 yX5_keep, Cond.instanceMethod yX5_keep, Cond.selects RX5 yX5_keep yX5_keep, Cond.code yX5_keep cX5_keep 3 none, Cond.methodLink RL 30 yX10_surge, Cond.instanceMethod yX10_surge, Cond.selects RX10 yX10_surge yX10_surge, Cond.code yX10_surge cX10_surge 4 (some .int), Cond.fieldLink RX10 75 "Saltwedge$Sea" "surgeCount" "I", Cond.methodLink RL 70 yX10_river, Cond.instanceMethod yX10_river, Cond.selects RX10 yX10_river yX10_river, Cond.code yX10_river cX10_river 4 (some .int), Cond.fieldLink RX10 82 "Saltwedge$Mouth" "riverWater" "I", Cond.methodLink RL 73 yX10_barrier, Cond.instanceMethod yX10_barrier, Cond.selects RX10 yX10_barrier yX10_barrier, Cond.code yX10_barrier cX10_barrier 4 (some .int), Cond.fieldLink RX10 91 "Saltwedge$Barrier" "mark" "I", Cond.methodLink RL 76 yL_intake, Cond.static yL_intake, Cond.codeWith yL_intake cL_intake 7 (some .int) [(0, 11, 12, 16)], Cond.methodLink RL 40 yX10_intake]
def wsL_law0_r20 : List Cond := [Cond.instanceMethod yX10_intake, Cond.selects RX10 yX10_intake yX10_intake, Cond.code yX10_intake cX10_intake 7 (some .int), Cond.fieldLink RX10 118 "Saltwedge$Mouth" "intakeCount" "I", Cond.methodLink RL 79 yX10_ofIntake, Cond.instanceMethod yX10_ofIntake, Cond.selects RX10 yX10_ofIntake yX10_ofIntake, Cond.code yX10_ofIntake cX10_ofIntake 3 (some .int), Cond.fieldLink RX10 191 "Saltwedge$Mouth" "intakes" "[LSaltwedge$Intake;", Cond.methodLink RX10 195 yX1_answer, Cond.instanceMethod yX1_answer, Cond.selects RX1 yX1_answer yX1_answer, Cond.code yX1_answer cX1_answer 2 (some .int), Cond.methodLink RL 82 yL_oysters, Cond.static yL_oysters, Cond.codeWith yL_oysters cL_oysters 5 (some .int) [(0, 7, 8, 16)], Cond.methodLink RL 44 yX10_oysters, Cond.instanceMethod yX10_oysters, Cond.selects RX10 yX10_oysters yX10_oysters, Cond.code yX10_oysters cX10_oysters 5 (some .int), Cond.fieldLink RX10 125 "Saltwedge" "oysterCount" "I", Cond.fieldLink RX10 130 "Saltwedge$Oysters" "section" "I", Cond.fieldLink RX10 133 "Saltwedge$Oysters" "grain" "I", Cond.fieldLink RX10 136 "Saltwedge$Oysters" "hours" "I"]
def wsL_law0_r21 : List Cond := [Cond.methodLink RL 85 yX10_isClosed, Cond.instanceMethod yX10_isClosed, Cond.selects RX10 yX10_isClosed yX10_isClosed, Cond.code yX10_isClosed cX10_isClosed 3 (some .boolean), Cond.methodLink RX10 200 yX6_wasFresher, Cond.instanceMethod yX6_wasFresher, Cond.selects RX6 yX6_wasFresher yX6_wasFresher, Cond.code yX6_wasFresher cX6_wasFresher 5 (some .boolean), Cond.methodLink RX6 75 Lib.Math.max.name, Cond.static Lib.Math.max.name, Cond.code Lib.Math.max.name Lib.Math.max.code 2 (some .int), Cond.methodLink RL 89 yX10_permit, Cond.instanceMethod yX10_permit, Cond.selects RX10 yX10_permit yX10_permit, Cond.code yX10_permit cX10_permit 4 (some .int), Cond.methodLink RL 92 yX10_whyNot, Cond.instanceMethod yX10_whyNot, Cond.selects RX10 yX10_whyNot yX10_whyNot, Cond.code yX10_whyNot cX10_whyNot 3 (some .int), Cond.methodLink RL 95 yL_isDredged, Cond.static yL_isDredged, Cond.code yL_isDredged cL_isDredged 10 (some .boolean), Cond.methodLink RL 99 yL_isWindow, Cond.static yL_isWindow]
def wsL_law0_r22 : List Cond := [Cond.code yL_isWindow cL_isWindow 8 (some .boolean), Cond.methodLink RL 103 yX10_ofSectionAnew, Cond.instanceMethod yX10_ofSectionAnew, Cond.selects RX10 yX10_ofSectionAnew yX10_ofSectionAnew, Cond.code yX10_ofSectionAnew cX10_ofSectionAnew 4 (some .int), Cond.fieldLink RX10 179 "Saltwedge$Told" "count" "I", Cond.methodLink RX10 176 yX3_begin, Cond.instanceMethod yX3_begin, Cond.selects RX3 yX3_begin yX3_begin, Cond.code yX3_begin cX3_begin 2 none, Cond.methodLink RX3 43 yX5_begin, Cond.instanceMethod yX5_begin, Cond.selects RX5 yX5_begin yX5_begin, Cond.code yX5_begin cX5_begin 1 none, Cond.methodLink RX3 46 yX0_begin, Cond.instanceMethod yX0_begin, Cond.selects RX0 yX0_begin yX0_begin, Cond.code yX0_begin cX0_begin 1 none, Cond.methodLink RX10 182 yX8_part, Cond.instanceMethod yX8_part, Cond.selects RX8 yX8_part yX8_part, Cond.code yX8_part cX8_part 4 (some .int), Cond.methodLink RL 106 yL_hasPassed, Cond.static yL_hasPassed]
def wsL_law0_r23 : List Cond := [Cond.code yL_hasPassed cL_hasPassed 9 (some .boolean), Cond.methodLink RL 120 yX10_closure, Cond.instanceMethod yX10_closure, Cond.selects RX10 yX10_closure yX10_closure, Cond.code yX10_closure cX10_closure 3 (some .int), Cond.methodLink RX10 208 yX0_answer, Cond.instanceMethod yX0_answer, Cond.selects RX0 yX0_answer yX0_answer, Cond.code yX0_answer cX0_answer 3 (some .int), Cond.methodLink RL 137 yL_isKept, Cond.static yL_isKept, Cond.code yL_isKept cL_isKept 12 (some .boolean), Cond.constantLong RL 123 (30)]
def wsL_law0 : List Cond := (wsL_law0_r1 ++ (wsL_law0_r2 ++ (wsL_law0_r3 ++ (wsL_law0_r4 ++ (wsL_law0_r5 ++ (wsL_law0_r6 ++ (wsL_law0_r7 ++ (wsL_law0_r8 ++ (wsL_law0_r9 ++ (wsL_law0_r10 ++ (wsL_law0_r11 ++ (wsL_law0_r12 ++ (wsL_law0_r13 ++ (wsL_law0_r14 ++ (wsL_law0_r15 ++ (wsL_law0_r16 ++ (wsL_law0_r17 ++ (wsL_law0_r18 ++ (wsL_law0_r19 ++ (wsL_law0_r20 ++ (wsL_law0_r21 ++ (wsL_law0_r22 ++ wsL_law0_r23)))))))))))))))))))))) ++ wsX100 ++ wsX30 ++ wsX80 ++ wsX40 ++ wsX50 ++ wsX00 ++ wsX60 ++ wsX10 ++ wsX90 ++ wsX70 ++ wsX20 ++ ([] : List Cond)
def wsL_law : List Cond := wsL_law0 ++ (vx_atS RX10 41 "java/lang/IllegalArgumentException" ["java/lang/RuntimeException", "java/lang/Exception"]).filter goodWord ++ (vx_atS RX10 60 "java/lang/IllegalStateException" ["java/lang/RuntimeException", "java/lang/Exception"]).filter goodWord ++ (vx_atS RX10 113 "java/lang/IndexOutOfBoundsException" ["java/lang/RuntimeException", "java/lang/Exception"]).filter goodWord
theorem inlX0 : ∀ w ∈ wsX00, w ∈ wsL_law := fun _ h => List.mem_append_left _ (List.mem_append_left _ (List.mem_append_left _ (List.mem_append_left _ (List.mem_append_left _ (List.mem_append_left _ (List.mem_append_left _ (List.mem_append_left _ (List.mem_append_left _ (List.mem_append_right _ h)))))))))
theorem inlX1 : ∀ w ∈ wsX10, w ∈ wsL_law := fun _ h => List.mem_append_left _ (List.mem_append_left _ (List.mem_append_left _ (List.mem_append_left _ (List.mem_append_left _ (List.mem_append_left _ (List.mem_append_left _ (List.mem_append_right _ h)))))))
theorem inlX2 : ∀ w ∈ wsX20, w ∈ wsL_law := fun _ h => List.mem_append_left _ (List.mem_append_left _ (List.mem_append_left _ (List.mem_append_left _ (List.mem_append_right _ h))))
theorem inlX3 : ∀ w ∈ wsX30, w ∈ wsL_law := fun _ h => List.mem_append_left _ (List.mem_append_left _ (List.mem_append_left _ (List.mem_append_left _ (List.mem_append_left _ (List.mem_append_left _ (List.mem_append_left _ (List.mem_append_left _ (List.mem_append_left _ (List.mem_append_left _ (List.mem_append_left _ (List.mem_append_left _ (List.mem_append_left _ (List.mem_append_right _ h)))))))))))))
theorem inlX4 : ∀ w ∈ wsX40, w ∈ wsL_law := fun _ h => List.mem_append_left _ (List.mem_append_left _ (List.mem_append_left _ (List.mem_append_left _ (List.mem_append_left _ (List.mem_append_left _ (List.mem_append_left _ (List.mem_append_left _ (List.mem_append_left _ (List.mem_append_left _ (List.mem_append_left _ (List.mem_append_right _ h)))))))))))
theorem inlX5 : ∀ w ∈ wsX50, w ∈ wsL_law := fun _ h => List.mem_append_left _ (List.mem_append_left _ (List.mem_append_left _ (List.mem_append_left _ (List.mem_append_left _ (List.mem_append_left _ (List.mem_append_left _ (List.mem_append_left _ (List.mem_append_left _ (List.mem_append_left _ (List.mem_append_right _ h))))))))))
theorem inlX6 : ∀ w ∈ wsX60, w ∈ wsL_law := fun _ h => List.mem_append_left _ (List.mem_append_left _ (List.mem_append_left _ (List.mem_append_left _ (List.mem_append_left _ (List.mem_append_left _ (List.mem_append_left _ (List.mem_append_left _ (List.mem_append_right _ h))))))))
theorem inlX7 : ∀ w ∈ wsX70, w ∈ wsL_law := fun _ h => List.mem_append_left _ (List.mem_append_left _ (List.mem_append_left _ (List.mem_append_left _ (List.mem_append_left _ (List.mem_append_right _ h)))))
theorem inlX8 : ∀ w ∈ wsX80, w ∈ wsL_law := fun _ h => List.mem_append_left _ (List.mem_append_left _ (List.mem_append_left _ (List.mem_append_left _ (List.mem_append_left _ (List.mem_append_left _ (List.mem_append_left _ (List.mem_append_left _ (List.mem_append_left _ (List.mem_append_left _ (List.mem_append_left _ (List.mem_append_left _ (List.mem_append_right _ h))))))))))))
theorem inlX9 : ∀ w ∈ wsX90, w ∈ wsL_law := fun _ h => List.mem_append_left _ (List.mem_append_left _ (List.mem_append_left _ (List.mem_append_left _ (List.mem_append_left _ (List.mem_append_left _ (List.mem_append_right _ h))))))
theorem inlX10 : ∀ w ∈ wsX100, w ∈ wsL_law := fun _ h => List.mem_append_left _ (List.mem_append_left _ (List.mem_append_left _ (List.mem_append_left _ (List.mem_append_left _ (List.mem_append_left _ (List.mem_append_left _ (List.mem_append_left _ (List.mem_append_left _ (List.mem_append_left _ (List.mem_append_left _ (List.mem_append_left _ (List.mem_append_left _ (List.mem_append_left _ (List.mem_append_right _ h))))))))))))))
abbrev vwCl : List vw_C := [(RX0, TX0, 7), (RX1, TX1, 10), (RX2, TX2, 2), (RX3, TX3, 10), (RX4, TX4, 3), (RX5, TX5, 6), (RX6, TX6, 8), (RX7, TX7, 3), (RX8, TX8, 2), (RX9, TX9, 4), (RX10, TX10, 5)]


theorem u_0in : ∀ w ∈ wsL_law0, w ∈ wsL_law := fun w h => List.mem_append_left _ (List.mem_append_left _ (List.mem_append_left _ h))
theorem u_r1 : ∀ w ∈ wsL_law0_r1, w ∈ wsL_law := fun w h => u_0in w (List.mem_append_left _ (List.mem_append_left _ (List.mem_append_left _ (List.mem_append_left _ (List.mem_append_left _ (List.mem_append_left _ (List.mem_append_left _ (List.mem_append_left _ (List.mem_append_left _ (List.mem_append_left _ (List.mem_append_left _ (List.mem_append_left _ (List.mem_append_left _ h)))))))))))))
theorem u_r2 : ∀ w ∈ wsL_law0_r2, w ∈ wsL_law := fun w h => u_0in w (List.mem_append_left _ (List.mem_append_left _ (List.mem_append_left _ (List.mem_append_left _ (List.mem_append_left _ (List.mem_append_left _ (List.mem_append_left _ (List.mem_append_left _ (List.mem_append_left _ (List.mem_append_left _ (List.mem_append_left _ (List.mem_append_left _ (List.mem_append_right _ (List.mem_append_left _ h))))))))))))))
theorem u_r3 : ∀ w ∈ wsL_law0_r3, w ∈ wsL_law := fun w h => u_0in w (List.mem_append_left _ (List.mem_append_left _ (List.mem_append_left _ (List.mem_append_left _ (List.mem_append_left _ (List.mem_append_left _ (List.mem_append_left _ (List.mem_append_left _ (List.mem_append_left _ (List.mem_append_left _ (List.mem_append_left _ (List.mem_append_left _ (List.mem_append_right _ (List.mem_append_right _ (List.mem_append_left _ h)))))))))))))))
theorem u_r4 : ∀ w ∈ wsL_law0_r4, w ∈ wsL_law := fun w h => u_0in w (List.mem_append_left _ (List.mem_append_left _ (List.mem_append_left _ (List.mem_append_left _ (List.mem_append_left _ (List.mem_append_left _ (List.mem_append_left _ (List.mem_append_left _ (List.mem_append_left _ (List.mem_append_left _ (List.mem_append_left _ (List.mem_append_left _ (List.mem_append_right _ (List.mem_append_right _ (List.mem_append_right _ (List.mem_append_left _ h))))))))))))))))
theorem u_r5 : ∀ w ∈ wsL_law0_r5, w ∈ wsL_law := fun w h => u_0in w (List.mem_append_left _ (List.mem_append_left _ (List.mem_append_left _ (List.mem_append_left _ (List.mem_append_left _ (List.mem_append_left _ (List.mem_append_left _ (List.mem_append_left _ (List.mem_append_left _ (List.mem_append_left _ (List.mem_append_left _ (List.mem_append_left _ (List.mem_append_right _ (List.mem_append_right _ (List.mem_append_right _ (List.mem_append_right _ (List.mem_append_left _ h)))))))))))))))))
theorem u_r6 : ∀ w ∈ wsL_law0_r6, w ∈ wsL_law := fun w h => u_0in w (List.mem_append_left _ (List.mem_append_left _ (List.mem_append_left _ (List.mem_append_left _ (List.mem_append_left _ (List.mem_append_left _ (List.mem_append_left _ (List.mem_append_left _ (List.mem_append_left _ (List.mem_append_left _ (List.mem_append_left _ (List.mem_append_left _ (List.mem_append_right _ (List.mem_append_right _ (List.mem_append_right _ (List.mem_append_right _ (List.mem_append_right _ (List.mem_append_left _ h))))))))))))))))))
theorem u_r7 : ∀ w ∈ wsL_law0_r7, w ∈ wsL_law := fun w h => u_0in w (List.mem_append_left _ (List.mem_append_left _ (List.mem_append_left _ (List.mem_append_left _ (List.mem_append_left _ (List.mem_append_left _ (List.mem_append_left _ (List.mem_append_left _ (List.mem_append_left _ (List.mem_append_left _ (List.mem_append_left _ (List.mem_append_left _ (List.mem_append_right _ (List.mem_append_right _ (List.mem_append_right _ (List.mem_append_right _ (List.mem_append_right _ (List.mem_append_right _ (List.mem_append_left _ h)))))))))))))))))))
theorem u_r8 : ∀ w ∈ wsL_law0_r8, w ∈ wsL_law := fun w h => u_0in w (List.mem_append_left _ (List.mem_append_left _ (List.mem_append_left _ (List.mem_append_left _ (List.mem_append_left _ (List.mem_append_left _ (List.mem_append_left _ (List.mem_append_left _ (List.mem_append_left _ (List.mem_append_left _ (List.mem_append_left _ (List.mem_append_left _ (List.mem_append_right _ (List.mem_append_right _ (List.mem_append_right _ (List.mem_append_right _ (List.mem_append_right _ (List.mem_append_right _ (List.mem_append_right _ (List.mem_append_left _ h))))))))))))))))))))
theorem u_r9 : ∀ w ∈ wsL_law0_r9, w ∈ wsL_law := fun w h => u_0in w (List.mem_append_left _ (List.mem_append_left _ (List.mem_append_left _ (List.mem_append_left _ (List.mem_append_left _ (List.mem_append_left _ (List.mem_append_left _ (List.mem_append_left _ (List.mem_append_left _ (List.mem_append_left _ (List.mem_append_left _ (List.mem_append_left _ (List.mem_append_right _ (List.mem_append_right _ (List.mem_append_right _ (List.mem_append_right _ (List.mem_append_right _ (List.mem_append_right _ (List.mem_append_right _ (List.mem_append_right _ (List.mem_append_left _ h)))))))))))))))))))))
theorem u_r10 : ∀ w ∈ wsL_law0_r10, w ∈ wsL_law := fun w h => u_0in w (List.mem_append_left _ (List.mem_append_left _ (List.mem_append_left _ (List.mem_append_left _ (List.mem_append_left _ (List.mem_append_left _ (List.mem_append_left _ (List.mem_append_left _ (List.mem_append_left _ (List.mem_append_left _ (List.mem_append_left _ (List.mem_append_left _ (List.mem_append_right _ (List.mem_append_right _ (List.mem_append_right _ (List.mem_append_right _ (List.mem_append_right _ (List.mem_append_right _ (List.mem_append_right _ (List.mem_append_right _ (List.mem_append_right _ (List.mem_append_left _ h))))))))))))))))))))))
theorem u_r11 : ∀ w ∈ wsL_law0_r11, w ∈ wsL_law := fun w h => u_0in w (List.mem_append_left _ (List.mem_append_left _ (List.mem_append_left _ (List.mem_append_left _ (List.mem_append_left _ (List.mem_append_left _ (List.mem_append_left _ (List.mem_append_left _ (List.mem_append_left _ (List.mem_append_left _ (List.mem_append_left _ (List.mem_append_left _ (List.mem_append_right _ (List.mem_append_right _ (List.mem_append_right _ (List.mem_append_right _ (List.mem_append_right _ (List.mem_append_right _ (List.mem_append_right _ (List.mem_append_right _ (List.mem_append_right _ (List.mem_append_right _ (List.mem_append_left _ h)))))))))))))))))))))))
theorem u_r12 : ∀ w ∈ wsL_law0_r12, w ∈ wsL_law := fun w h => u_0in w (List.mem_append_left _ (List.mem_append_left _ (List.mem_append_left _ (List.mem_append_left _ (List.mem_append_left _ (List.mem_append_left _ (List.mem_append_left _ (List.mem_append_left _ (List.mem_append_left _ (List.mem_append_left _ (List.mem_append_left _ (List.mem_append_left _ (List.mem_append_right _ (List.mem_append_right _ (List.mem_append_right _ (List.mem_append_right _ (List.mem_append_right _ (List.mem_append_right _ (List.mem_append_right _ (List.mem_append_right _ (List.mem_append_right _ (List.mem_append_right _ (List.mem_append_right _ (List.mem_append_left _ h))))))))))))))))))))))))
theorem u_r13 : ∀ w ∈ wsL_law0_r13, w ∈ wsL_law := fun w h => u_0in w (List.mem_append_left _ (List.mem_append_left _ (List.mem_append_left _ (List.mem_append_left _ (List.mem_append_left _ (List.mem_append_left _ (List.mem_append_left _ (List.mem_append_left _ (List.mem_append_left _ (List.mem_append_left _ (List.mem_append_left _ (List.mem_append_left _ (List.mem_append_right _ (List.mem_append_right _ (List.mem_append_right _ (List.mem_append_right _ (List.mem_append_right _ (List.mem_append_right _ (List.mem_append_right _ (List.mem_append_right _ (List.mem_append_right _ (List.mem_append_right _ (List.mem_append_right _ (List.mem_append_right _ (List.mem_append_left _ h)))))))))))))))))))))))))
theorem u_r14 : ∀ w ∈ wsL_law0_r14, w ∈ wsL_law := fun w h => u_0in w (List.mem_append_left _ (List.mem_append_left _ (List.mem_append_left _ (List.mem_append_left _ (List.mem_append_left _ (List.mem_append_left _ (List.mem_append_left _ (List.mem_append_left _ (List.mem_append_left _ (List.mem_append_left _ (List.mem_append_left _ (List.mem_append_left _ (List.mem_append_right _ (List.mem_append_right _ (List.mem_append_right _ (List.mem_append_right _ (List.mem_append_right _ (List.mem_append_right _ (List.mem_append_right _ (List.mem_append_right _ (List.mem_append_right _ (List.mem_append_right _ (List.mem_append_right _ (List.mem_append_right _ (List.mem_append_right _ (List.mem_append_left _ h))))))))))))))))))))))))))
theorem u_r15 : ∀ w ∈ wsL_law0_r15, w ∈ wsL_law := fun w h => u_0in w (List.mem_append_left _ (List.mem_append_left _ (List.mem_append_left _ (List.mem_append_left _ (List.mem_append_left _ (List.mem_append_left _ (List.mem_append_left _ (List.mem_append_left _ (List.mem_append_left _ (List.mem_append_left _ (List.mem_append_left _ (List.mem_append_left _ (List.mem_append_right _ (List.mem_append_right _ (List.mem_append_right _ (List.mem_append_right _ (List.mem_append_right _ (List.mem_append_right _ (List.mem_append_right _ (List.mem_append_right _ (List.mem_append_right _ (List.mem_append_right _ (List.mem_append_right _ (List.mem_append_right _ (List.mem_append_right _ (List.mem_append_right _ (List.mem_append_left _ h)))))))))))))))))))))))))))
theorem u_r16 : ∀ w ∈ wsL_law0_r16, w ∈ wsL_law := fun w h => u_0in w (List.mem_append_left _ (List.mem_append_left _ (List.mem_append_left _ (List.mem_append_left _ (List.mem_append_left _ (List.mem_append_left _ (List.mem_append_left _ (List.mem_append_left _ (List.mem_append_left _ (List.mem_append_left _ (List.mem_append_left _ (List.mem_append_left _ (List.mem_append_right _ (List.mem_append_right _ (List.mem_append_right _ (List.mem_append_right _ (List.mem_append_right _ (List.mem_append_right _ (List.mem_append_right _ (List.mem_append_right _ (List.mem_append_right _ (List.mem_append_right _ (List.mem_append_right _ (List.mem_append_right _ (List.mem_append_right _ (List.mem_append_right _ (List.mem_append_right _ (List.mem_append_left _ h))))))))))))))))))))))))))))
theorem u_r17 : ∀ w ∈ wsL_law0_r17, w ∈ wsL_law := fun w h => u_0in w (List.mem_append_left _ (List.mem_append_left _ (List.mem_append_left _ (List.mem_append_left _ (List.mem_append_left _ (List.mem_append_left _ (List.mem_append_left _ (List.mem_append_left _ (List.mem_append_left _ (List.mem_append_left _ (List.mem_append_left _ (List.mem_append_left _ (List.mem_append_right _ (List.mem_append_right _ (List.mem_append_right _ (List.mem_append_right _ (List.mem_append_right _ (List.mem_append_right _ (List.mem_append_right _ (List.mem_append_right _ (List.mem_append_right _ (List.mem_append_right _ (List.mem_append_right _ (List.mem_append_right _ (List.mem_append_right _ (List.mem_append_right _ (List.mem_append_right _ (List.mem_append_right _ (List.mem_append_left _ h)))))))))))))))))))))))))))))
theorem u_r18 : ∀ w ∈ wsL_law0_r18, w ∈ wsL_law := fun w h => u_0in w (List.mem_append_left _ (List.mem_append_left _ (List.mem_append_left _ (List.mem_append_left _ (List.mem_append_left _ (List.mem_append_left _ (List.mem_append_left _ (List.mem_append_left _ (List.mem_append_left _ (List.mem_append_left _ (List.mem_append_left _ (List.mem_append_left _ (List.mem_append_right _ (List.mem_append_right _ (List.mem_append_right _ (List.mem_append_right _ (List.mem_append_right _ (List.mem_append_right _ (List.mem_append_right _ (List.mem_append_right _ (List.mem_append_right _ (List.mem_append_right _ (List.mem_append_right _ (List.mem_append_right _ (List.mem_append_right _ (List.mem_append_right _ (List.mem_append_right _ (List.mem_append_right _ (List.mem_append_right _ (List.mem_append_left _ h))))))))))))))))))))))))))))))
theorem u_r19 : ∀ w ∈ wsL_law0_r19, w ∈ wsL_law := fun w h => u_0in w (List.mem_append_left _ (List.mem_append_left _ (List.mem_append_left _ (List.mem_append_left _ (List.mem_append_left _ (List.mem_append_left _ (List.mem_append_left _ (List.mem_append_left _ (List.mem_append_left _ (List.mem_append_left _ (List.mem_append_left _ (List.mem_append_left _ (List.mem_append_right _ (List.mem_append_right _ (List.mem_append_right _ (List.mem_append_right _ (List.mem_append_right _ (List.mem_append_right _ (List.mem_append_right _ (List.mem_append_right _ (List.mem_append_right _ (List.mem_append_right _ (List.mem_append_right _ (List.mem_append_right _ (List.mem_append_right _ (List.mem_append_right _ (List.mem_append_right _ (List.mem_append_right _ (List.mem_append_right _ (List.mem_append_right _ (List.mem_append_left _ h)))))))))))))))))))))))))))))))
theorem u_r20 : ∀ w ∈ wsL_law0_r20, w ∈ wsL_law := fun w h => u_0in w (List.mem_append_left _ (List.mem_append_left _ (List.mem_append_left _ (List.mem_append_left _ (List.mem_append_left _ (List.mem_append_left _ (List.mem_append_left _ (List.mem_append_left _ (List.mem_append_left _ (List.mem_append_left _ (List.mem_append_left _ (List.mem_append_left _ (List.mem_append_right _ (List.mem_append_right _ (List.mem_append_right _ (List.mem_append_right _ (List.mem_append_right _ (List.mem_append_right _ (List.mem_append_right _ (List.mem_append_right _ (List.mem_append_right _ (List.mem_append_right _ (List.mem_append_right _ (List.mem_append_right _ (List.mem_append_right _ (List.mem_append_right _ (List.mem_append_right _ (List.mem_append_right _ (List.mem_append_right _ (List.mem_append_right _ (List.mem_append_right _ (List.mem_append_left _ h))))))))))))))))))))))))))))))))
theorem u_r21 : ∀ w ∈ wsL_law0_r21, w ∈ wsL_law := fun w h => u_0in w (List.mem_append_left _ (List.mem_append_left _ (List.mem_append_left _ (List.mem_append_left _ (List.mem_append_left _ (List.mem_append_left _ (List.mem_append_left _ (List.mem_append_left _ (List.mem_append_left _ (List.mem_append_left _ (List.mem_append_left _ (List.mem_append_left _ (List.mem_append_right _ (List.mem_append_right _ (List.mem_append_right _ (List.mem_append_right _ (List.mem_append_right _ (List.mem_append_right _ (List.mem_append_right _ (List.mem_append_right _ (List.mem_append_right _ (List.mem_append_right _ (List.mem_append_right _ (List.mem_append_right _ (List.mem_append_right _ (List.mem_append_right _ (List.mem_append_right _ (List.mem_append_right _ (List.mem_append_right _ (List.mem_append_right _ (List.mem_append_right _ (List.mem_append_right _ (List.mem_append_left _ h)))))))))))))))))))))))))))))))))
theorem u_r22 : ∀ w ∈ wsL_law0_r22, w ∈ wsL_law := fun w h => u_0in w (List.mem_append_left _ (List.mem_append_left _ (List.mem_append_left _ (List.mem_append_left _ (List.mem_append_left _ (List.mem_append_left _ (List.mem_append_left _ (List.mem_append_left _ (List.mem_append_left _ (List.mem_append_left _ (List.mem_append_left _ (List.mem_append_left _ (List.mem_append_right _ (List.mem_append_right _ (List.mem_append_right _ (List.mem_append_right _ (List.mem_append_right _ (List.mem_append_right _ (List.mem_append_right _ (List.mem_append_right _ (List.mem_append_right _ (List.mem_append_right _ (List.mem_append_right _ (List.mem_append_right _ (List.mem_append_right _ (List.mem_append_right _ (List.mem_append_right _ (List.mem_append_right _ (List.mem_append_right _ (List.mem_append_right _ (List.mem_append_right _ (List.mem_append_right _ (List.mem_append_right _ (List.mem_append_left _ h))))))))))))))))))))))))))))))))))
theorem u_r23 : ∀ w ∈ wsL_law0_r23, w ∈ wsL_law := fun w h => u_0in w (List.mem_append_left _ (List.mem_append_left _ (List.mem_append_left _ (List.mem_append_left _ (List.mem_append_left _ (List.mem_append_left _ (List.mem_append_left _ (List.mem_append_left _ (List.mem_append_left _ (List.mem_append_left _ (List.mem_append_left _ (List.mem_append_left _ (List.mem_append_right _ (List.mem_append_right _ (List.mem_append_right _ (List.mem_append_right _ (List.mem_append_right _ (List.mem_append_right _ (List.mem_append_right _ (List.mem_append_right _ (List.mem_append_right _ (List.mem_append_right _ (List.mem_append_right _ (List.mem_append_right _ (List.mem_append_right _ (List.mem_append_right _ (List.mem_append_right _ (List.mem_append_right _ (List.mem_append_right _ (List.mem_append_right _ (List.mem_append_right _ (List.mem_append_right _ (List.mem_append_right _ (List.mem_append_right _ h))))))))))))))))))))))))))))))))))
