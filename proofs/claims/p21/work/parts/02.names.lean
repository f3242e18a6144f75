/-! ===== BEGIN printed: names, fields, word lists, decode rows ===== -/
def RX0 : String := "KingTies$Kin"
def TX0 : u_T := fun k => match k with
  | 0 => ("KingTies$Kin", "persons", "I", false)
  | 1 => ("KingTies$Kin", "male", "[Z", true)
  | 2 => ("KingTies$Kin", "birth", "[I", true)
  | 3 => ("KingTies$Kin", "mother", "[I", true)
  | 4 => ("KingTies$Kin", "father", "[I", true)
  | _ => ("KingTies$Kin", "steps", "[[I", true)
def tyX0 : Nat → FieldType := fun k => match k with
  | 0 => .int
  | 1 => .array .boolean
  | 2 => .array .int
  | 3 => .array .int
  | 4 => .array .int
  | _ => .array (.array .int)
abbrev wsX00 : List Cond := u_ws RX0 TX0 6
theorem nmX0 : ∀ a, a < 6 → ∀ b, b < 6 → a ≠ b → (TX0 a).2.1 ≠ (TX0 b).2.1 := by decide +kernel
theorem tyX0_ok : ∀ k, k < 6 → parseFieldDescriptor (TX0 k).2.2.1 = some (tyX0 k) := by decide +kernel
abbrev cX0_init : ByteArray := prog_2_method_1_code
def yX0_init : MethodName := ⟨RX0, "<init>", "()V"⟩
abbrev cX0_knows : ByteArray := prog_2_method_2_code
def yX0_knows : MethodName := ⟨RX0, "knows", "(I)Z"⟩
abbrev cX0_isFull : ByteArray := prog_2_method_3_code
def yX0_isFull : MethodName := ⟨RX0, "isFull", "()Z"⟩
abbrev cX0_add : ByteArray := prog_2_method_4_code
def yX0_add : MethodName := ⟨RX0, "add", "(ZIII)I"⟩
abbrev cX0_stepsThroughParents : ByteArray := prog_2_method_5_code
def yX0_stepsThroughParents : MethodName := ⟨RX0, "stepsThroughParents", "(III)I"⟩
abbrev cX0_stepsBetween : ByteArray := prog_2_method_6_code
def yX0_stepsBetween : MethodName := ⟨RX0, "stepsBetween", "(II)I"⟩
abbrev cX0_isBefore : ByteArray := prog_2_method_7_code
def yX0_isBefore : MethodName := ⟨RX0, "isBefore", "(II)Z"⟩
abbrev cX0_isAhead : ByteArray := prog_2_method_8_code
def yX0_isAhead : MethodName := ⟨RX0, "isAhead", "(III)Z"⟩
abbrev cX0_childrenOf : ByteArray := prog_2_method_9_code
def yX0_childrenOf : MethodName := ⟨RX0, "childrenOf", "(I)I"⟩
def RX1 : String := "KingTies$Lands"
def TX1 : u_T := fun k => match k with
  | 0 => ("KingTies$Lands", "number", "I", false)
  | 1 => ("KingTies$Lands", "worth", "[I", true)
  | 2 => ("KingTies$Lands", "law", "[I", true)
  | 3 => ("KingTies$Lands", "ruler", "[I", true)
  | 4 => ("KingTies$Lands", "changes", "[I", true)
  | 5 => ("KingTies$Lands", "kept", "[I", true)
  | _ => ("KingTies$Lands", "past", "[[I", true)
def tyX1 : Nat → FieldType := fun k => match k with
  | 0 => .int
  | 1 => .array .int
  | 2 => .array .int
  | 3 => .array .int
  | 4 => .array .int
  | 5 => .array .int
  | _ => .array (.array .int)
abbrev wsX10 : List Cond := u_ws RX1 TX1 7
theorem nmX1 : ∀ a, a < 7 → ∀ b, b < 7 → a ≠ b → (TX1 a).2.1 ≠ (TX1 b).2.1 := by decide +kernel
theorem tyX1_ok : ∀ k, k < 7 → parseFieldDescriptor (TX1 k).2.2.1 = some (tyX1 k) := by decide +kernel
abbrev cX1_init : ByteArray := prog_3_method_1_code
def yX1_init : MethodName := ⟨RX1, "<init>", "()V"⟩
abbrev cX1_knows : ByteArray := prog_3_method_2_code
def yX1_knows : MethodName := ⟨RX1, "knows", "(I)Z"⟩
abbrev cX1_isFull : ByteArray := prog_3_method_3_code
def yX1_isFull : MethodName := ⟨RX1, "isFull", "()Z"⟩
abbrev cX1_add : ByteArray := prog_3_method_4_code
def yX1_add : MethodName := ⟨RX1, "add", "(III)I"⟩
abbrev cX1_handTo : ByteArray := prog_3_method_5_code
def yX1_handTo : MethodName := ⟨RX1, "handTo", "(II)V"⟩
abbrev cX1_rulerOf : ByteArray := prog_3_method_6_code
def yX1_rulerOf : MethodName := ⟨RX1, "rulerOf", "(I)I"⟩
abbrev cX1_numberUnder : ByteArray := prog_3_method_7_code
def yX1_numberUnder : MethodName := ⟨RX1, "numberUnder", "(I)I"⟩
abbrev cX1_worthUnder : ByteArray := prog_3_method_8_code
def yX1_worthUnder : MethodName := ⟨RX1, "worthUnder", "(I)I"⟩
abbrev cX1_takeRulers : ByteArray := prog_3_method_9_code
def yX1_takeRulers : MethodName := ⟨RX1, "takeRulers", "(LKingTies$Lands;)V"⟩
def RX2 : String := "KingTies$Lines"
def TX2 : u_T := fun k => match k with
  | 0 => ("KingTies$Lines", "first", "[I", true)
  | _ => ("KingTies$Lines", "through", "[I", true)
def tyX2 : Nat → FieldType := fun k => match k with
  | 0 => .array .int
  | _ => .array .int
abbrev wsX20 : List Cond := u_ws RX2 TX2 2
theorem nmX2 : ∀ a, a < 2 → ∀ b, b < 2 → a ≠ b → (TX2 a).2.1 ≠ (TX2 b).2.1 := by decide +kernel
theorem tyX2_ok : ∀ k, k < 2 → parseFieldDescriptor (TX2 k).2.2.1 = some (tyX2 k) := by decide +kernel
abbrev cX2_init : ByteArray := prog_4_method_1_code
def yX2_init : MethodName := ⟨RX2, "<init>", "()V"⟩
abbrev cX2_clear : ByteArray := prog_4_method_2_code
def yX2_clear : MethodName := ⟨RX2, "clear", "()V"⟩
abbrev cX2_firstOf : ByteArray := prog_4_method_3_code
def yX2_firstOf : MethodName := ⟨RX2, "firstOf", "(I)I"⟩
abbrev cX2_tell : ByteArray := prog_4_method_4_code
def yX2_tell : MethodName := ⟨RX2, "tell", "(LKingTies$Kin;IIII)V"⟩
def RX3 : String := "KingTies$Ties"
def TX3 : u_T := fun k => match k with
  | 0 => ("KingTies$Ties", "spouse", "[I", true)
  | _ => ("KingTies$Ties", "given", "[I", true)
def tyX3 : Nat → FieldType := fun k => match k with
  | 0 => .array .int
  | _ => .array .int
abbrev wsX30 : List Cond := u_ws RX3 TX3 2
theorem nmX3 : ∀ a, a < 2 → ∀ b, b < 2 → a ≠ b → (TX3 a).2.1 ≠ (TX3 b).2.1 := by decide +kernel
theorem tyX3_ok : ∀ k, k < 2 → parseFieldDescriptor (TX3 k).2.2.1 = some (tyX3 k) := by decide +kernel
abbrev cX3_init : ByteArray := prog_5_method_1_code
def yX3_init : MethodName := ⟨RX3, "<init>", "()V"⟩
abbrev cX3_fits : ByteArray := prog_5_method_2_code
def yX3_fits : MethodName := ⟨RX3, "fits", "(I)Z"⟩
abbrev cX3_spouseOf : ByteArray := prog_5_method_3_code
def yX3_spouseOf : MethodName := ⟨RX3, "spouseOf", "(I)I"⟩
abbrev cX3_givenBy : ByteArray := prog_5_method_4_code
def yX3_givenBy : MethodName := ⟨RX3, "givenBy", "(I)I"⟩
abbrev cX3_bind : ByteArray := prog_5_method_5_code
def yX3_bind : MethodName := ⟨RX3, "bind", "(II)V"⟩
abbrev cX3_part : ByteArray := prog_5_method_6_code
def yX3_part : MethodName := ⟨RX3, "part", "(I)V"⟩
abbrev cX3_couples : ByteArray := prog_5_method_7_code
def yX3_couples : MethodName := ⟨RX3, "couples", "()I"⟩
def RX4 : String := "KingTies$World"
def TX4 : u_T := fun k => match k with
  | 0 => ("KingTies$World", "kin", "LKingTies$Kin;", true)
  | 1 => ("KingTies$World", "lands", "LKingTies$Lands;", true)
  | 2 => ("KingTies$World", "ties", "LKingTies$Ties;", true)
  | 3 => ("KingTies$World", "lines", "LKingTies$Lines;", true)
  | 4 => ("KingTies$World", "death", "[I", true)
  | _ => ("KingTies$World", "year", "I", false)
def tyX4 : Nat → FieldType := fun k => match k with
  | 0 => .object "KingTies$Kin"
  | 1 => .object "KingTies$Lands"
  | 2 => .object "KingTies$Ties"
  | 3 => .object "KingTies$Lines"
  | 4 => .array .int
  | _ => .int
abbrev wsX40 : List Cond := u_ws RX4 TX4 6
theorem nmX4 : ∀ a, a < 6 → ∀ b, b < 6 → a ≠ b → (TX4 a).2.1 ≠ (TX4 b).2.1 := by decide +kernel
theorem tyX4_ok : ∀ k, k < 6 → parseFieldDescriptor (TX4 k).2.2.1 = some (tyX4 k) := by decide +kernel
abbrev cX4_init : ByteArray := prog_6_method_1_code
def yX4_init : MethodName := ⟨RX4, "<init>", "(LKingTies$Kin;)V"⟩
abbrev cX4_startFrom : ByteArray := prog_6_method_2_code
def yX4_startFrom : MethodName := ⟨RX4, "startFrom", "(LKingTies$World;)V"⟩
abbrev cX4_lives : ByteArray := prog_6_method_3_code
def yX4_lives : MethodName := ⟨RX4, "lives", "(I)Z"⟩
abbrev cX4_age : ByteArray := prog_6_method_4_code
def yX4_age : MethodName := ⟨RX4, "age", "(I)I"⟩
abbrev cX4_isFree : ByteArray := prog_6_method_5_code
def yX4_isFree : MethodName := ⟨RX4, "isFree", "(I)Z"⟩
abbrev cX4_mayMarry : ByteArray := prog_6_method_6_code
def yX4_mayMarry : MethodName := ⟨RX4, "mayMarry", "(II)Z"⟩
abbrev cX4_wed : ByteArray := prog_6_method_7_code
def yX4_wed : MethodName := ⟨RX4, "wed", "(III)V"⟩
abbrev cX4_separate : ByteArray := prog_6_method_8_code
def yX4_separate : MethodName := ⟨RX4, "separate", "(I)I"⟩
abbrev cX4_bury : ByteArray := prog_6_method_9_code
def yX4_bury : MethodName := ⟨RX4, "bury", "(I)I"⟩
abbrev cX4_letPass : ByteArray := prog_6_method_10_code
def yX4_letPass : MethodName := ⟨RX4, "letPass", "(I)I"⟩
abbrev cX4_heirOf : ByteArray := prog_6_method_11_code
def yX4_heirOf : MethodName := ⟨RX4, "heirOf", "(II)I"⟩
abbrev cX4_eldestOfKin : ByteArray := prog_6_method_12_code
def yX4_eldestOfKin : MethodName := ⟨RX4, "eldestOfKin", "(I)I"⟩
abbrev cX4_regentOf : ByteArray := prog_6_method_13_code
def yX4_regentOf : MethodName := ⟨RX4, "regentOf", "(I)I"⟩
abbrev cX4_nearestGrown : ByteArray := prog_6_method_14_code
def yX4_nearestGrown : MethodName := ⟨RX4, "nearestGrown", "(I)I"⟩
abbrev cX4_personFact : ByteArray := prog_6_method_15_code
def yX4_personFact : MethodName := ⟨RX4, "personFact", "(II)I"⟩
abbrev cX4_landFact : ByteArray := prog_6_method_16_code
def yX4_landFact : MethodName := ⟨RX4, "landFact", "(II)I"⟩
abbrev cX4_countFact : ByteArray := prog_6_method_17_code
def yX4_countFact : MethodName := ⟨RX4, "countFact", "(I)I"⟩
abbrev cX4_living : ByteArray := prog_6_method_18_code
def yX4_living : MethodName := ⟨RX4, "living", "()I"⟩
abbrev cX4_rulers : ByteArray := prog_6_method_19_code
def yX4_rulers : MethodName := ⟨RX4, "rulers", "(Z)I"⟩
def RX5 : String := "KingTies"
def TX5 : u_T := fun k => match k with
  | 0 => ("KingTies", "kin", "LKingTies$Kin;", true)
  | 1 => ("KingTies", "now", "LKingTies$World;", true)
  | _ => ("KingTies", "ahead", "LKingTies$World;", true)
def tyX5 : Nat → FieldType := fun k => match k with
  | 0 => .object "KingTies$Kin"
  | 1 => .object "KingTies$World"
  | _ => .object "KingTies$World"
abbrev wsX50 : List Cond := u_ws RX5 TX5 3
theorem nmX5 : ∀ a, a < 3 → ∀ b, b < 3 → a ≠ b → (TX5 a).2.1 ≠ (TX5 b).2.1 := by decide +kernel
theorem tyX5_ok : ∀ k, k < 3 → parseFieldDescriptor (TX5 k).2.2.1 = some (tyX5 k) := by decide +kernel
abbrev cX5_init : ByteArray := prog_1_method_1_code
def yX5_init : MethodName := ⟨RX5, "<init>", "()V"⟩
abbrev cX5_come : ByteArray := prog_1_method_2_code
def yX5_come : MethodName := ⟨RX5, "come", "(ZI)I"⟩
abbrev cX5_bear : ByteArray := prog_1_method_3_code
def yX5_bear : MethodName := ⟨RX5, "bear", "(IZ)I"⟩
abbrev cX5_found : ByteArray := prog_1_method_4_code
def yX5_found : MethodName := ⟨RX5, "found", "(III)I"⟩
abbrev cX5_setLaw : ByteArray := prog_1_method_5_code
def yX5_setLaw : MethodName := ⟨RX5, "setLaw", "(II)I"⟩
abbrev cX5_marry : ByteArray := prog_1_method_6_code
def yX5_marry : MethodName := ⟨RX5, "marry", "(III)I"⟩
abbrev cX5_annul : ByteArray := prog_1_method_7_code
def yX5_annul : MethodName := ⟨RX5, "annul", "(I)I"⟩
abbrev cX5_die : ByteArray := prog_1_method_8_code
def yX5_die : MethodName := ⟨RX5, "die", "(I)I"⟩
abbrev cX5_person : ByteArray := prog_1_method_9_code
def yX5_person : MethodName := ⟨RX5, "person", "(II)I"⟩
abbrev cX5_land : ByteArray := prog_1_method_10_code
def yX5_land : MethodName := ⟨RX5, "land", "(II)I"⟩
abbrev cX5_ruled : ByteArray := prog_1_method_11_code
def yX5_ruled : MethodName := ⟨RX5, "ruled", "(II)I"⟩
abbrev cX5_related : ByteArray := prog_1_method_12_code
def yX5_related : MethodName := ⟨RX5, "related", "(II)I"⟩
abbrev cX5_count : ByteArray := prog_1_method_13_code
def yX5_count : MethodName := ⟨RX5, "count", "(I)I"⟩
abbrev cX5_pass : ByteArray := prog_1_method_14_code
def yX5_pass : MethodName := ⟨RX5, "pass", "(I)I"⟩
abbrev cX5_rules : ByteArray := prog_1_method_15_code
def yX5_rules : MethodName := ⟨RX5, "rules", "(I)I"⟩
abbrev cX5_foresee : ByteArray := prog_1_method_16_code
def yX5_foresee : MethodName := ⟨RX5, "foresee", "(II)I"⟩
abbrev cX5_best : ByteArray := prog_1_method_17_code
def yX5_best : MethodName := ⟨RX5, "best", "(I)I"⟩
abbrev cX5_mean : ByteArray := prog_1_method_18_code
def yX5_mean : MethodName := ⟨RX5, "mean", "()D"⟩
abbrev cX5_needPerson : ByteArray := prog_1_method_22_code
def yX5_needPerson : MethodName := ⟨RX5, "needPerson", "(I)V"⟩
abbrev cX5_needLand : ByteArray := prog_1_method_23_code
def yX5_needLand : MethodName := ⟨RX5, "needLand", "(I)V"⟩
abbrev cX5_needBelow : ByteArray := prog_1_method_24_code
def yX5_needBelow : MethodName := ⟨RX5, "needBelow", "(II)V"⟩
abbrev cX5_needLaw : ByteArray := prog_1_method_25_code
def yX5_needLaw : MethodName := ⟨RX5, "needLaw", "(I)V"⟩
abbrev cX5_needYears : ByteArray := prog_1_method_26_code
def yX5_needYears : MethodName := ⟨RX5, "needYears", "(I)V"⟩
def RX6 : String := "KingTiesLaw$Land"
def TX6 : u_T := fun k => match k with
  | 0 => ("KingTiesLaw$Land", "worth", "I", false)
  | 1 => ("KingTiesLaw$Land", "law", "I", false)
  | 2 => ("KingTiesLaw$Land", "ruler", "LKingTiesLaw$Person;", false)
  | _ => ("KingTiesLaw$Land", "had", "[LKingTiesLaw$Person;", false)
def tyX6 : Nat → FieldType := fun k => match k with
  | 0 => .int
  | 1 => .int
  | 2 => .object "KingTiesLaw$Person"
  | _ => .array (.object "KingTiesLaw$Person")
abbrev wsX60 : List Cond := u_ws RX6 TX6 4
theorem nmX6 : ∀ a, a < 4 → ∀ b, b < 4 → a ≠ b → (TX6 a).2.1 ≠ (TX6 b).2.1 := by decide +kernel
theorem tyX6_ok : ∀ k, k < 4 → parseFieldDescriptor (TX6 k).2.2.1 = some (tyX6 k) := by decide +kernel
abbrev cX6_init : ByteArray := prog_8_method_1_code
def yX6_init : MethodName := ⟨RX6, "<init>", "()V"⟩
def RX7 : String := "KingTiesLaw$Person"
def TX7 : u_T := fun k => match k with
  | 0 => ("KingTiesLaw$Person", "number", "I", false)
  | 1 => ("KingTiesLaw$Person", "male", "Z", false)
  | 2 => ("KingTiesLaw$Person", "born", "I", false)
  | 3 => ("KingTiesLaw$Person", "died", "I", false)
  | 4 => ("KingTiesLaw$Person", "mother", "LKingTiesLaw$Person;", false)
  | 5 => ("KingTiesLaw$Person", "father", "LKingTiesLaw$Person;", false)
  | 6 => ("KingTiesLaw$Person", "with", "LKingTiesLaw$Person;", false)
  | 7 => ("KingTiesLaw$Person", "given", "LKingTiesLaw$Land;", false)
  | _ => ("KingTiesLaw$Person", "giver", "LKingTiesLaw$Person;", false)
def tyX7 : Nat → FieldType := fun k => match k with
  | 0 => .int
  | 1 => .boolean
  | 2 => .int
  | 3 => .int
  | 4 => .object "KingTiesLaw$Person"
  | 5 => .object "KingTiesLaw$Person"
  | 6 => .object "KingTiesLaw$Person"
  | 7 => .object "KingTiesLaw$Land"
  | _ => .object "KingTiesLaw$Person"
abbrev wsX70 : List Cond := u_ws RX7 TX7 9
theorem nmX7 : ∀ a, a < 9 → ∀ b, b < 9 → a ≠ b → (TX7 a).2.1 ≠ (TX7 b).2.1 := by decide +kernel
theorem tyX7_ok : ∀ k, k < 9 → parseFieldDescriptor (TX7 k).2.2.1 = some (tyX7 k) := by decide +kernel
abbrev cX7_init : ByteArray := prog_9_method_1_code
def yX7_init : MethodName := ⟨RX7, "<init>", "()V"⟩
def RX8 : String := "KingTiesLaw$Sim"
def TX8 : u_T := fun k => match k with
  | 0 => ("KingTiesLaw$Sim", "persons", "[LKingTiesLaw$Person;", false)
  | 1 => ("KingTiesLaw$Sim", "lands", "[LKingTiesLaw$Land;", false)
  | _ => ("KingTiesLaw$Sim", "year", "I", false)
def tyX8 : Nat → FieldType := fun k => match k with
  | 0 => .array (.object "KingTiesLaw$Person")
  | 1 => .array (.object "KingTiesLaw$Land")
  | _ => .int
abbrev wsX80 : List Cond := u_ws RX8 TX8 3
theorem nmX8 : ∀ a, a < 3 → ∀ b, b < 3 → a ≠ b → (TX8 a).2.1 ≠ (TX8 b).2.1 := by decide +kernel
theorem tyX8_ok : ∀ k, k < 3 → parseFieldDescriptor (TX8 k).2.2.1 = some (tyX8 k) := by decide +kernel
abbrev cX8_init : ByteArray := prog_10_method_1_code
def yX8_init : MethodName := ⟨RX8, "<init>", "()V"⟩
abbrev cX8_come : ByteArray := prog_10_method_2_code
def yX8_come : MethodName := ⟨RX8, "come", "(ZI)LKingTiesLaw$Person;"⟩
abbrev cX8_bear : ByteArray := prog_10_method_3_code
def yX8_bear : MethodName := ⟨RX8, "bear", "(LKingTiesLaw$Person;Z)V"⟩
abbrev cX8_rule : ByteArray := prog_10_method_4_code
def yX8_rule : MethodName := ⟨RX8, "rule", "(LKingTiesLaw$Land;LKingTiesLaw$Person;)V"⟩
abbrev cX8_found : ByteArray := prog_10_method_5_code
def yX8_found : MethodName := ⟨RX8, "found", "(IILKingTiesLaw$Person;)V"⟩
abbrev cX8_isBefore : ByteArray := prog_10_method_6_code
def yX8_isBefore : MethodName := ⟨RX8, "isBefore", "(LKingTiesLaw$Person;LKingTiesLaw$Person;)Z"⟩
abbrev cX8_up : ByteArray := prog_10_method_7_code
def yX8_up : MethodName := ⟨RX8, "up", "(LKingTiesLaw$Person;LKingTiesLaw$Person;)I"⟩
abbrev cX8_related : ByteArray := prog_10_method_8_code
def yX8_related : MethodName := ⟨RX8, "related", "(LKingTiesLaw$Person;LKingTiesLaw$Person;)I"⟩
abbrev cX8_children : ByteArray := prog_10_method_9_code
def yX8_children : MethodName := ⟨RX8, "children", "(LKingTiesLaw$Person;)I"⟩
abbrev cX8_row : ByteArray := prog_10_method_10_code
def yX8_row : MethodName := ⟨RX8, "row", "(LKingTiesLaw$Person;I)[LKingTiesLaw$Person;"⟩
abbrev cX8_isAhead : ByteArray := prog_10_method_11_code
def yX8_isAhead : MethodName := ⟨RX8, "isAhead", "(LKingTiesLaw$Person;LKingTiesLaw$Person;I)Z"⟩
abbrev cX8_first : ByteArray := prog_10_method_12_code
def yX8_first : MethodName := ⟨RX8, "first", "(LKingTiesLaw$Person;ILKingTiesLaw$Person;)LKingTiesLaw$Person;"⟩
abbrev cX8_heir : ByteArray := prog_10_method_13_code
def yX8_heir : MethodName := ⟨RX8, "heir", "(LKingTiesLaw$Person;I)LKingTiesLaw$Person;"⟩
abbrev cX8_regent : ByteArray := prog_10_method_14_code
def yX8_regent : MethodName := ⟨RX8, "regent", "(LKingTiesLaw$Person;)LKingTiesLaw$Person;"⟩
abbrev cX8_worth : ByteArray := prog_10_method_15_code
def yX8_worth : MethodName := ⟨RX8, "worth", "(LKingTiesLaw$Person;)I"⟩
abbrev cX8_rules : ByteArray := prog_10_method_16_code
def yX8_rules : MethodName := ⟨RX8, "rules", "(LKingTiesLaw$Person;)I"⟩
abbrev cX8_isFree : ByteArray := prog_10_method_17_code
def yX8_isFree : MethodName := ⟨RX8, "isFree", "(LKingTiesLaw$Person;)Z"⟩
abbrev cX8_can : ByteArray := prog_10_method_18_code
def yX8_can : MethodName := ⟨RX8, "can", "(LKingTiesLaw$Person;LKingTiesLaw$Person;)Z"⟩
abbrev cX8_marry : ByteArray := prog_10_method_19_code
def yX8_marry : MethodName := ⟨RX8, "marry", "(LKingTiesLaw$Person;LKingTiesLaw$Person;LKingTiesLaw$Land;)V"⟩
abbrev cX8_part : ByteArray := prog_10_method_20_code
def yX8_part : MethodName := ⟨RX8, "part", "(LKingTiesLaw$Person;)V"⟩
abbrev cX8_annul : ByteArray := prog_10_method_21_code
def yX8_annul : MethodName := ⟨RX8, "annul", "(LKingTiesLaw$Person;)I"⟩
abbrev cX8_die : ByteArray := prog_10_method_22_code
def yX8_die : MethodName := ⟨RX8, "die", "(LKingTiesLaw$Person;)I"⟩
abbrev cX8_pass : ByteArray := prog_10_method_23_code
def yX8_pass : MethodName := ⟨RX8, "pass", "()I"⟩
abbrev cX8_number : ByteArray := prog_10_method_24_code
def yX8_number : MethodName := ⟨RX8, "number", "(LKingTiesLaw$Person;)I"⟩
abbrev cX8_isSame : ByteArray := prog_10_method_25_code
def yX8_isSame : MethodName := ⟨RX8, "isSame", "(LKingTies;)Z"⟩
def RX9 : String := "KingTiesModel"
def TX9 : u_T := fun k => match k with
  | _ => ("", "", "", false)
def tyX9 : Nat → FieldType := fun k => match k with
  | _ => .int
abbrev wsX90 : List Cond := u_ws RX9 TX9 0
theorem nmX9 : ∀ a, a < 0 → ∀ b, b < 0 → a ≠ b → (TX9 a).2.1 ≠ (TX9 b).2.1 := by decide +kernel
theorem tyX9_ok : ∀ k, k < 0 → parseFieldDescriptor (TX9 k).2.2.1 = some (tyX9 k) := by decide +kernel
def RJx145de : String := "java/io/Serializable"
def TJx145de : u_T := fun k => match k with
  | _ => ("", "", "", false)
def tyJx145de : Nat → FieldType := fun k => match k with
  | _ => .int
abbrev wsJx145de0 : List Cond := u_ws RJx145de TJx145de 0
theorem nmJx145de : ∀ a, a < 0 → ∀ b, b < 0 → a ≠ b → (TJx145de a).2.1 ≠ (TJx145de b).2.1 := by decide +kernel
theorem tyJx145de_ok : ∀ k, k < 0 → parseFieldDescriptor (TJx145de k).2.2.1 = some (tyJx145de k) := by decide +kernel
def RJ9 : String := "java/lang/Math"
def TJ9 : u_T := fun k => match k with
  | _ => ("", "", "", false)
def tyJ9 : Nat → FieldType := fun k => match k with
  | _ => .int
abbrev wsJ90 : List Cond := u_ws RJ9 TJ9 0
theorem nmJ9 : ∀ a, a < 0 → ∀ b, b < 0 → a ≠ b → (TJ9 a).2.1 ≠ (TJ9 b).2.1 := by decide +kernel
theorem tyJ9_ok : ∀ k, k < 0 → parseFieldDescriptor (TJ9 k).2.2.1 = some (tyJ9 k) := by decide +kernel
abbrev cJ9_min_7cf53 : ByteArray := prog_16_method_69_code
def yJ9_min_7cf53 : MethodName := ⟨RJ9, "min", "(II)I"⟩
def RJ0 : String := "java/lang/String"
def TJ0 : u_T := fun k => match k with
  | _ => ("", "", "", false)
def tyJ0 : Nat → FieldType := fun k => match k with
  | _ => .int
abbrev wsJ00 : List Cond := u_ws RJ0 TJ0 0
theorem nmJ0 : ∀ a, a < 0 → ∀ b, b < 0 → a ≠ b → (TJ0 a).2.1 ≠ (TJ0 b).2.1 := by decide +kernel
theorem tyJ0_ok : ∀ k, k < 0 → parseFieldDescriptor (TJ0 k).2.2.1 = some (tyJ0 k) := by decide +kernel
def RJ10 : String := "java/lang/System"
def TJ10 : u_T := fun k => match k with
  | _ => ("", "", "", false)
def tyJ10 : Nat → FieldType := fun k => match k with
  | _ => .int
abbrev wsJ100 : List Cond := u_ws RJ10 TJ10 0
theorem nmJ10 : ∀ a, a < 0 → ∀ b, b < 0 → a ≠ b → (TJ10 a).2.1 ≠ (TJ10 b).2.1 := by decide +kernel
theorem tyJ10_ok : ∀ k, k < 0 → parseFieldDescriptor (TJ10 k).2.2.1 = some (tyJ10 k) := by decide +kernel
def RJ7 : String := "java/util/Arrays"
def TJ7 : u_T := fun k => match k with
  | _ => ("", "", "", false)
def tyJ7 : Nat → FieldType := fun k => match k with
  | _ => .int
abbrev wsJ70 : List Cond := u_ws RJ7 TJ7 0
theorem nmJ7 : ∀ a, a < 0 → ∀ b, b < 0 → a ≠ b → (TJ7 a).2.1 ≠ (TJ7 b).2.1 := by decide +kernel
theorem tyJ7_ok : ∀ k, k < 0 → parseFieldDescriptor (TJ7 k).2.2.1 = some (tyJ7 k) := by decide +kernel
abbrev cJ7_fill_53178 : ByteArray := prog_21_method_103_code
def yJ7_fill_53178 : MethodName := ⟨RJ7, "fill", "([II)V"⟩
def RL : String := "KingTiesLaw"
abbrev cL_below : ByteArray := method_2_code
def yL_below : MethodName := ⟨RL, "below", "(II)I"⟩
abbrev cL_cell : ByteArray := method_3_code
def yL_cell : MethodName := ⟨RL, "cell", "([II)I"⟩
abbrev cL_act : ByteArray := method_4_code
def yL_act : MethodName := ⟨RL, "act", "(LKingTies;LKingTiesLaw$Sim;I)Z"⟩
abbrev cL_build : ByteArray := method_5_code
def yL_build : MethodName := ⟨RL, "build", "(LKingTies;[I)LKingTiesLaw$Sim;"⟩
abbrev cL_law : ByteArray := code
def yL_law : MethodName := ⟨RL, "law", "([I)Z"⟩
abbrev vwCl : List vw_C := [(RX0, TX0, 6), (RX1, TX1, 7), (RX2, TX2, 2), (RX3, TX3, 2), (RX4, TX4, 6), (RX5, TX5, 3), (RX6, TX6, 4), (RX7, TX7, 9), (RX8, TX8, 3)]
