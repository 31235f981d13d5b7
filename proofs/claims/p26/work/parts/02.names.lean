def RX0 : String := "Grainclock$Grain"
def TX0 : u_T := fun k => match k with
  | 0 => ("Grainclock$Grain", "number", "I", true)
  | 1 => ("Grainclock$Grain", "first", "LGrainclock$Motes;", true)
  | 2 => ("Grainclock$Grain", "second", "LGrainclock$Motes;", true)
  | 3 => ("Grainclock$Grain", "bed", "I", true)
  | 4 => ("Grainclock$Grain", "bornIn", "I", true)
  | 5 => ("Grainclock$Grain", "isTouched", "Z", false)
  | 6 => ("Grainclock$Grain", "early", "I", false)
  | 7 => ("Grainclock$Grain", "late", "I", false)
  | 8 => ("Grainclock$Grain", "clashes", "I", false)
  | _ => ("Grainclock$Grain", "runsThatStand", "I", false)
def tyX0 : Nat → FieldType := fun k => match k with
  | 0 => .int
  | 1 => .object "Grainclock$Motes"
  | 2 => .object "Grainclock$Motes"
  | 3 => .int
  | 4 => .int
  | 5 => .boolean
  | 6 => .int
  | 7 => .int
  | 8 => .int
  | _ => .int
theorem nmX0 : ∀ a, a < 10 → ∀ b, b < 10 → a ≠ b → (TX0 a).2.1 ≠ (TX0 b).2.1 := by decide +kernel
theorem tyX0_ok : ∀ k, k < 10 → parseFieldDescriptor (TX0 k).2.2.1 = some (tyX0 k) := by decide +kernel
def RX1 : String := "Grainclock$Motes"
def TX1 : u_T := fun k => match k with
  | 0 => ("Grainclock$Motes", "born", "I", true)
  | 1 => ("Grainclock$Motes", "mothers", "I", false)
  | 2 => ("Grainclock$Motes", "daughters", "I", false)
  | _ => ("Grainclock$Motes", "gone", "I", false)
def tyX1 : Nat → FieldType := fun k => match k with
  | 0 => .int
  | 1 => .int
  | 2 => .int
  | _ => .int
theorem nmX1 : ∀ a, a < 4 → ∀ b, b < 4 → a ≠ b → (TX1 a).2.1 ≠ (TX1 b).2.1 := by decide +kernel
theorem tyX1_ok : ∀ k, k < 4 → parseFieldDescriptor (TX1 k).2.2.1 = some (tyX1 k) := by decide +kernel
def RX2 : String := "Grainclock$Print"
def TX2 : u_T := fun k => match k with
  | 0 => ("Grainclock$Print", "number", "I", true)
  | 1 => ("Grainclock$Print", "run", "LGrainclock$Run;", true)
  | 2 => ("Grainclock$Print", "pace", "I", true)
  | _ => ("Grainclock$Print", "on", "LGrainclock$Print;", true)
def tyX2 : Nat → FieldType := fun k => match k with
  | 0 => .int
  | 1 => .object "Grainclock$Run"
  | 2 => .int
  | _ => .object "Grainclock$Print"
theorem nmX2 : ∀ a, a < 4 → ∀ b, b < 4 → a ≠ b → (TX2 a).2.1 ≠ (TX2 b).2.1 := by decide +kernel
theorem tyX2_ok : ∀ k, k < 4 → parseFieldDescriptor (TX2 k).2.2.1 = some (tyX2 k) := by decide +kernel
def RX3 : String := "Grainclock$Run"
def TX3 : u_T := fun k => match k with
  | 0 => ("Grainclock$Run", "number", "I", true)
  | 1 => ("Grainclock$Run", "clock", "I", true)
  | 2 => ("Grainclock$Run", "mothers", "I", true)
  | 3 => ("Grainclock$Run", "daughters", "I", true)
  | 4 => ("Grainclock$Run", "slip", "I", true)
  | 5 => ("Grainclock$Run", "madeIn", "I", true)
  | 6 => ("Grainclock$Run", "label", "LGrainclock$Grain;", false)
  | 7 => ("Grainclock$Run", "stands", "Z", false)
  | 8 => ("Grainclock$Run", "early", "I", false)
  | 9 => ("Grainclock$Run", "late", "I", false)
  | _ => ("Grainclock$Run", "missed", "I", false)
def tyX3 : Nat → FieldType := fun k => match k with
  | 0 => .int
  | 1 => .int
  | 2 => .int
  | 3 => .int
  | 4 => .int
  | 5 => .int
  | 6 => .object "Grainclock$Grain"
  | 7 => .boolean
  | 8 => .int
  | 9 => .int
  | _ => .int
theorem nmX3 : ∀ a, a < 11 → ∀ b, b < 11 → a ≠ b → (TX3 a).2.1 ≠ (TX3 b).2.1 := by decide +kernel
theorem tyX3_ok : ∀ k, k < 11 → parseFieldDescriptor (TX3 k).2.2.1 = some (tyX3 k) := by decide +kernel
def RX5 : String := "Grainclock"
def TX5 : u_T := fun k => match k with
  | 0 => ("Grainclock", "grains", "Ljava/util/ArrayList;", true)
  | 1 => ("Grainclock", "runs", "Ljava/util/ArrayList;", true)
  | 2 => ("Grainclock", "prints", "Ljava/util/ArrayList;", true)
  | 3 => ("Grainclock", "firstPace", "I", false)
  | 4 => ("Grainclock", "secondPace", "I", false)
  | 5 => ("Grainclock", "slip", "I", false)
  | _ => ("Grainclock", "yearsEver", "I", false)
def tyX5 : Nat → FieldType := fun k => match k with
  | 0 => .object "java/util/ArrayList"
  | 1 => .object "java/util/ArrayList"
  | 2 => .object "java/util/ArrayList"
  | 3 => .int
  | 4 => .int
  | 5 => .int
  | _ => .int
theorem nmX5 : ∀ a, a < 7 → ∀ b, b < 7 → a ≠ b → (TX5 a).2.1 ≠ (TX5 b).2.1 := by decide +kernel
theorem tyX5_ok : ∀ k, k < 7 → parseFieldDescriptor (TX5 k).2.2.1 = some (tyX5 k) := by decide +kernel
def RX6 : String := "GrainclockLaw$Out"
def TX6 : u_T := fun k => match k with
  | 0 => ("GrainclockLaw$Out", "n", "J", false)
  | _ => ("GrainclockLaw$Out", "s", "Ljava/lang/String;", false)
def tyX6 : Nat → FieldType := fun k => match k with
  | 0 => .long
  | _ => .object "java/lang/String"
theorem nmX6 : ∀ a, a < 2 → ∀ b, b < 2 → a ≠ b → (TX6 a).2.1 ≠ (TX6 b).2.1 := by decide +kernel
theorem tyX6_ok : ∀ k, k < 2 → parseFieldDescriptor (TX6 k).2.2.1 = some (tyX6 k) := by decide +kernel
def RX7 : String := "GrainclockModel$Grain"
def TX7 : u_T := fun k => match k with
  | 0 => ("GrainclockModel$Grain", "mothers", "[I", true)
  | 1 => ("GrainclockModel$Grain", "daughters", "[I", true)
  | 2 => ("GrainclockModel$Grain", "gone", "[I", true)
  | 3 => ("GrainclockModel$Grain", "born", "[I", true)
  | 4 => ("GrainclockModel$Grain", "year", "I", false)
  | 5 => ("GrainclockModel$Grain", "bed", "I", false)
  | _ => ("GrainclockModel$Grain", "isTouched", "Z", false)
def tyX7 : Nat → FieldType := fun k => match k with
  | 0 => .array .int
  | 1 => .array .int
  | 2 => .array .int
  | 3 => .array .int
  | 4 => .int
  | 5 => .int
  | _ => .boolean
theorem nmX7 : ∀ a, a < 7 → ∀ b, b < 7 → a ≠ b → (TX7 a).2.1 ≠ (TX7 b).2.1 := by decide +kernel
theorem tyX7_ok : ∀ k, k < 7 → parseFieldDescriptor (TX7 k).2.2.1 = some (tyX7 k) := by decide +kernel
def RX8 : String := "GrainclockModel$Run"
def TX8 : u_T := fun k => match k with
  | 0 => ("GrainclockModel$Run", "label", "I", false)
  | 1 => ("GrainclockModel$Run", "clock", "I", false)
  | 2 => ("GrainclockModel$Run", "mothers", "I", false)
  | 3 => ("GrainclockModel$Run", "daughters", "I", false)
  | 4 => ("GrainclockModel$Run", "slip", "I", false)
  | 5 => ("GrainclockModel$Run", "year", "I", false)
  | _ => ("GrainclockModel$Run", "isWithdrawn", "Z", false)
def tyX8 : Nat → FieldType := fun k => match k with
  | 0 => .int
  | 1 => .int
  | 2 => .int
  | 3 => .int
  | 4 => .int
  | 5 => .int
  | _ => .boolean
theorem nmX8 : ∀ a, a < 7 → ∀ b, b < 7 → a ≠ b → (TX8 a).2.1 ≠ (TX8 b).2.1 := by decide +kernel
theorem tyX8_ok : ∀ k, k < 7 → parseFieldDescriptor (TX8 k).2.2.1 = some (tyX8 k) := by decide +kernel
def RX9 : String := "GrainclockModel"
def TX9 : u_T := fun k => match k with
  | 0 => ("GrainclockModel", "thrown", "I", false)
  | 1 => ("GrainclockModel", "paces", "[I", true)
  | 2 => ("GrainclockModel", "years", "I", false)
  | 3 => ("GrainclockModel", "slip", "I", false)
  | 4 => ("GrainclockModel", "grains", "Ljava/util/ArrayList;", true)
  | 5 => ("GrainclockModel", "runs", "Ljava/util/ArrayList;", true)
  | 6 => ("GrainclockModel", "prints", "Ljava/util/ArrayList;", true)
  | _ => ("GrainclockModel", "sum", "J", false)
def tyX9 : Nat → FieldType := fun k => match k with
  | 0 => .int
  | 1 => .array .int
  | 2 => .int
  | 3 => .int
  | 4 => .object "java/util/ArrayList"
  | 5 => .object "java/util/ArrayList"
  | 6 => .object "java/util/ArrayList"
  | _ => .long
theorem nmX9 : ∀ a, a < 8 → ∀ b, b < 8 → a ≠ b → (TX9 a).2.1 ≠ (TX9 b).2.1 := by decide +kernel
theorem tyX9_ok : ∀ k, k < 8 → parseFieldDescriptor (TX9 k).2.2.1 = some (tyX9 k) := by decide +kernel
def RJ0 : String := "java/lang/String"
def TJ0 : u_T := fun k => match k with
  | 0 => ("java/lang/String", "value", "[B", true)
  | 1 => ("java/lang/String", "coder", "B", true)
  | 2 => ("java/lang/String", "hash", "I", false)
  | _ => ("java/lang/String", "hashIsZero", "Z", false)
def tyJ0 : Nat → FieldType := fun k => match k with
  | 0 => .array .byte
  | 1 => .byte
  | 2 => .int
  | _ => .boolean
theorem nmJ0 : ∀ a, a < 4 → ∀ b, b < 4 → a ≠ b → (TJ0 a).2.1 ≠ (TJ0 b).2.1 := by decide +kernel
theorem tyJ0_ok : ∀ k, k < 4 → parseFieldDescriptor (TJ0 k).2.2.1 = some (tyJ0 k) := by decide +kernel
def RJ4 : String := "java/lang/StringBuilder"
def TJ4 : u_T := fun k => match k with
  | 0 => ("java/lang/AbstractStringBuilder", "value", "[B", false)
  | 1 => ("java/lang/AbstractStringBuilder", "coder", "B", false)
  | 2 => ("java/lang/AbstractStringBuilder", "maybeLatin1", "Z", false)
  | _ => ("java/lang/AbstractStringBuilder", "count", "I", false)
def tyJ4 : Nat → FieldType := fun k => match k with
  | 0 => .array .byte
  | 1 => .byte
  | 2 => .boolean
  | _ => .int
theorem nmJ4 : ∀ a, a < 4 → ∀ b, b < 4 → a ≠ b → (TJ4 a).2.1 ≠ (TJ4 b).2.1 := by decide +kernel
theorem tyJ4_ok : ∀ k, k < 4 → parseFieldDescriptor (TJ4 k).2.2.1 = some (tyJ4 k) := by decide +kernel
def RJx35411 : String := "java/util/ArrayList$Itr"
def TJx35411 : u_T := fun k => match k with
  | 0 => ("java/util/ArrayList$Itr", "cursor", "I", false)
  | 1 => ("java/util/ArrayList$Itr", "lastRet", "I", false)
  | 2 => ("java/util/ArrayList$Itr", "expectedModCount", "I", false)
  | _ => ("java/util/ArrayList$Itr", "this$0", "Ljava/util/ArrayList;", true)
def tyJx35411 : Nat → FieldType := fun k => match k with
  | 0 => .int
  | 1 => .int
  | 2 => .int
  | _ => .object "java/util/ArrayList"
theorem nmJx35411 : ∀ a, a < 4 → ∀ b, b < 4 → a ≠ b → (TJx35411 a).2.1 ≠ (TJx35411 b).2.1 := by decide +kernel
theorem tyJx35411_ok : ∀ k, k < 4 → parseFieldDescriptor (TJx35411 k).2.2.1 = some (tyJx35411 k) := by decide +kernel
def RJx4a65c : String := "java/util/ArrayList"
def TJx4a65c : u_T := fun k => match k with
  | 0 => ("java/util/AbstractList", "modCount", "I", false)
  | 1 => ("java/util/ArrayList", "elementData", "[Ljava/lang/Object;", false)
  | _ => ("java/util/ArrayList", "size", "I", false)
def tyJx4a65c : Nat → FieldType := fun k => match k with
  | 0 => .int
  | 1 => .array (.object "java/lang/Object")
  | _ => .int
theorem nmJx4a65c : ∀ a, a < 3 → ∀ b, b < 3 → a ≠ b → (TJx4a65c a).2.1 ≠ (TJx4a65c b).2.1 := by decide +kernel
theorem tyJx4a65c_ok : ∀ k, k < 3 → parseFieldDescriptor (TJx4a65c k).2.2.1 = some (tyJx4a65c k) := by decide +kernel
abbrev vwCl : List vw_C := [(RJ0, TJ0, 4), (RJ4, TJ4, 4), (RJx35411, TJx35411, 4), (RJx4a65c, TJx4a65c, 3), (RX0, TX0, 10), (RX1, TX1, 4), (RX2, TX2, 4), (RX3, TX3, 11), (RX5, TX5, 7), (RX6, TX6, 2), (RX7, TX7, 7), (RX8, TX8, 7), (RX9, TX9, 8)]
