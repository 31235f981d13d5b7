/-! by number: the classes and their fields, the methods -/
def j_fty (c k : Nat) : FieldType := match c with
  | 0 => tyJ0 k
  | 1 => tyJ4 k
  | 2 => tyJx35411 k
  | 3 => tyJx4a65c k
  | 4 => tyX0 k
  | 5 => tyX1 k
  | 6 => tyX2 k
  | 7 => tyX3 k
  | 8 => tyX5 k
  | 9 => tyX6 k
  | 10 => tyX7 k
  | 11 => tyX8 k
  | 12 => tyX9 k
  | _ => .int
def j_fok : FieldType → Bool
  | .float => false
  | .double => false
  | _ => true
def j_clF (c : Nat) (r : vw_C) : Prop := (∀ w ∈ u_ws r.1 r.2.1 r.2.2, w ∈ TB) ∧ (∀ a, a < r.2.2 → ∀ b, b < r.2.2 → a ≠ b → (r.2.1 a).2.1 ≠ (r.2.1 b).2.1) ∧ (∀ k, k < r.2.2 → parseFieldDescriptor (r.2.1 k).2.2.1 = some (j_fty c k)) ∧ (∀ k, k < r.2.2 → j_fok (j_fty c k) = true)
theorem j_clF_0 : j_clF 0 (RJ0, TJ0, 4) := ⟨List.forall_mem_cons.mpr ⟨tw_5_89, List.forall_mem_cons.mpr ⟨tw_5_91, List.forall_mem_cons.mpr ⟨tw_5_93, List.forall_mem_cons.mpr ⟨tw_5_95, fun _ h => (nomatch h)⟩⟩⟩⟩, nmJ0, tyJ0_ok, by decide +kernel⟩
theorem j_clF_1 : j_clF 1 (RJ4, TJ4, 4) := ⟨List.forall_mem_cons.mpr ⟨tw_4_112, List.forall_mem_cons.mpr ⟨tw_4_114, List.forall_mem_cons.mpr ⟨tw_4_116, List.forall_mem_cons.mpr ⟨tw_4_118, fun _ h => (nomatch h)⟩⟩⟩⟩, nmJ4, tyJ4_ok, by decide +kernel⟩
theorem j_clF_2 : j_clF 2 (RJx35411, TJx35411, 4) := ⟨List.forall_mem_cons.mpr ⟨tw_5_234, List.forall_mem_cons.mpr ⟨tw_5_236, List.forall_mem_cons.mpr ⟨tw_5_238, List.forall_mem_cons.mpr ⟨tw_6_0, fun _ h => (nomatch h)⟩⟩⟩⟩, nmJx35411, tyJx35411_ok, by decide +kernel⟩
theorem j_clF_3 : j_clF 3 (RJx4a65c, TJx4a65c, 3) := ⟨List.forall_mem_cons.mpr ⟨tw_1_68, List.forall_mem_cons.mpr ⟨tw_1_64, List.forall_mem_cons.mpr ⟨tw_1_66, fun _ h => (nomatch h)⟩⟩⟩, nmJx4a65c, tyJx4a65c_ok, by decide +kernel⟩
theorem j_clF_4 : j_clF 4 (RX0, TX0, 10) := ⟨List.forall_mem_cons.mpr ⟨tw_2_228, List.forall_mem_cons.mpr ⟨tw_2_230, List.forall_mem_cons.mpr ⟨tw_2_232, List.forall_mem_cons.mpr ⟨tw_2_234, List.forall_mem_cons.mpr ⟨tw_2_236, List.forall_mem_cons.mpr ⟨tw_2_238, List.forall_mem_cons.mpr ⟨tw_3_0, List.forall_mem_cons.mpr ⟨tw_3_2, List.forall_mem_cons.mpr ⟨tw_3_4, List.forall_mem_cons.mpr ⟨tw_3_6, fun _ h => (nomatch h)⟩⟩⟩⟩⟩⟩⟩⟩⟩⟩, nmX0, tyX0_ok, by decide +kernel⟩
theorem j_clF_5 : j_clF 5 (RX1, TX1, 4) := ⟨List.forall_mem_cons.mpr ⟨tw_2_199, List.forall_mem_cons.mpr ⟨tw_2_201, List.forall_mem_cons.mpr ⟨tw_2_203, List.forall_mem_cons.mpr ⟨tw_2_205, fun _ h => (nomatch h)⟩⟩⟩⟩, nmX1, tyX1_ok, by decide +kernel⟩
theorem j_clF_6 : j_clF 6 (RX2, TX2, 4) := ⟨List.forall_mem_cons.mpr ⟨tw_4_30, List.forall_mem_cons.mpr ⟨tw_4_32, List.forall_mem_cons.mpr ⟨tw_4_34, List.forall_mem_cons.mpr ⟨tw_4_36, fun _ h => (nomatch h)⟩⟩⟩⟩, nmX2, tyX2_ok, by decide +kernel⟩
theorem j_clF_7 : j_clF 7 (RX3, TX3, 11) := ⟨List.forall_mem_cons.mpr ⟨tw_3_200, List.forall_mem_cons.mpr ⟨tw_3_202, List.forall_mem_cons.mpr ⟨tw_3_204, List.forall_mem_cons.mpr ⟨tw_3_206, List.forall_mem_cons.mpr ⟨tw_3_208, List.forall_mem_cons.mpr ⟨tw_3_210, List.forall_mem_cons.mpr ⟨tw_3_212, List.forall_mem_cons.mpr ⟨tw_3_214, List.forall_mem_cons.mpr ⟨tw_3_216, List.forall_mem_cons.mpr ⟨tw_3_218, List.forall_mem_cons.mpr ⟨tw_3_220, fun _ h => (nomatch h)⟩⟩⟩⟩⟩⟩⟩⟩⟩⟩⟩, nmX3, tyX3_ok, by decide +kernel⟩
theorem j_clF_8 : j_clF 8 (RX5, TX5, 7) := ⟨List.forall_mem_cons.mpr ⟨tw_1_78, List.forall_mem_cons.mpr ⟨tw_1_80, List.forall_mem_cons.mpr ⟨tw_1_82, List.forall_mem_cons.mpr ⟨tw_1_84, List.forall_mem_cons.mpr ⟨tw_1_86, List.forall_mem_cons.mpr ⟨tw_1_88, List.forall_mem_cons.mpr ⟨tw_1_90, fun _ h => (nomatch h)⟩⟩⟩⟩⟩⟩⟩, nmX5, tyX5_ok, by decide +kernel⟩
theorem j_clF_9 : j_clF 9 (RX6, TX6, 2) := ⟨List.forall_mem_cons.mpr ⟨tw_2_83, List.forall_mem_cons.mpr ⟨tw_2_85, fun _ h => (nomatch h)⟩⟩, nmX6, tyX6_ok, by decide +kernel⟩
theorem j_clF_10 : j_clF 10 (RX7, TX7, 7) := ⟨List.forall_mem_cons.mpr ⟨tw_5_200, List.forall_mem_cons.mpr ⟨tw_5_202, List.forall_mem_cons.mpr ⟨tw_5_204, List.forall_mem_cons.mpr ⟨tw_5_206, List.forall_mem_cons.mpr ⟨tw_5_208, List.forall_mem_cons.mpr ⟨tw_5_210, List.forall_mem_cons.mpr ⟨tw_5_212, fun _ h => (nomatch h)⟩⟩⟩⟩⟩⟩⟩, nmX7, tyX7_ok, by decide +kernel⟩
theorem j_clF_11 : j_clF 11 (RX8, TX8, 7) := ⟨List.forall_mem_cons.mpr ⟨tw_6_74, List.forall_mem_cons.mpr ⟨tw_6_76, List.forall_mem_cons.mpr ⟨tw_6_78, List.forall_mem_cons.mpr ⟨tw_6_80, List.forall_mem_cons.mpr ⟨tw_6_82, List.forall_mem_cons.mpr ⟨tw_6_84, List.forall_mem_cons.mpr ⟨tw_6_86, fun _ h => (nomatch h)⟩⟩⟩⟩⟩⟩⟩, nmX8, tyX8_ok, by decide +kernel⟩
theorem j_clF_12 : j_clF 12 (RX9, TX9, 8) := ⟨List.forall_mem_cons.mpr ⟨tw_5_153, List.forall_mem_cons.mpr ⟨tw_5_155, List.forall_mem_cons.mpr ⟨tw_5_157, List.forall_mem_cons.mpr ⟨tw_5_159, List.forall_mem_cons.mpr ⟨tw_5_161, List.forall_mem_cons.mpr ⟨tw_5_163, List.forall_mem_cons.mpr ⟨tw_5_165, List.forall_mem_cons.mpr ⟨tw_5_167, fun _ h => (nomatch h)⟩⟩⟩⟩⟩⟩⟩⟩, nmX9, tyX9_ok, by decide +kernel⟩
theorem j_cls : ∀ (c : Nat) (r : vw_C), vwCl[c]? = some r → j_clF c r := by
  intro c r h
  match c, h with
  | 0, h => exact (Option.some.inj h) ▸ j_clF_0
  | 1, h => exact (Option.some.inj h) ▸ j_clF_1
  | 2, h => exact (Option.some.inj h) ▸ j_clF_2
  | 3, h => exact (Option.some.inj h) ▸ j_clF_3
  | 4, h => exact (Option.some.inj h) ▸ j_clF_4
  | 5, h => exact (Option.some.inj h) ▸ j_clF_5
  | 6, h => exact (Option.some.inj h) ▸ j_clF_6
  | 7, h => exact (Option.some.inj h) ▸ j_clF_7
  | 8, h => exact (Option.some.inj h) ▸ j_clF_8
  | 9, h => exact (Option.some.inj h) ▸ j_clF_9
  | 10, h => exact (Option.some.inj h) ▸ j_clF_10
  | 11, h => exact (Option.some.inj h) ▸ j_clF_11
  | 12, h => exact (Option.some.inj h) ▸ j_clF_12
  | _ + 13, h => exact nomatch h
def j_nest : List Cond := [(Jvm.Cond.fieldLinkNest "java/util/ArrayList$Itr" (28 : Nat) "java/util/ArrayList" "size" "I" "java/util/ArrayList"), (Jvm.Cond.methodLinkNest "GrainclockLaw" (99 : Nat) ({ cls := "GrainclockLaw$Out", name := "<init>", desc := "()V" } : Jvm.MethodName) "GrainclockLaw"), (Jvm.Cond.fieldLinkNest "GrainclockLaw" (13 : Nat) "GrainclockLaw$Out" "n" "J" "GrainclockLaw"), (Jvm.Cond.fieldLinkNest "GrainclockLaw" (78 : Nat) "GrainclockLaw$Out" "s" "Ljava/lang/String;" "GrainclockLaw"), (Jvm.Cond.methodLinkNest "GrainclockModel" (47 : Nat) ({ cls := "GrainclockModel$Grain", name := "<init>", desc := "()V" } : Jvm.MethodName) "GrainclockModel"), (Jvm.Cond.fieldLinkNest "GrainclockModel" (48 : Nat) "GrainclockModel$Grain" "mothers" "[I" "GrainclockModel"), (Jvm.Cond.fieldLinkNest "GrainclockModel" (85 : Nat) "GrainclockModel$Grain" "daughters" "[I" "GrainclockModel"), (Jvm.Cond.fieldLinkNest "GrainclockModel" (96 : Nat) "GrainclockModel$Grain" "gone" "[I" "GrainclockModel"), (Jvm.Cond.fieldLinkNest "GrainclockModel" (51 : Nat) "GrainclockModel$Grain" "born" "[I" "GrainclockModel"), (Jvm.Cond.fieldLinkNest "GrainclockModel" (57 : Nat) "GrainclockModel$Grain" "year" "I" "GrainclockModel"), (Jvm.Cond.fieldLinkNest "GrainclockModel" (60 : Nat) "GrainclockModel$Grain" "bed" "I" "GrainclockModel"), (Jvm.Cond.fieldLinkNest "GrainclockModel" (92 : Nat) "GrainclockModel$Grain" "isTouched" "Z" "GrainclockModel"), (Jvm.Cond.methodLinkNest "GrainclockModel" (113 : Nat) ({ cls := "GrainclockModel$Run", name := "<init>", desc := "()V" } : Jvm.MethodName) "GrainclockModel"), (Jvm.Cond.fieldLinkNest "GrainclockModel" (114 : Nat) "GrainclockModel$Run" "label" "I" "GrainclockModel"), (Jvm.Cond.fieldLinkNest "GrainclockModel" (117 : Nat) "GrainclockModel$Run" "clock" "I" "GrainclockModel"), (Jvm.Cond.fieldLinkNest "GrainclockModel" (126 : Nat) "GrainclockModel$Run" "mothers" "I" "GrainclockModel"), (Jvm.Cond.fieldLinkNest "GrainclockModel" (128 : Nat) "GrainclockModel$Run" "daughters" "I" "GrainclockModel"), (Jvm.Cond.fieldLinkNest "GrainclockModel" (130 : Nat) "GrainclockModel$Run" "slip" "I" "GrainclockModel"), (Jvm.Cond.fieldLinkNest "GrainclockModel" (131 : Nat) "GrainclockModel$Run" "year" "I" "GrainclockModel"), (Jvm.Cond.fieldLinkNest "GrainclockModel" (145 : Nat) "GrainclockModel$Run" "isWithdrawn" "Z" "GrainclockModel")]
def j_strs : List (String × Nat × String) := [("Grainclock", 41, "mothers or a bed that cannot be"), ("Grainclock", 52, "no more grains"), ("Grainclock", 69, "so many years cannot go by at once"), ("Grainclock", 71, "too many years ever"), ("Grainclock", 94, "no such grain"), ("Grainclock", 97, "no such share"), ("Grainclock", 113, "no such clock"), ("Grainclock", 115, "no such pace"), ("Grainclock", 128, "no such slip"), ("Grainclock", 130, "no such grain or clock"), ("Grainclock", 132, "an error beyond the slip"), ("Grainclock", 134, "no more runs"), ("Grainclock", 158, "no such run"), ("Grainclock", 163, "the run is withdrawn already"), ("Grainclock", 168, "a run is not swapped with itself"), ("Grainclock", 180, "no such run or print"), ("Grainclock", 188, "nothing can be printed on that"), ("Grainclock", 193, "no such question"), ("Grainclock", 221, "no such print"), ("java/util/Arrays", 337, " > "), ("Grainclock", 244, "mothers or years that the table does not have"), ("Grainclock", 252, "so many motes cannot be"), ("Grainclock", 274, "no such grain or run"), ("Grainclock", 276, "the run is withdrawn"), ("GrainclockModel", 234, "")]
def j_ys : List MethodName := [({ cls := "java/lang/AbstractStringBuilder", name := "<init>", desc := "(I)V" } : Jvm.MethodName),
  ({ cls := "java/lang/AbstractStringBuilder", name := "append", desc := "(C)Ljava/lang/AbstractStringBuilder;" } : Jvm.MethodName),
  ({ cls := "java/lang/AbstractStringBuilder", name := "append", desc := "(I)Ljava/lang/AbstractStringBuilder;" } : Jvm.MethodName),
  ({ cls := "java/lang/AbstractStringBuilder", name := "append", desc := "(Ljava/lang/String;)Ljava/lang/AbstractStringBuilder;" } : Jvm.MethodName),
  ({ cls := "java/lang/AbstractStringBuilder", name := "appendNull", desc := "()Ljava/lang/AbstractStringBuilder;" } : Jvm.MethodName),
  ({ cls := "java/lang/AbstractStringBuilder", name := "ensureCapacityInternal", desc := "(I)V" } : Jvm.MethodName),
  ({ cls := "java/lang/AbstractStringBuilder", name := "getValue", desc := "()[B" } : Jvm.MethodName),
  ({ cls := "java/lang/AbstractStringBuilder", name := "inflate", desc := "()V" } : Jvm.MethodName),
  ({ cls := "java/lang/AbstractStringBuilder", name := "inflateIfNeededFor", desc := "(Ljava/lang/String;)V" } : Jvm.MethodName),
  ({ cls := "java/lang/AbstractStringBuilder", name := "isLatin1", desc := "()Z" } : Jvm.MethodName),
  ({ cls := "java/lang/AbstractStringBuilder", name := "length", desc := "()I" } : Jvm.MethodName),
  ({ cls := "java/lang/AbstractStringBuilder", name := "newCapacity", desc := "(I)I" } : Jvm.MethodName),
  ({ cls := "java/lang/AbstractStringBuilder", name := "putStringAt", desc := "(ILjava/lang/String;)V" } : Jvm.MethodName),
  ({ cls := "java/lang/Integer", name := "bitCount", desc := "(I)I" } : Jvm.MethodName),
  ({ cls := "java/lang/Integer", name := "getChars", desc := "(II[B)I" } : Jvm.MethodName),
  ({ cls := "java/lang/Integer", name := "stringSize", desc := "(I)I" } : Jvm.MethodName),
  ({ cls := "java/lang/Math", name := "max", desc := "(II)I" } : Jvm.MethodName),
  ({ cls := "java/lang/Math", name := "min", desc := "(II)I" } : Jvm.MethodName),
  ({ cls := "java/lang/String", name := "<init>", desc := "(Ljava/lang/AbstractStringBuilder;Ljava/lang/Void;)V" } : Jvm.MethodName),
  ({ cls := "java/lang/String", name := "<init>", desc := "(Ljava/lang/StringBuilder;)V" } : Jvm.MethodName),
  ({ cls := "java/lang/String", name := "checkBoundsBeginEnd", desc := "(III)V" } : Jvm.MethodName),
  ({ cls := "java/lang/String", name := "checkBoundsOffCount", desc := "(III)I" } : Jvm.MethodName),
  ({ cls := "java/lang/String", name := "checkIndex", desc := "(II)V" } : Jvm.MethodName),
  ({ cls := "java/lang/String", name := "coder", desc := "()B" } : Jvm.MethodName),
  ({ cls := "java/lang/String", name := "getBytes", desc := "([BIB)V" } : Jvm.MethodName),
  ({ cls := "java/lang/String", name := "length", desc := "()I" } : Jvm.MethodName),
  ({ cls := "java/lang/StringBuilder", name := "<init>", desc := "()V" } : Jvm.MethodName),
  ({ cls := "java/lang/StringBuilder", name := "append", desc := "(C)Ljava/lang/StringBuilder;" } : Jvm.MethodName),
  ({ cls := "java/lang/StringBuilder", name := "append", desc := "(I)Ljava/lang/StringBuilder;" } : Jvm.MethodName),
  ({ cls := "java/lang/StringBuilder", name := "append", desc := "(Ljava/lang/String;)Ljava/lang/StringBuilder;" } : Jvm.MethodName),
  ({ cls := "java/lang/StringBuilder", name := "length", desc := "()I" } : Jvm.MethodName),
  ({ cls := "java/lang/StringBuilder", name := "toString", desc := "()Ljava/lang/String;" } : Jvm.MethodName),
  ({ cls := "java/lang/StringLatin1", name := "canEncode", desc := "(C)Z" } : Jvm.MethodName),
  ({ cls := "java/lang/StringLatin1", name := "inflate", desc := "([BI[BII)V" } : Jvm.MethodName),
  ({ cls := "java/lang/StringUTF16", name := "checkBoundsBeginEnd", desc := "(II[B)V" } : Jvm.MethodName),
  ({ cls := "java/lang/StringUTF16", name := "checkBoundsOffCount", desc := "(II[B)V" } : Jvm.MethodName),
  ({ cls := "java/lang/StringUTF16", name := "checkIndex", desc := "(I[B)V" } : Jvm.MethodName),
  ({ cls := "java/lang/StringUTF16", name := "coderFromArrayLen", desc := "([BI)B" } : Jvm.MethodName),
  ({ cls := "java/lang/StringUTF16", name := "compress", desc := "([BII)[B" } : Jvm.MethodName),
  ({ cls := "java/lang/StringUTF16", name := "compress", desc := "([BI[BII)I" } : Jvm.MethodName),
  ({ cls := "java/lang/StringUTF16", name := "getChar", desc := "([BI)C" } : Jvm.MethodName),
  ({ cls := "java/lang/StringUTF16", name := "getChars", desc := "(III[B)I" } : Jvm.MethodName),
  ({ cls := "java/lang/StringUTF16", name := "getChars", desc := "(II[B)I" } : Jvm.MethodName),
  ({ cls := "java/lang/StringUTF16", name := "inflate", desc := "([BI[BII)V" } : Jvm.MethodName),
  ({ cls := "java/lang/StringUTF16", name := "length", desc := "([B)I" } : Jvm.MethodName),
  ({ cls := "java/lang/StringUTF16", name := "newBytesFor", desc := "(I)[B" } : Jvm.MethodName),
  ({ cls := "java/lang/StringUTF16", name := "newBytesLength", desc := "(I)I" } : Jvm.MethodName),
  ({ cls := "java/lang/StringUTF16", name := "putChar", desc := "([BII)V" } : Jvm.MethodName),
  ({ cls := "java/lang/StringUTF16", name := "putCharSB", desc := "([BII)V" } : Jvm.MethodName),
  ({ cls := "java/lang/StringUTF16", name := "putCharsAt", desc := "([BICCCC)I" } : Jvm.MethodName),
  ({ cls := "java/util/AbstractCollection", name := "<init>", desc := "()V" } : Jvm.MethodName),
  ({ cls := "java/util/AbstractList", name := "<init>", desc := "()V" } : Jvm.MethodName),
  ({ cls := "java/util/ArrayList", name := "<init>", desc := "()V" } : Jvm.MethodName),
  ({ cls := "java/util/ArrayList", name := "add", desc := "(Ljava/lang/Object;)Z" } : Jvm.MethodName),
  ({ cls := "java/util/ArrayList", name := "add", desc := "(Ljava/lang/Object;[Ljava/lang/Object;I)V" } : Jvm.MethodName),
  ({ cls := "java/util/ArrayList", name := "elementData", desc := "(I)Ljava/lang/Object;" } : Jvm.MethodName),
  ({ cls := "java/util/ArrayList", name := "get", desc := "(I)Ljava/lang/Object;" } : Jvm.MethodName),
  ({ cls := "java/util/ArrayList", name := "grow", desc := "()[Ljava/lang/Object;" } : Jvm.MethodName),
  ({ cls := "java/util/ArrayList", name := "grow", desc := "(I)[Ljava/lang/Object;" } : Jvm.MethodName),
  ({ cls := "java/util/ArrayList", name := "iterator", desc := "()Ljava/util/Iterator;" } : Jvm.MethodName),
  ({ cls := "java/util/ArrayList", name := "size", desc := "()I" } : Jvm.MethodName),
  ({ cls := "java/util/ArrayList$Itr", name := "<init>", desc := "(Ljava/util/ArrayList;)V" } : Jvm.MethodName),
  ({ cls := "java/util/ArrayList$Itr", name := "checkForComodification", desc := "()V" } : Jvm.MethodName),
  ({ cls := "java/util/ArrayList$Itr", name := "hasNext", desc := "()Z" } : Jvm.MethodName),
  ({ cls := "java/util/ArrayList$Itr", name := "next", desc := "()Ljava/lang/Object;" } : Jvm.MethodName),
  ({ cls := "java/util/Arrays", name := "checkLength", desc := "(II)V" } : Jvm.MethodName),
  ({ cls := "java/util/Arrays", name := "copyOf", desc := "([BI)[B" } : Jvm.MethodName),
  ({ cls := "java/util/Arrays", name := "copyOf", desc := "([Ljava/lang/Object;I)[Ljava/lang/Object;" } : Jvm.MethodName),
  ({ cls := "java/util/Arrays", name := "copyOf", desc := "([Ljava/lang/Object;ILjava/lang/Class;)[Ljava/lang/Object;" } : Jvm.MethodName),
  ({ cls := "java/util/Arrays", name := "copyOfRange", desc := "([BII)[B" } : Jvm.MethodName),
  ({ cls := "java/util/Arrays", name := "copyOfRangeByte", desc := "([BII)[B" } : Jvm.MethodName),
  ({ cls := "java/util/Objects", name := "checkIndex", desc := "(II)I" } : Jvm.MethodName),
  ({ cls := "jdk/internal/util/ArraysSupport", name := "hugeLength", desc := "(II)I" } : Jvm.MethodName),
  ({ cls := "jdk/internal/util/ArraysSupport", name := "newLength", desc := "(III)I" } : Jvm.MethodName),
  ({ cls := "jdk/internal/util/Preconditions", name := "checkFromIndexSize", desc := "(IIILjava/util/function/BiFunction;)I" } : Jvm.MethodName),
  ({ cls := "jdk/internal/util/Preconditions", name := "checkFromToIndex", desc := "(IIILjava/util/function/BiFunction;)I" } : Jvm.MethodName),
  ({ cls := "jdk/internal/util/Preconditions", name := "checkIndex", desc := "(IILjava/util/function/BiFunction;)I" } : Jvm.MethodName),
  ({ cls := "Grainclock", name := "<init>", desc := "()V" } : Jvm.MethodName),
  ({ cls := "Grainclock", name := "age", desc := "(IIIZ)I" } : Jvm.MethodName),
  ({ cls := "Grainclock", name := "agree", desc := "(I)Z" } : Jvm.MethodName),
  ({ cls := "Grainclock", name := "allGrains", desc := "()I" } : Jvm.MethodName),
  ({ cls := "Grainclock", name := "allMotesAreThere", desc := "()Z" } : Jvm.MethodName),
  ({ cls := "Grainclock", name := "allStandFrom", desc := "(LGrainclock$Print;)Z" } : Jvm.MethodName),
  ({ cls := "Grainclock", name := "bestSwap", desc := "(Z)I" } : Jvm.MethodName),
  ({ cls := "Grainclock", name := "changed", desc := "(II)I" } : Jvm.MethodName),
  ({ cls := "Grainclock", name := "countDoubles", desc := "()I" } : Jvm.MethodName),
  ({ cls := "Grainclock", name := "countMotesEver", desc := "()I" } : Jvm.MethodName),
  ({ cls := "Grainclock", name := "countPrintsBelow", desc := "(LGrainclock$Print;)I" } : Jvm.MethodName),
  ({ cls := "Grainclock", name := "countPrintsThatStand", desc := "()I" } : Jvm.MethodName),
  ({ cls := "Grainclock", name := "countQuarrels", desc := "()I" } : Jvm.MethodName),
  ({ cls := "Grainclock", name := "countRunsLabelled", desc := "(LGrainclock$Grain;)I" } : Jvm.MethodName),
  ({ cls := "Grainclock", name := "countRunsThatStand", desc := "()I" } : Jvm.MethodName),
  ({ cls := "Grainclock", name := "digest", desc := "()J" } : Jvm.MethodName),
  ({ cls := "Grainclock", name := "digestGrains", desc := "(J)J" } : Jvm.MethodName),
  ({ cls := "Grainclock", name := "digestPrints", desc := "(J)J" } : Jvm.MethodName),
  ({ cls := "Grainclock", name := "digestRuns", desc := "(J)J" } : Jvm.MethodName),
  ({ cls := "Grainclock", name := "doublesLessBySwap", desc := "(LGrainclock$Run;LGrainclock$Run;)I" } : Jvm.MethodName),
  ({ cls := "Grainclock", name := "earlyOf", desc := "(LGrainclock$Grain;II)I" } : Jvm.MethodName),
  ({ cls := "Grainclock", name := "fewest", desc := "()I" } : Jvm.MethodName),
  ({ cls := "Grainclock", name := "findBestPair", desc := "()I" } : Jvm.MethodName),
  ({ cls := "Grainclock", name := "findFewest", desc := "()I" } : Jvm.MethodName),
  ({ cls := "Grainclock", name := "grain", desc := "(III)I" } : Jvm.MethodName),
  ({ cls := "Grainclock", name := "grainFact", desc := "(LGrainclock$Grain;I)I" } : Jvm.MethodName),
  ({ cls := "Grainclock", name := "heat", desc := "(II)I" } : Jvm.MethodName),
  ({ cls := "Grainclock", name := "isClock", desc := "(I)Z" } : Jvm.MethodName),
  ({ cls := "Grainclock", name := "isGrain", desc := "(I)Z" } : Jvm.MethodName),
  ({ cls := "Grainclock", name := "isPrint", desc := "(I)Z" } : Jvm.MethodName),
  ({ cls := "Grainclock", name := "isRun", desc := "(I)Z" } : Jvm.MethodName),
  ({ cls := "Grainclock", name := "isSound", desc := "()Z" } : Jvm.MethodName),
  ({ cls := "Grainclock", name := "isWithin", desc := "(III)Z" } : Jvm.MethodName),
  ({ cls := "Grainclock", name := "lab", desc := "(I)I" } : Jvm.MethodName),
  ({ cls := "Grainclock", name := "labFact", desc := "(I)I" } : Jvm.MethodName),
  ({ cls := "Grainclock", name := "lateOf", desc := "(LGrainclock$Grain;II)I" } : Jvm.MethodName),
  ({ cls := "Grainclock", name := "left", desc := "(III)I" } : Jvm.MethodName),
  ({ cls := "Grainclock", name := "markClashes", desc := "()V" } : Jvm.MethodName),
  ({ cls := "Grainclock", name := "markIfMissed", desc := "(LGrainclock$Run;LGrainclock$Run;)V" } : Jvm.MethodName),
  ({ cls := "Grainclock", name := "markIfOver", desc := "(LGrainclock$Grain;LGrainclock$Grain;)V" } : Jvm.MethodName),
  ({ cls := "Grainclock", name := "markRuns", desc := "()V" } : Jvm.MethodName),
  ({ cls := "Grainclock", name := "narrowed", desc := "(IZ)I" } : Jvm.MethodName),
  ({ cls := "Grainclock", name := "narrowedEarly", desc := "(LGrainclock$Grain;)I" } : Jvm.MethodName),
  ({ cls := "Grainclock", name := "narrowedLate", desc := "(LGrainclock$Grain;)I" } : Jvm.MethodName),
  ({ cls := "Grainclock", name := "noNarrowedSpanIsWider", desc := "()Z" } : Jvm.MethodName),
  ({ cls := "Grainclock", name := "ofGrain", desc := "(II)I" } : Jvm.MethodName),
  ({ cls := "Grainclock", name := "ofPrint", desc := "(II)I" } : Jvm.MethodName),
  ({ cls := "Grainclock", name := "ofRun", desc := "(II)I" } : Jvm.MethodName),
  ({ cls := "Grainclock", name := "oneIf", desc := "(Z)I" } : Jvm.MethodName),
  ({ cls := "Grainclock", name := "othersAgree", desc := "()Z" } : Jvm.MethodName),
  ({ cls := "Grainclock", name := "pace", desc := "(II)I" } : Jvm.MethodName),
  ({ cls := "Grainclock", name := "paceOf", desc := "(I)I" } : Jvm.MethodName),
  ({ cls := "Grainclock", name := "pass", desc := "(I)I" } : Jvm.MethodName),
  ({ cls := "Grainclock", name := "print", desc := "(II)I" } : Jvm.MethodName),
  ({ cls := "Grainclock", name := "printFact", desc := "(LGrainclock$Print;I)I" } : Jvm.MethodName),
  ({ cls := "Grainclock", name := "printsThatStandAreBorne", desc := "()Z" } : Jvm.MethodName),
  ({ cls := "Grainclock", name := "run", desc := "(IIII)I" } : Jvm.MethodName),
  ({ cls := "Grainclock", name := "runFact", desc := "(LGrainclock$Run;I)I" } : Jvm.MethodName),
  ({ cls := "Grainclock", name := "runOfPair", desc := "(IZ)I" } : Jvm.MethodName),
  ({ cls := "Grainclock", name := "slip", desc := "(I)I" } : Jvm.MethodName),
  ({ cls := "Grainclock", name := "span", desc := "(III)I" } : Jvm.MethodName),
  ({ cls := "Grainclock", name := "swap", desc := "(II)I" } : Jvm.MethodName),
  ({ cls := "Grainclock", name := "text", desc := "(I)Ljava/lang/String;" } : Jvm.MethodName),
  ({ cls := "Grainclock", name := "wash", desc := "(II)I" } : Jvm.MethodName),
  ({ cls := "Grainclock", name := "wider", desc := "(II)I" } : Jvm.MethodName),
  ({ cls := "Grainclock", name := "withdraw", desc := "(I)I" } : Jvm.MethodName),
  ({ cls := "Grainclock$Grain", name := "<init>", desc := "(ILGrainclock$Motes;LGrainclock$Motes;II)V" } : Jvm.MethodName),
  ({ cls := "Grainclock$Grain", name := "bit", desc := "()I" } : Jvm.MethodName),
  ({ cls := "Grainclock$Grain", name := "of", desc := "(I)LGrainclock$Motes;" } : Jvm.MethodName),
  ({ cls := "Grainclock$Motes", name := "<init>", desc := "(I)V" } : Jvm.MethodName),
  ({ cls := "Grainclock$Motes", name := "areAllThere", desc := "()Z" } : Jvm.MethodName),
  ({ cls := "Grainclock$Motes", name := "loseDaughters", desc := "(I)I" } : Jvm.MethodName),
  ({ cls := "Grainclock$Motes", name := "loseMothers", desc := "(I)I" } : Jvm.MethodName),
  ({ cls := "Grainclock$Motes", name := "turnFor", desc := "(II)V" } : Jvm.MethodName),
  ({ cls := "Grainclock$Print", name := "<init>", desc := "(ILGrainclock$Run;ILGrainclock$Print;)V" } : Jvm.MethodName),
  ({ cls := "Grainclock$Run", name := "<init>", desc := "(ILGrainclock$Grain;IIIII)V" } : Jvm.MethodName),
  ({ cls := "Grainclock$Run", name := "bit", desc := "()I" } : Jvm.MethodName),
  ({ cls := "Grainclock$Run", name := "countMissed", desc := "()I" } : Jvm.MethodName),
  ({ cls := "Grainclock$Run", name := "dateBy", desc := "(I)V" } : Jvm.MethodName),
  ({ cls := "Grainclock$Run", name := "earlyIn", desc := "(I)I" } : Jvm.MethodName),
  ({ cls := "Grainclock$Run", name := "lateIn", desc := "(I)I" } : Jvm.MethodName),
  ({ cls := "Grainclock$Run", name := "misses", desc := "(LGrainclock$Run;I)Z" } : Jvm.MethodName),
  ({ cls := "Grainclock$Run", name := "tellsOf", desc := "(LGrainclock$Grain;I)Z" } : Jvm.MethodName),
  ({ cls := "Grainclock$Run", name := "wouldMissItselfBy", desc := "(I)Z" } : Jvm.MethodName),
  ({ cls := "Grainclock$Table", name := "earlyBy", desc := "(IIII)I" } : Jvm.MethodName),
  ({ cls := "Grainclock$Table", name := "lateBy", desc := "(IIII)I" } : Jvm.MethodName),
  ({ cls := "Grainclock$Table", name := "leftBehind", desc := "(III)I" } : Jvm.MethodName),
  ({ cls := "Grainclock$Table", name := "turnedInYear", desc := "(II)I" } : Jvm.MethodName),
  ({ cls := "GrainclockModel", name := "<init>", desc := "()V" } : Jvm.MethodName),
  ({ cls := "GrainclockModel", name := "add", desc := "(J)V" } : Jvm.MethodName),
  ({ cls := "GrainclockModel", name := "age", desc := "(IIIZ)I" } : Jvm.MethodName),
  ({ cls := "GrainclockModel", name := "agree", desc := "([I[II)Z" } : Jvm.MethodName),
  ({ cls := "GrainclockModel", name := "bestSwap", desc := "(Z)I" } : Jvm.MethodName),
  ({ cls := "GrainclockModel", name := "changed", desc := "(II)I" } : Jvm.MethodName),
  ({ cls := "GrainclockModel", name := "counts", desc := "(III)Z" } : Jvm.MethodName),
  ({ cls := "GrainclockModel", name := "digest", desc := "()J" } : Jvm.MethodName),
  ({ cls := "GrainclockModel", name := "doubles", desc := "([I)I" } : Jvm.MethodName),
  ({ cls := "GrainclockModel", name := "earliest", desc := "(III)I" } : Jvm.MethodName),
  ({ cls := "GrainclockModel", name := "early", desc := "(LGrainclockModel$Run;I)I" } : Jvm.MethodName),
  ({ cls := "GrainclockModel", name := "earlyOf", desc := "([III)I" } : Jvm.MethodName),
  ({ cls := "GrainclockModel", name := "exchange", desc := "(II)V" } : Jvm.MethodName),
  ({ cls := "GrainclockModel", name := "fewest", desc := "()I" } : Jvm.MethodName),
  ({ cls := "GrainclockModel", name := "fewestNow", desc := "([I)I" } : Jvm.MethodName),
  ({ cls := "GrainclockModel", name := "grain", desc := "(III)I" } : Jvm.MethodName),
  ({ cls := "GrainclockModel", name := "heat", desc := "(II)I" } : Jvm.MethodName),
  ({ cls := "GrainclockModel", name := "is", desc := "(III)Z" } : Jvm.MethodName),
  ({ cls := "GrainclockModel", name := "isGrain", desc := "(I)Z" } : Jvm.MethodName),
  ({ cls := "GrainclockModel", name := "isRun", desc := "(I)Z" } : Jvm.MethodName),
  ({ cls := "GrainclockModel", name := "isSound", desc := "()Z" } : Jvm.MethodName),
  ({ cls := "GrainclockModel", name := "isSoundNow", desc := "([I)Z" } : Jvm.MethodName),
  ({ cls := "GrainclockModel", name := "lab", desc := "(I)I" } : Jvm.MethodName),
  ({ cls := "GrainclockModel", name := "labNow", desc := "([II)I" } : Jvm.MethodName),
  ({ cls := "GrainclockModel", name := "labels", desc := "(I)I" } : Jvm.MethodName),
  ({ cls := "GrainclockModel", name := "late", desc := "(LGrainclockModel$Run;I)I" } : Jvm.MethodName),
  ({ cls := "GrainclockModel", name := "lateOf", desc := "([III)I" } : Jvm.MethodName),
  ({ cls := "GrainclockModel", name := "latest", desc := "(III)I" } : Jvm.MethodName),
  ({ cls := "GrainclockModel", name := "left", desc := "(III)I" } : Jvm.MethodName),
  ({ cls := "GrainclockModel", name := "leftOf", desc := "(III)I" } : Jvm.MethodName),
  ({ cls := "GrainclockModel", name := "meet", desc := "([III)Z" } : Jvm.MethodName),
  ({ cls := "GrainclockModel", name := "motes", desc := "()I" } : Jvm.MethodName),
  ({ cls := "GrainclockModel", name := "narrowed", desc := "(IZ)I" } : Jvm.MethodName),
  ({ cls := "GrainclockModel", name := "narrowedNow", desc := "([IIZ)I" } : Jvm.MethodName),
  ({ cls := "GrainclockModel", name := "ofGrain", desc := "(II)I" } : Jvm.MethodName),
  ({ cls := "GrainclockModel", name := "ofGrainNow", desc := "(II)I" } : Jvm.MethodName),
  ({ cls := "GrainclockModel", name := "ofPrint", desc := "(II)I" } : Jvm.MethodName),
  ({ cls := "GrainclockModel", name := "ofPrintNow", desc := "(II)I" } : Jvm.MethodName),
  ({ cls := "GrainclockModel", name := "ofRun", desc := "(II)I" } : Jvm.MethodName),
  ({ cls := "GrainclockModel", name := "ofRunNow", desc := "(II)I" } : Jvm.MethodName),
  ({ cls := "GrainclockModel", name := "pace", desc := "(II)I" } : Jvm.MethodName),
  ({ cls := "GrainclockModel", name := "pass", desc := "(I)I" } : Jvm.MethodName),
  ({ cls := "GrainclockModel", name := "print", desc := "(II)I" } : Jvm.MethodName),
  ({ cls := "GrainclockModel", name := "quarrelling", desc := "([I)I" } : Jvm.MethodName),
  ({ cls := "GrainclockModel", name := "quarrels", desc := "([III)Z" } : Jvm.MethodName),
  ({ cls := "GrainclockModel", name := "refuse", desc := "(I)I" } : Jvm.MethodName),
  ({ cls := "GrainclockModel", name := "run", desc := "(IIII)I" } : Jvm.MethodName),
  ({ cls := "GrainclockModel", name := "slip", desc := "(I)I" } : Jvm.MethodName),
  ({ cls := "GrainclockModel", name := "span", desc := "(III)I" } : Jvm.MethodName),
  ({ cls := "GrainclockModel", name := "spans", desc := "()[I" } : Jvm.MethodName),
  ({ cls := "GrainclockModel", name := "standing", desc := "()I" } : Jvm.MethodName),
  ({ cls := "GrainclockModel", name := "standingRuns", desc := "()I" } : Jvm.MethodName),
  ({ cls := "GrainclockModel", name := "stands", desc := "(I)Z" } : Jvm.MethodName),
  ({ cls := "GrainclockModel", name := "standsOn", desc := "(I)I" } : Jvm.MethodName),
  ({ cls := "GrainclockModel", name := "swap", desc := "(II)I" } : Jvm.MethodName),
  ({ cls := "GrainclockModel", name := "swapNow", desc := "([I)I" } : Jvm.MethodName),
  ({ cls := "GrainclockModel", name := "takes", desc := "([I[III)I" } : Jvm.MethodName),
  ({ cls := "GrainclockModel", name := "text", desc := "(I)Ljava/lang/String;" } : Jvm.MethodName),
  ({ cls := "GrainclockModel", name := "touch", desc := "(IIZ)I" } : Jvm.MethodName),
  ({ cls := "GrainclockModel", name := "wash", desc := "(II)I" } : Jvm.MethodName),
  ({ cls := "GrainclockModel", name := "wider", desc := "(II)I" } : Jvm.MethodName),
  ({ cls := "GrainclockModel", name := "width", desc := "(I)I" } : Jvm.MethodName),
  ({ cls := "GrainclockModel", name := "withdraw", desc := "(I)I" } : Jvm.MethodName),
  ({ cls := "GrainclockModel$Grain", name := "<init>", desc := "()V" } : Jvm.MethodName),
  ({ cls := "GrainclockModel$Run", name := "<init>", desc := "()V" } : Jvm.MethodName),
  ({ cls := "GrainclockLaw", name := "age", desc := "(LGrainclock;IIIZLGrainclockLaw$Out;)I" } : Jvm.MethodName),
  ({ cls := "GrainclockLaw", name := "changed", desc := "(LGrainclock;IILGrainclockLaw$Out;)I" } : Jvm.MethodName),
  ({ cls := "GrainclockLaw", name := "grain", desc := "(LGrainclock;IIILGrainclockLaw$Out;)I" } : Jvm.MethodName),
  ({ cls := "GrainclockLaw", name := "heat", desc := "(LGrainclock;IILGrainclockLaw$Out;)I" } : Jvm.MethodName),
  ({ cls := "GrainclockLaw", name := "lab", desc := "(LGrainclock;ILGrainclockLaw$Out;)I" } : Jvm.MethodName),
  ({ cls := "GrainclockLaw", name := "left", desc := "(LGrainclock;IIILGrainclockLaw$Out;)I" } : Jvm.MethodName),
  ({ cls := "GrainclockLaw", name := "narrowed", desc := "(LGrainclock;IZLGrainclockLaw$Out;)I" } : Jvm.MethodName),
  ({ cls := "GrainclockLaw", name := "ofGrain", desc := "(LGrainclock;IILGrainclockLaw$Out;)I" } : Jvm.MethodName),
  ({ cls := "GrainclockLaw", name := "ofPrint", desc := "(LGrainclock;IILGrainclockLaw$Out;)I" } : Jvm.MethodName),
  ({ cls := "GrainclockLaw", name := "ofRun", desc := "(LGrainclock;IILGrainclockLaw$Out;)I" } : Jvm.MethodName),
  ({ cls := "GrainclockLaw", name := "pace", desc := "(LGrainclock;IILGrainclockLaw$Out;)I" } : Jvm.MethodName),
  ({ cls := "GrainclockLaw", name := "pass", desc := "(LGrainclock;ILGrainclockLaw$Out;)I" } : Jvm.MethodName),
  ({ cls := "GrainclockLaw", name := "print", desc := "(LGrainclock;IILGrainclockLaw$Out;)I" } : Jvm.MethodName),
  ({ cls := "GrainclockLaw", name := "run", desc := "(LGrainclock;IIIILGrainclockLaw$Out;)I" } : Jvm.MethodName),
  ({ cls := "GrainclockLaw", name := "slip", desc := "(LGrainclock;ILGrainclockLaw$Out;)I" } : Jvm.MethodName),
  ({ cls := "GrainclockLaw", name := "span", desc := "(LGrainclock;IIILGrainclockLaw$Out;)I" } : Jvm.MethodName),
  ({ cls := "GrainclockLaw", name := "swap", desc := "(LGrainclock;IILGrainclockLaw$Out;)I" } : Jvm.MethodName),
  ({ cls := "GrainclockLaw", name := "text", desc := "(LGrainclock;ILGrainclockLaw$Out;)I" } : Jvm.MethodName),
  ({ cls := "GrainclockLaw", name := "wash", desc := "(LGrainclock;IILGrainclockLaw$Out;)I" } : Jvm.MethodName),
  ({ cls := "GrainclockLaw", name := "wider", desc := "(LGrainclock;IILGrainclockLaw$Out;)I" } : Jvm.MethodName),
  ({ cls := "GrainclockLaw", name := "withdraw", desc := "(LGrainclock;ILGrainclockLaw$Out;)I" } : Jvm.MethodName),
  ({ cls := "GrainclockLaw$Out", name := "<init>", desc := "()V" } : Jvm.MethodName)]
def j_bs : List ByteArray := [prog_13_method_2_code, prog_13_method_31_code, prog_13_method_32_code, prog_13_method_22_code, prog_13_method_26_code, prog_13_method_9_code, prog_13_method_64_code, prog_13_method_11_code, prog_13_method_71_code, prog_13_method_68_code, prog_13_method_6_code, prog_13_method_10_code, prog_13_method_73_code, prog_22_method_49_code, prog_22_method_12_code, prog_22_method_13_code, prog_24_method_65_code, prog_24_method_69_code, prog_27_method_150_code, prog_27_method_53_code, prog_27_method_158_code, prog_27_method_157_code, prog_27_method_155_code, prog_27_method_152_code, prog_27_method_147_code, prog_27_method_54_code, prog_28_method_1_code, prog_28_method_14_code, prog_28_method_15_code, prog_28_method_7_code, prog_28_method_93_code, prog_28_method_42_code, prog_29_method_3_code, prog_29_method_50_code, prog_30_method_93_code, prog_30_method_94_code, prog_30_method_91_code, prog_30_method_15_code, prog_30_method_17_code, prog_30_method_22_code, prog_30_method_5_code, prog_30_method_77_code, prog_30_method_89_code, prog_30_method_86_code, prog_30_method_6_code, prog_30_method_2_code, prog_30_method_3_code, prog_30_method_4_code, prog_30_method_71_code, prog_30_method_81_code, prog_35_method_1_code, prog_36_method_1_code, prog_37_method_2_code, prog_37_method_25_code, prog_37_method_24_code, prog_37_method_18_code, prog_37_method_20_code, prog_37_method_7_code, prog_37_method_6_code, prog_37_method_55_code, prog_37_method_8_code, prog_38_method_1_code, prog_38_method_6_code, prog_38_method_2_code, prog_38_method_3_code, prog_39_method_131_code, prog_39_method_121_code, prog_39_method_119_code, prog_39_method_120_code, prog_39_method_132_code, prog_39_method_133_code, prog_43_method_17_code, prog_46_method_28_code, prog_46_method_27_code, prog_47_method_13_code, prog_47_method_12_code, prog_47_method_11_code, prog_1_method_1_code, prog_1_method_20_code, prog_1_method_52_code, prog_1_method_50_code, prog_1_method_63_code, prog_1_method_61_code, prog_1_method_22_code, prog_1_method_23_code, prog_1_method_55_code, prog_1_method_45_code, prog_1_method_62_code, prog_1_method_43_code, prog_1_method_44_code, prog_1_method_42_code, prog_1_method_41_code, prog_1_method_26_code, prog_1_method_27_code, prog_1_method_29_code, prog_1_method_28_code, prog_1_method_59_code, prog_1_method_46_code, prog_1_method_21_code, prog_1_method_58_code, prog_1_method_51_code, prog_1_method_2_code, prog_1_method_37_code, prog_1_method_4_code, prog_1_method_32_code, prog_1_method_33_code, prog_1_method_35_code, prog_1_method_34_code, prog_1_method_25_code, prog_1_method_30_code, prog_1_method_17_code, prog_1_method_40_code, prog_1_method_47_code, prog_1_method_19_code, prog_1_method_53_code, prog_1_method_57_code, prog_1_method_54_code, prog_1_method_56_code, prog_1_method_15_code, prog_1_method_48_code, prog_1_method_49_code, prog_1_method_64_code, prog_1_method_12_code, prog_1_method_16_code, prog_1_method_13_code, prog_1_method_31_code, prog_1_method_65_code, prog_1_method_6_code, prog_1_method_36_code, prog_1_method_3_code, prog_1_method_11_code, prog_1_method_39_code, prog_1_method_66_code, prog_1_method_8_code, prog_1_method_38_code, prog_1_method_60_code, prog_1_method_7_code, prog_1_method_14_code, prog_1_method_10_code, prog_1_method_18_code, prog_1_method_5_code, prog_1_method_24_code, prog_1_method_9_code, prog_2_method_1_code, prog_2_method_3_code, prog_2_method_2_code, prog_3_method_1_code, prog_3_method_5_code, prog_3_method_3_code, prog_3_method_4_code, prog_3_method_2_code, prog_4_method_1_code, prog_5_method_1_code, prog_5_method_9_code, prog_5_method_8_code, prog_5_method_2_code, prog_5_method_3_code, prog_5_method_4_code, prog_5_method_6_code, prog_5_method_5_code, prog_5_method_7_code, prog_6_method_4_code, prog_6_method_5_code, prog_6_method_3_code, prog_6_method_2_code, prog_9_method_1_code, prog_9_method_63_code, prog_9_method_55_code, prog_9_method_27_code, prog_9_method_57_code, prog_9_method_58_code, prog_9_method_22_code, prog_9_method_64_code, prog_9_method_30_code, prog_9_method_17_code, prog_9_method_19_code, prog_9_method_23_code, prog_9_method_31_code, prog_9_method_56_code, prog_9_method_28_code, prog_9_method_7_code, prog_9_method_12_code, prog_9_method_4_code, prog_9_method_5_code, prog_9_method_6_code, prog_9_method_62_code, prog_9_method_61_code, prog_9_method_52_code, prog_9_method_51_code, prog_9_method_41_code, prog_9_method_20_code, prog_9_method_24_code, prog_9_method_18_code, prog_9_method_54_code, prog_9_method_9_code, prog_9_method_29_code, prog_9_method_48_code, prog_9_method_47_code, prog_9_method_26_code, prog_9_method_43_code, prog_9_method_42_code, prog_9_method_40_code, prog_9_method_39_code, prog_9_method_45_code, prog_9_method_44_code, prog_9_method_14_code, prog_9_method_8_code, prog_9_method_37_code, prog_9_method_49_code, prog_9_method_25_code, prog_9_method_3_code, prog_9_method_16_code, prog_9_method_15_code, prog_9_method_46_code, prog_9_method_21_code, prog_9_method_35_code, prog_9_method_50_code, prog_9_method_34_code, prog_9_method_38_code, prog_9_method_33_code, prog_9_method_32_code, prog_9_method_10_code, prog_9_method_53_code, prog_9_method_11_code, prog_9_method_13_code, prog_9_method_60_code, prog_9_method_59_code, prog_9_method_36_code, prog_10_method_1_code, prog_11_method_1_code, method_20_code, method_21_code, method_2_code, method_4_code, method_17_code, method_19_code, method_15_code, method_12_code, method_16_code, method_13_code, method_6_code, method_3_code, method_11_code, method_8_code, method_7_code, method_14_code, method_10_code, method_18_code, method_5_code, method_22_code, method_9_code, prog_8_method_1_code]
def j_mls : List Nat := [2, 2, 4, 3, 3, 3, 1, 2, 2, 1, 1, 6, 3, 1, 7, 4, 2, 2, 5, 2, 3, 3, 2, 1, 4, 1, 1, 2, 2, 2, 1, 1, 1, 5, 3, 3, 2, 2, 6, 7, 2, 5, 7, 6, 1, 1, 1, 3, 3, 7, 1, 1, 1, 2, 4, 2, 2, 1, 4, 1, 1, 2, 1, 1, 3, 2, 3, 2, 4, 3, 5, 2, 3, 4, 4, 4, 3, 1, 6, 4, 1, 3, 3, 2, 6, 3, 4, 3, 3, 4, 5, 3, 4, 8, 7, 7, 5, 7, 1, 6, 4, 5, 3, 4, 1, 2, 2, 2, 1, 3, 2, 2, 7, 4, 3, 3, 2, 3, 4, 5, 5, 4, 3, 3, 3, 1, 2, 6, 2, 4, 6, 3, 3, 11, 3, 2, 3, 7, 6, 6, 4, 6, 4, 6, 1, 2, 2, 1, 3, 3, 4, 5, 8, 1, 1, 2, 2, 2, 3, 3, 4, 8, 8, 6, 2, 1, 3, 5, 7, 3, 6, 5, 4, 7, 5, 3, 6, 4, 1, 6, 5, 3, 3, 2, 2, 1, 6, 2, 3, 4, 3, 6, 5, 4, 5, 3, 4, 3, 7, 3, 4, 3, 4, 3, 4, 4, 6, 3, 4, 4, 2, 6, 3, 5, 4, 3, 4, 4, 2, 3, 7, 5, 4, 6, 3, 6, 3, 3, 1, 1, 7, 5, 6, 5, 4, 6, 5, 5, 5, 5, 5, 4, 5, 7, 4, 6, 5, 4, 5, 5, 4, 1]
def j_rts : List (Option FieldType) := [(Option.none : Option Jvm.ClassFile.FieldType), (Option.some (Jvm.ClassFile.FieldType.object "java/lang/AbstractStringBuilder")), (Option.some (Jvm.ClassFile.FieldType.object "java/lang/AbstractStringBuilder")), (Option.some (Jvm.ClassFile.FieldType.object "java/lang/AbstractStringBuilder")), (Option.some (Jvm.ClassFile.FieldType.object "java/lang/AbstractStringBuilder")), (Option.none : Option Jvm.ClassFile.FieldType), (Option.some (Jvm.ClassFile.FieldType.array Jvm.ClassFile.FieldType.byte)), (Option.none : Option Jvm.ClassFile.FieldType), (Option.none : Option Jvm.ClassFile.FieldType), (Option.some Jvm.ClassFile.FieldType.boolean), (Option.some Jvm.ClassFile.FieldType.int), (Option.some Jvm.ClassFile.FieldType.int), (Option.none : Option Jvm.ClassFile.FieldType), (Option.some Jvm.ClassFile.FieldType.int), (Option.some Jvm.ClassFile.FieldType.int), (Option.some Jvm.ClassFile.FieldType.int), (Option.some Jvm.ClassFile.FieldType.int), (Option.some Jvm.ClassFile.FieldType.int), (Option.none : Option Jvm.ClassFile.FieldType), (Option.none : Option Jvm.ClassFile.FieldType), (Option.none : Option Jvm.ClassFile.FieldType), (Option.some Jvm.ClassFile.FieldType.int), (Option.none : Option Jvm.ClassFile.FieldType), (Option.some Jvm.ClassFile.FieldType.byte), (Option.none : Option Jvm.ClassFile.FieldType), (Option.some Jvm.ClassFile.FieldType.int), (Option.none : Option Jvm.ClassFile.FieldType), (Option.some (Jvm.ClassFile.FieldType.object "java/lang/StringBuilder")), (Option.some (Jvm.ClassFile.FieldType.object "java/lang/StringBuilder")), (Option.some (Jvm.ClassFile.FieldType.object "java/lang/StringBuilder")), (Option.some Jvm.ClassFile.FieldType.int), (Option.some (Jvm.ClassFile.FieldType.object "java/lang/String")), (Option.some Jvm.ClassFile.FieldType.boolean), (Option.none : Option Jvm.ClassFile.FieldType), (Option.none : Option Jvm.ClassFile.FieldType), (Option.none : Option Jvm.ClassFile.FieldType), (Option.none : Option Jvm.ClassFile.FieldType), (Option.some Jvm.ClassFile.FieldType.byte), (Option.some (Jvm.ClassFile.FieldType.array Jvm.ClassFile.FieldType.byte)), (Option.some Jvm.ClassFile.FieldType.int), (Option.some Jvm.ClassFile.FieldType.char), (Option.some Jvm.ClassFile.FieldType.int), (Option.some Jvm.ClassFile.FieldType.int), (Option.none : Option Jvm.ClassFile.FieldType), (Option.some Jvm.ClassFile.FieldType.int), (Option.some (Jvm.ClassFile.FieldType.array Jvm.ClassFile.FieldType.byte)), (Option.some Jvm.ClassFile.FieldType.int), (Option.none : Option Jvm.ClassFile.FieldType), (Option.none : Option Jvm.ClassFile.FieldType), (Option.some Jvm.ClassFile.FieldType.int), (Option.none : Option Jvm.ClassFile.FieldType), (Option.none : Option Jvm.ClassFile.FieldType), (Option.none : Option Jvm.ClassFile.FieldType), (Option.some Jvm.ClassFile.FieldType.boolean), (Option.none : Option Jvm.ClassFile.FieldType), (Option.some (Jvm.ClassFile.FieldType.object "java/lang/Object")), (Option.some (Jvm.ClassFile.FieldType.object "java/lang/Object")), (Option.some (Jvm.ClassFile.FieldType.array (Jvm.ClassFile.FieldType.object "java/lang/Object"))), (Option.some (Jvm.ClassFile.FieldType.array (Jvm.ClassFile.FieldType.object "java/lang/Object"))), (Option.some (Jvm.ClassFile.FieldType.object "java/util/Iterator")), (Option.some Jvm.ClassFile.FieldType.int), (Option.none : Option Jvm.ClassFile.FieldType), (Option.none : Option Jvm.ClassFile.FieldType), (Option.some Jvm.ClassFile.FieldType.boolean), (Option.some (Jvm.ClassFile.FieldType.object "java/lang/Object")), (Option.none : Option Jvm.ClassFile.FieldType), (Option.some (Jvm.ClassFile.FieldType.array Jvm.ClassFile.FieldType.byte)), (Option.some (Jvm.ClassFile.FieldType.array (Jvm.ClassFile.FieldType.object "java/lang/Object"))), (Option.some (Jvm.ClassFile.FieldType.array (Jvm.ClassFile.FieldType.object "java/lang/Object"))), (Option.some (Jvm.ClassFile.FieldType.array Jvm.ClassFile.FieldType.byte)), (Option.some (Jvm.ClassFile.FieldType.array Jvm.ClassFile.FieldType.byte)), (Option.some Jvm.ClassFile.FieldType.int), (Option.some Jvm.ClassFile.FieldType.int), (Option.some Jvm.ClassFile.FieldType.int), (Option.some Jvm.ClassFile.FieldType.int), (Option.some Jvm.ClassFile.FieldType.int), (Option.some Jvm.ClassFile.FieldType.int), (Option.none : Option Jvm.ClassFile.FieldType), (Option.some Jvm.ClassFile.FieldType.int), (Option.some Jvm.ClassFile.FieldType.boolean), (Option.some Jvm.ClassFile.FieldType.int), (Option.some Jvm.ClassFile.FieldType.boolean), (Option.some Jvm.ClassFile.FieldType.boolean), (Option.some Jvm.ClassFile.FieldType.int), (Option.some Jvm.ClassFile.FieldType.int), (Option.some Jvm.ClassFile.FieldType.int), (Option.some Jvm.ClassFile.FieldType.int), (Option.some Jvm.ClassFile.FieldType.int), (Option.some Jvm.ClassFile.FieldType.int), (Option.some Jvm.ClassFile.FieldType.int), (Option.some Jvm.ClassFile.FieldType.int), (Option.some Jvm.ClassFile.FieldType.int), (Option.some Jvm.ClassFile.FieldType.long), (Option.some Jvm.ClassFile.FieldType.long), (Option.some Jvm.ClassFile.FieldType.long), (Option.some Jvm.ClassFile.FieldType.long), (Option.some Jvm.ClassFile.FieldType.int), (Option.some Jvm.ClassFile.FieldType.int), (Option.some Jvm.ClassFile.FieldType.int), (Option.some Jvm.ClassFile.FieldType.int), (Option.some Jvm.ClassFile.FieldType.int), (Option.some Jvm.ClassFile.FieldType.int), (Option.some Jvm.ClassFile.FieldType.int), (Option.some Jvm.ClassFile.FieldType.int), (Option.some Jvm.ClassFile.FieldType.boolean), (Option.some Jvm.ClassFile.FieldType.boolean), (Option.some Jvm.ClassFile.FieldType.boolean), (Option.some Jvm.ClassFile.FieldType.boolean), (Option.some Jvm.ClassFile.FieldType.boolean), (Option.some Jvm.ClassFile.FieldType.boolean), (Option.some Jvm.ClassFile.FieldType.int), (Option.some Jvm.ClassFile.FieldType.int), (Option.some Jvm.ClassFile.FieldType.int), (Option.some Jvm.ClassFile.FieldType.int), (Option.none : Option Jvm.ClassFile.FieldType), (Option.none : Option Jvm.ClassFile.FieldType), (Option.none : Option Jvm.ClassFile.FieldType), (Option.none : Option Jvm.ClassFile.FieldType), (Option.some Jvm.ClassFile.FieldType.int), (Option.some Jvm.ClassFile.FieldType.int), (Option.some Jvm.ClassFile.FieldType.int), (Option.some Jvm.ClassFile.FieldType.boolean), (Option.some Jvm.ClassFile.FieldType.int), (Option.some Jvm.ClassFile.FieldType.int), (Option.some Jvm.ClassFile.FieldType.int), (Option.some Jvm.ClassFile.FieldType.int), (Option.some Jvm.ClassFile.FieldType.boolean), (Option.some Jvm.ClassFile.FieldType.int), (Option.some Jvm.ClassFile.FieldType.int), (Option.some Jvm.ClassFile.FieldType.int), (Option.some Jvm.ClassFile.FieldType.int), (Option.some Jvm.ClassFile.FieldType.int), (Option.some Jvm.ClassFile.FieldType.boolean), (Option.some Jvm.ClassFile.FieldType.int), (Option.some Jvm.ClassFile.FieldType.int), (Option.some Jvm.ClassFile.FieldType.int), (Option.some Jvm.ClassFile.FieldType.int), (Option.some Jvm.ClassFile.FieldType.int), (Option.some Jvm.ClassFile.FieldType.int), (Option.some (Jvm.ClassFile.FieldType.object "java/lang/String")), (Option.some Jvm.ClassFile.FieldType.int), (Option.some Jvm.ClassFile.FieldType.int), (Option.some Jvm.ClassFile.FieldType.int), (Option.none : Option Jvm.ClassFile.FieldType), (Option.some Jvm.ClassFile.FieldType.int), (Option.some (Jvm.ClassFile.FieldType.object "Grainclock$Motes")), (Option.none : Option Jvm.ClassFile.FieldType), (Option.some Jvm.ClassFile.FieldType.boolean), (Option.some Jvm.ClassFile.FieldType.int), (Option.some Jvm.ClassFile.FieldType.int), (Option.none : Option Jvm.ClassFile.FieldType), (Option.none : Option Jvm.ClassFile.FieldType), (Option.none : Option Jvm.ClassFile.FieldType), (Option.some Jvm.ClassFile.FieldType.int), (Option.some Jvm.ClassFile.FieldType.int), (Option.none : Option Jvm.ClassFile.FieldType), (Option.some Jvm.ClassFile.FieldType.int), (Option.some Jvm.ClassFile.FieldType.int), (Option.some Jvm.ClassFile.FieldType.boolean), (Option.some Jvm.ClassFile.FieldType.boolean), (Option.some Jvm.ClassFile.FieldType.boolean), (Option.some Jvm.ClassFile.FieldType.int), (Option.some Jvm.ClassFile.FieldType.int), (Option.some Jvm.ClassFile.FieldType.int), (Option.some Jvm.ClassFile.FieldType.int), (Option.none : Option Jvm.ClassFile.FieldType), (Option.none : Option Jvm.ClassFile.FieldType), (Option.some Jvm.ClassFile.FieldType.int), (Option.some Jvm.ClassFile.FieldType.boolean), (Option.some Jvm.ClassFile.FieldType.int), (Option.some Jvm.ClassFile.FieldType.int), (Option.some Jvm.ClassFile.FieldType.boolean), (Option.some Jvm.ClassFile.FieldType.long), (Option.some Jvm.ClassFile.FieldType.int), (Option.some Jvm.ClassFile.FieldType.int), (Option.some Jvm.ClassFile.FieldType.int), (Option.some Jvm.ClassFile.FieldType.int), (Option.none : Option Jvm.ClassFile.FieldType), (Option.some Jvm.ClassFile.FieldType.int), (Option.some Jvm.ClassFile.FieldType.int), (Option.some Jvm.ClassFile.FieldType.int), (Option.some Jvm.ClassFile.FieldType.int), (Option.some Jvm.ClassFile.FieldType.boolean), (Option.some Jvm.ClassFile.FieldType.boolean), (Option.some Jvm.ClassFile.FieldType.boolean), (Option.some Jvm.ClassFile.FieldType.boolean), (Option.some Jvm.ClassFile.FieldType.boolean), (Option.some Jvm.ClassFile.FieldType.int), (Option.some Jvm.ClassFile.FieldType.int), (Option.some Jvm.ClassFile.FieldType.int), (Option.some Jvm.ClassFile.FieldType.int), (Option.some Jvm.ClassFile.FieldType.int), (Option.some Jvm.ClassFile.FieldType.int), (Option.some Jvm.ClassFile.FieldType.int), (Option.some Jvm.ClassFile.FieldType.int), (Option.some Jvm.ClassFile.FieldType.boolean), (Option.some Jvm.ClassFile.FieldType.int), (Option.some Jvm.ClassFile.FieldType.int), (Option.some Jvm.ClassFile.FieldType.int), (Option.some Jvm.ClassFile.FieldType.int), (Option.some Jvm.ClassFile.FieldType.int), (Option.some Jvm.ClassFile.FieldType.int), (Option.some Jvm.ClassFile.FieldType.int), (Option.some Jvm.ClassFile.FieldType.int), (Option.some Jvm.ClassFile.FieldType.int), (Option.some Jvm.ClassFile.FieldType.int), (Option.some Jvm.ClassFile.FieldType.int), (Option.some Jvm.ClassFile.FieldType.int), (Option.some Jvm.ClassFile.FieldType.int), (Option.some Jvm.ClassFile.FieldType.boolean), (Option.some Jvm.ClassFile.FieldType.int), (Option.some Jvm.ClassFile.FieldType.int), (Option.some Jvm.ClassFile.FieldType.int), (Option.some Jvm.ClassFile.FieldType.int), (Option.some (Jvm.ClassFile.FieldType.array Jvm.ClassFile.FieldType.int)), (Option.some Jvm.ClassFile.FieldType.int), (Option.some Jvm.ClassFile.FieldType.int), (Option.some Jvm.ClassFile.FieldType.boolean), (Option.some Jvm.ClassFile.FieldType.int), (Option.some Jvm.ClassFile.FieldType.int), (Option.some Jvm.ClassFile.FieldType.int), (Option.some Jvm.ClassFile.FieldType.int), (Option.some (Jvm.ClassFile.FieldType.object "java/lang/String")), (Option.some Jvm.ClassFile.FieldType.int), (Option.some Jvm.ClassFile.FieldType.int), (Option.some Jvm.ClassFile.FieldType.int), (Option.some Jvm.ClassFile.FieldType.int), (Option.some Jvm.ClassFile.FieldType.int), (Option.none : Option Jvm.ClassFile.FieldType), (Option.none : Option Jvm.ClassFile.FieldType), (Option.some Jvm.ClassFile.FieldType.int), (Option.some Jvm.ClassFile.FieldType.int), (Option.some Jvm.ClassFile.FieldType.int), (Option.some Jvm.ClassFile.FieldType.int), (Option.some Jvm.ClassFile.FieldType.int), (Option.some Jvm.ClassFile.FieldType.int), (Option.some Jvm.ClassFile.FieldType.int), (Option.some Jvm.ClassFile.FieldType.int), (Option.some Jvm.ClassFile.FieldType.int), (Option.some Jvm.ClassFile.FieldType.int), (Option.some Jvm.ClassFile.FieldType.int), (Option.some Jvm.ClassFile.FieldType.int), (Option.some Jvm.ClassFile.FieldType.int), (Option.some Jvm.ClassFile.FieldType.int), (Option.some Jvm.ClassFile.FieldType.int), (Option.some Jvm.ClassFile.FieldType.int), (Option.some Jvm.ClassFile.FieldType.int), (Option.some Jvm.ClassFile.FieldType.int), (Option.some Jvm.ClassFile.FieldType.int), (Option.some Jvm.ClassFile.FieldType.int), (Option.some Jvm.ClassFile.FieldType.int), (Option.none : Option Jvm.ClassFile.FieldType)]
def j_hhs : List (List (Nat × Nat × Nat × Nat)) := [[], [], [], [], [], [], [], [], [], [], [], [], [], [], [], [], [], [], [], [], [], [], [], [], [], [], [], [], [], [], [], [], [], [], [], [], [], [], [], [], [], [], [], [], [], [], [], [], [], [], [], [], [], [], [], [], [], [], [], [], [], [], [], [], [], [], [], [], [], [], [], [], [], [], [], [], [], [], [], [], [], [], [], [], [], [], [], [], [], [], [], [], [], [], [], [], [], [], [], [], [], [], [], [], [], [], [], [], [], [], [], [], [], [], [], [], [], [], [], [], [], [], [], [], [], [], [], [], [], [], [], [], [], [], [], [], [], [], [], [], [], [], [], [], [], [], [], [], [], [], [], [], [], [], [], [], [], [], [], [], [], [], [], [], [], [], [], [], [], [], [], [], [], [], [], [], [], [], [], [], [], [], [], [], [], [], [], [], [], [], [], [], [], [], [], [], [], [], [], [], [], [], [], [], [], [], [], [], [], [], [], [], [], [], [], [], [], [], [], [], [], [], [], [], [], [], [], [], [], [], [((0 : Nat), (15 : Nat), (18 : Nat), (31 : Nat)), ((0 : Nat), (15 : Nat), (22 : Nat), (19 : Nat))], [((0 : Nat), (11 : Nat), (14 : Nat), (31 : Nat)), ((0 : Nat), (11 : Nat), (18 : Nat), (19 : Nat))], [((0 : Nat), (13 : Nat), (16 : Nat), (19 : Nat)), ((0 : Nat), (13 : Nat), (20 : Nat), (21 : Nat))], [((0 : Nat), (11 : Nat), (14 : Nat), (31 : Nat)), ((0 : Nat), (11 : Nat), (18 : Nat), (19 : Nat))], [((0 : Nat), (10 : Nat), (13 : Nat), (19 : Nat))], [((0 : Nat), (13 : Nat), (16 : Nat), (31 : Nat)), ((0 : Nat), (13 : Nat), (20 : Nat), (19 : Nat))], [((0 : Nat), (11 : Nat), (14 : Nat), (31 : Nat))], [((0 : Nat), (11 : Nat), (14 : Nat), (31 : Nat)), ((0 : Nat), (11 : Nat), (18 : Nat), (19 : Nat))], [((0 : Nat), (11 : Nat), (14 : Nat), (31 : Nat)), ((0 : Nat), (11 : Nat), (18 : Nat), (19 : Nat))], [((0 : Nat), (11 : Nat), (14 : Nat), (31 : Nat)), ((0 : Nat), (11 : Nat), (18 : Nat), (19 : Nat))], [((0 : Nat), (11 : Nat), (14 : Nat), (31 : Nat)), ((0 : Nat), (11 : Nat), (18 : Nat), (19 : Nat))], [((0 : Nat), (10 : Nat), (13 : Nat), (19 : Nat)), ((0 : Nat), (10 : Nat), (16 : Nat), (21 : Nat))], [((0 : Nat), (11 : Nat), (14 : Nat), (31 : Nat)), ((0 : Nat), (11 : Nat), (18 : Nat), (21 : Nat))], [((0 : Nat), (15 : Nat), (18 : Nat), (31 : Nat)), ((0 : Nat), (15 : Nat), (22 : Nat), (19 : Nat)), ((0 : Nat), (15 : Nat), (26 : Nat), (21 : Nat))], [((0 : Nat), (10 : Nat), (13 : Nat), (19 : Nat))], [((0 : Nat), (13 : Nat), (16 : Nat), (31 : Nat)), ((0 : Nat), (13 : Nat), (20 : Nat), (19 : Nat))], [((0 : Nat), (11 : Nat), (14 : Nat), (31 : Nat)), ((0 : Nat), (11 : Nat), (18 : Nat), (19 : Nat))], [((0 : Nat), (9 : Nat), (12 : Nat), (31 : Nat))], [((0 : Nat), (11 : Nat), (14 : Nat), (31 : Nat)), ((0 : Nat), (11 : Nat), (18 : Nat), (19 : Nat))], [((0 : Nat), (11 : Nat), (14 : Nat), (31 : Nat)), ((0 : Nat), (11 : Nat), (18 : Nat), (21 : Nat))], [((0 : Nat), (10 : Nat), (13 : Nat), (31 : Nat)), ((0 : Nat), (10 : Nat), (16 : Nat), (21 : Nat))], []]
def j_y (n : Nat) : MethodName := j_ys.getD n ⟨"", "", ""⟩
def j_b (n : Nat) : ByteArray := j_bs.getD n ⟨#[]⟩
def j_ml (n : Nat) : Nat := j_mls.getD n 0
def j_rt (n : Nat) : Option FieldType := j_rts.getD n none
def j_hh (n : Nat) : List (Nat × Nat × Nat × Nat) := j_hhs.getD n []
