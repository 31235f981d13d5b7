/-! by number: the classes and their fields, the methods -/
def j_fty (c k : Nat) : FieldType := match c with
  | 0 => tyJx4a65c k
  | 1 => tyJx4a65c k
  | 2 => tyJx4a65c k
  | 3 => tyJx4a65c k
  | 4 => tyX0 k
  | 5 => tyX1 k
  | 6 => tyX2 k
  | 7 => tyX3 k
  | 8 => tyX5 k
  | _ => .int
def j_fok : FieldType → Bool
  | .float => false
  | .double => false
  | _ => true
def j_clF (c : Nat) (r : vw_C) : Prop := (∀ w ∈ u_ws r.1 r.2.1 r.2.2, w ∈ TB) ∧ (∀ a, a < r.2.2 → ∀ b, b < r.2.2 → a ≠ b → (r.2.1 a).2.1 ≠ (r.2.1 b).2.1) ∧ (∀ k, k < r.2.2 → parseFieldDescriptor (r.2.1 k).2.2.1 = some (j_fty c k)) ∧ (∀ k, k < r.2.2 → j_fok (j_fty c k) = true)
theorem j_clF_0 : j_clF 0 (RJx4a65c, TJx4a65c, 3) := ⟨List.forall_mem_cons.mpr ⟨tw_2_141, List.forall_mem_cons.mpr ⟨tw_2_137, List.forall_mem_cons.mpr ⟨tw_2_139, fun _ h => (nomatch h)⟩⟩⟩, nmJx4a65c, tyJx4a65c_ok, by decide +kernel⟩
theorem j_clF_1 : j_clF 1 (RJx4a65c, TJx4a65c, 3) := ⟨List.forall_mem_cons.mpr ⟨tw_2_141, List.forall_mem_cons.mpr ⟨tw_2_137, List.forall_mem_cons.mpr ⟨tw_2_139, fun _ h => (nomatch h)⟩⟩⟩, nmJx4a65c, tyJx4a65c_ok, by decide +kernel⟩
theorem j_clF_2 : j_clF 2 (RJx4a65c, TJx4a65c, 3) := ⟨List.forall_mem_cons.mpr ⟨tw_2_141, List.forall_mem_cons.mpr ⟨tw_2_137, List.forall_mem_cons.mpr ⟨tw_2_139, fun _ h => (nomatch h)⟩⟩⟩, nmJx4a65c, tyJx4a65c_ok, by decide +kernel⟩
theorem j_clF_3 : j_clF 3 (RJx4a65c, TJx4a65c, 3) := ⟨List.forall_mem_cons.mpr ⟨tw_2_141, List.forall_mem_cons.mpr ⟨tw_2_137, List.forall_mem_cons.mpr ⟨tw_2_139, fun _ h => (nomatch h)⟩⟩⟩, nmJx4a65c, tyJx4a65c_ok, by decide +kernel⟩
theorem j_clF_4 : j_clF 4 (RX0, TX0, 10) := ⟨List.forall_mem_cons.mpr ⟨tw_3_16, List.forall_mem_cons.mpr ⟨tw_3_18, List.forall_mem_cons.mpr ⟨tw_3_20, List.forall_mem_cons.mpr ⟨tw_3_22, List.forall_mem_cons.mpr ⟨tw_3_24, List.forall_mem_cons.mpr ⟨tw_3_26, List.forall_mem_cons.mpr ⟨tw_3_28, List.forall_mem_cons.mpr ⟨tw_3_30, List.forall_mem_cons.mpr ⟨tw_3_32, List.forall_mem_cons.mpr ⟨tw_3_34, fun _ h => (nomatch h)⟩⟩⟩⟩⟩⟩⟩⟩⟩⟩, nmX0, tyX0_ok, by decide +kernel⟩
theorem j_clF_5 : j_clF 5 (RX1, TX1, 4) := ⟨List.forall_mem_cons.mpr ⟨tw_2_227, List.forall_mem_cons.mpr ⟨tw_2_229, List.forall_mem_cons.mpr ⟨tw_2_231, List.forall_mem_cons.mpr ⟨tw_2_233, fun _ h => (nomatch h)⟩⟩⟩⟩, nmX1, tyX1_ok, by decide +kernel⟩
theorem j_clF_6 : j_clF 6 (RX2, TX2, 4) := ⟨List.forall_mem_cons.mpr ⟨tw_3_232, List.forall_mem_cons.mpr ⟨tw_3_234, List.forall_mem_cons.mpr ⟨tw_3_236, List.forall_mem_cons.mpr ⟨tw_3_238, fun _ h => (nomatch h)⟩⟩⟩⟩, nmX2, tyX2_ok, by decide +kernel⟩
theorem j_clF_7 : j_clF 7 (RX3, TX3, 11) := ⟨List.forall_mem_cons.mpr ⟨tw_3_139, List.forall_mem_cons.mpr ⟨tw_3_141, List.forall_mem_cons.mpr ⟨tw_3_143, List.forall_mem_cons.mpr ⟨tw_3_145, List.forall_mem_cons.mpr ⟨tw_3_147, List.forall_mem_cons.mpr ⟨tw_3_149, List.forall_mem_cons.mpr ⟨tw_3_151, List.forall_mem_cons.mpr ⟨tw_3_153, List.forall_mem_cons.mpr ⟨tw_3_155, List.forall_mem_cons.mpr ⟨tw_3_157, List.forall_mem_cons.mpr ⟨tw_3_159, fun _ h => (nomatch h)⟩⟩⟩⟩⟩⟩⟩⟩⟩⟩⟩, nmX3, tyX3_ok, by decide +kernel⟩
theorem j_clF_8 : j_clF 8 (RX5, TX5, 7) := ⟨List.forall_mem_cons.mpr ⟨tw_2_151, List.forall_mem_cons.mpr ⟨tw_2_153, List.forall_mem_cons.mpr ⟨tw_2_155, List.forall_mem_cons.mpr ⟨tw_2_157, List.forall_mem_cons.mpr ⟨tw_2_159, List.forall_mem_cons.mpr ⟨tw_2_161, List.forall_mem_cons.mpr ⟨tw_2_163, fun _ h => (nomatch h)⟩⟩⟩⟩⟩⟩⟩, nmX5, tyX5_ok, by decide +kernel⟩
theorem j_cls : ∀ (c : Nat) (r : vw_C), vwCl[c]? = some r → j_clF c r := by
  intro c r h
  match c, h with
  | 0, h => exact (Option.some.inj h) ▸ j_clF_0
  | 1, h => exact (Option.some.inj h) ▸ j_clF_1
  | 2, h => exact (Option.some.inj h) ▸ j_clF_2
  | 3, h => exact (Option.some.inj h) ▸ j_clF_3
  | 4, h => exact (Option.some.inj h) ▸ j_clF_4
  | 5, h => exact (Option.some.inj h) ▸ j_clF_5
  | 6, h => exact (Option.some.inj h) ▸ j_clF_6
  | 7, h => exact (Option.some.inj h) ▸ j_clF_7
  | 8, h => exact (Option.some.inj h) ▸ j_clF_8
  | _ + 9, h => exact nomatch h
def j_nest : List Cond := []
theorem j_nest_in : ∀ w ∈ j_nest, w ∈ tables_1 := fun _ h => (nomatch h)
def j_strs : List (String × Nat × String) := [("Grainclock", 130, "no such grain or clock"), ("Grainclock", 193, "no such question"), ("Grainclock", 113, "no such clock"), ("Grainclock", 115, "no such pace"), ("Grainclock", 128, "no such slip"), ("Grainclock", 41, "mothers or a bed that cannot be"), ("Grainclock", 52, "no more grains"), ("Grainclock", 69, "so many years cannot go by at once"), ("Grainclock", 71, "too many years ever"), ("Grainclock", 132, "an error beyond the slip"), ("Grainclock", 134, "no more runs"), ("Grainclock", 158, "no such run"), ("Grainclock", 94, "no such grain"), ("Grainclock", 97, "no such share"), ("Grainclock", 163, "the run is withdrawn already"), ("Grainclock", 168, "a run is not swapped with itself"), ("Grainclock", 180, "no such run or print"), ("Grainclock", 188, "nothing can be printed on that"), ("Grainclock", 221, "no such print")]
theorem j_strs_in : ∀ q ∈ j_strs, Cond.stringRef q.1 q.2.1 q.2.2 ∈ tables_1 := List.forall_mem_cons.mpr ⟨tw_1_82, List.forall_mem_cons.mpr ⟨tw_1_121, List.forall_mem_cons.mpr ⟨tw_2_170, List.forall_mem_cons.mpr ⟨tw_2_171, List.forall_mem_cons.mpr ⟨tw_2_190, List.forall_mem_cons.mpr ⟨tw_2_195, List.forall_mem_cons.mpr ⟨tw_2_205, List.forall_mem_cons.mpr ⟨tw_3_93, List.forall_mem_cons.mpr ⟨tw_3_94, List.forall_mem_cons.mpr ⟨tw_3_109, List.forall_mem_cons.mpr ⟨tw_3_110, List.forall_mem_cons.mpr ⟨tw_3_179, List.forall_mem_cons.mpr ⟨tw_3_185, List.forall_mem_cons.mpr ⟨tw_3_186, List.forall_mem_cons.mpr ⟨tw_3_203, List.forall_mem_cons.mpr ⟨tw_3_208, List.forall_mem_cons.mpr ⟨tw_3_217, List.forall_mem_cons.mpr ⟨tw_3_218, List.forall_mem_cons.mpr ⟨tw_4_18, fun _ h => (nomatch h)⟩⟩⟩⟩⟩⟩⟩⟩⟩⟩⟩⟩⟩⟩⟩⟩⟩⟩⟩
def j_ys : List MethodName := [({ cls := "", name := "", desc := "" } : Jvm.MethodName),
  ({ cls := "", name := "", desc := "" } : Jvm.MethodName),
  ({ cls := "", name := "", desc := "" } : Jvm.MethodName),
  ({ cls := "", name := "", desc := "" } : Jvm.MethodName),
  ({ cls := "", name := "", desc := "" } : Jvm.MethodName),
  ({ cls := "", name := "", desc := "" } : Jvm.MethodName),
  ({ cls := "", name := "", desc := "" } : Jvm.MethodName),
  ({ cls := "", name := "", desc := "" } : Jvm.MethodName),
  ({ cls := "", name := "", desc := "" } : Jvm.MethodName),
  ({ cls := "", name := "", desc := "" } : Jvm.MethodName),
  ({ cls := "", name := "", desc := "" } : Jvm.MethodName),
  ({ cls := "", name := "", desc := "" } : Jvm.MethodName),
  ({ cls := "", name := "", desc := "" } : Jvm.MethodName),
  ({ cls := "java/lang/Integer", name := "bitCount", desc := "(I)I" } : Jvm.MethodName),
  ({ cls := "", name := "", desc := "" } : Jvm.MethodName),
  ({ cls := "", name := "", desc := "" } : Jvm.MethodName),
  ({ cls := "java/lang/Math", name := "max", desc := "(II)I" } : Jvm.MethodName),
  ({ cls := "java/lang/Math", name := "min", desc := "(II)I" } : Jvm.MethodName),
  ({ cls := "", name := "", desc := "" } : Jvm.MethodName),
  ({ cls := "", name := "", desc := "" } : Jvm.MethodName),
  ({ cls := "", name := "", desc := "" } : Jvm.MethodName),
  ({ cls := "", name := "", desc := "" } : Jvm.MethodName),
  ({ cls := "", name := "", desc := "" } : Jvm.MethodName),
  ({ cls := "", name := "", desc := "" } : Jvm.MethodName),
  ({ cls := "", name := "", desc := "" } : Jvm.MethodName),
  ({ cls := "", name := "", desc := "" } : Jvm.MethodName),
  ({ cls := "", name := "", desc := "" } : Jvm.MethodName),
  ({ cls := "", name := "", desc := "" } : Jvm.MethodName),
  ({ cls := "", name := "", desc := "" } : Jvm.MethodName),
  ({ cls := "", name := "", desc := "" } : Jvm.MethodName),
  ({ cls := "", name := "", desc := "" } : Jvm.MethodName),
  ({ cls := "", name := "", desc := "" } : Jvm.MethodName),
  ({ cls := "", name := "", desc := "" } : Jvm.MethodName),
  ({ cls := "", name := "", desc := "" } : Jvm.MethodName),
  ({ cls := "", name := "", desc := "" } : Jvm.MethodName),
  ({ cls := "", name := "", desc := "" } : Jvm.MethodName),
  ({ cls := "", name := "", desc := "" } : Jvm.MethodName),
  ({ cls := "", name := "", desc := "" } : Jvm.MethodName),
  ({ cls := "", name := "", desc := "" } : Jvm.MethodName),
  ({ cls := "", name := "", desc := "" } : Jvm.MethodName),
  ({ cls := "", name := "", desc := "" } : Jvm.MethodName),
  ({ cls := "", name := "", desc := "" } : Jvm.MethodName),
  ({ cls := "", name := "", desc := "" } : Jvm.MethodName),
  ({ cls := "", name := "", desc := "" } : Jvm.MethodName),
  ({ cls := "", name := "", desc := "" } : Jvm.MethodName),
  ({ cls := "", name := "", desc := "" } : Jvm.MethodName),
  ({ cls := "", name := "", desc := "" } : Jvm.MethodName),
  ({ cls := "", name := "", desc := "" } : Jvm.MethodName),
  ({ cls := "", name := "", desc := "" } : Jvm.MethodName),
  ({ cls := "", name := "", desc := "" } : Jvm.MethodName),
  ({ cls := "java/util/AbstractCollection", name := "<init>", desc := "()V" } : Jvm.MethodName),
  ({ cls := "java/util/AbstractList", name := "<init>", desc := "()V" } : Jvm.MethodName),
  ({ cls := "java/util/ArrayList", name := "<init>", desc := "()V" } : Jvm.MethodName),
  ({ cls := "java/util/ArrayList", name := "add", desc := "(Ljava/lang/Object;)Z" } : Jvm.MethodName),
  ({ cls := "java/util/ArrayList", name := "add", desc := "(Ljava/lang/Object;[Ljava/lang/Object;I)V" } : Jvm.MethodName),
  ({ cls := "java/util/ArrayList", name := "elementData", desc := "(I)Ljava/lang/Object;" } : Jvm.MethodName),
  ({ cls := "java/util/ArrayList", name := "get", desc := "(I)Ljava/lang/Object;" } : Jvm.MethodName),
  ({ cls := "java/util/ArrayList", name := "grow", desc := "()[Ljava/lang/Object;" } : Jvm.MethodName),
  ({ cls := "java/util/ArrayList", name := "grow", desc := "(I)[Ljava/lang/Object;" } : Jvm.MethodName),
  ({ cls := "", name := "", desc := "" } : Jvm.MethodName),
  ({ cls := "java/util/ArrayList", name := "size", desc := "()I" } : Jvm.MethodName),
  ({ cls := "", name := "", desc := "" } : Jvm.MethodName),
  ({ cls := "", name := "", desc := "" } : Jvm.MethodName),
  ({ cls := "", name := "", desc := "" } : Jvm.MethodName),
  ({ cls := "", name := "", desc := "" } : Jvm.MethodName),
  ({ cls := "", name := "", desc := "" } : Jvm.MethodName),
  ({ cls := "", name := "", desc := "" } : Jvm.MethodName),
  ({ cls := "java/util/Arrays", name := "copyOf", desc := "([Ljava/lang/Object;I)[Ljava/lang/Object;" } : Jvm.MethodName),
  ({ cls := "java/util/Arrays", name := "copyOf", desc := "([Ljava/lang/Object;ILjava/lang/Class;)[Ljava/lang/Object;" } : Jvm.MethodName),
  ({ cls := "", name := "", desc := "" } : Jvm.MethodName),
  ({ cls := "", name := "", desc := "" } : Jvm.MethodName),
  ({ cls := "java/util/Objects", name := "checkIndex", desc := "(II)I" } : Jvm.MethodName),
  ({ cls := "jdk/internal/util/ArraysSupport", name := "hugeLength", desc := "(II)I" } : Jvm.MethodName),
  ({ cls := "jdk/internal/util/ArraysSupport", name := "newLength", desc := "(III)I" } : Jvm.MethodName),
  ({ cls := "", name := "", desc := "" } : Jvm.MethodName),
  ({ cls := "", name := "", desc := "" } : Jvm.MethodName),
  ({ cls := "jdk/internal/util/Preconditions", name := "checkIndex", desc := "(IILjava/util/function/BiFunction;)I" } : Jvm.MethodName),
  ({ cls := "Grainclock", name := "<init>", desc := "()V" } : Jvm.MethodName),
  ({ cls := "", name := "", desc := "" } : Jvm.MethodName),
  ({ cls := "Grainclock", name := "agree", desc := "(I)Z" } : Jvm.MethodName),
  ({ cls := "Grainclock", name := "allGrains", desc := "()I" } : Jvm.MethodName),
  ({ cls := "Grainclock", name := "allMotesAreThere", desc := "()Z" } : Jvm.MethodName),
  ({ cls := "Grainclock", name := "allStandFrom", desc := "(LGrainclock$Print;)Z" } : Jvm.MethodName),
  ({ cls := "", name := "", desc := "" } : Jvm.MethodName),
  ({ cls := "", name := "", desc := "" } : Jvm.MethodName),
  ({ cls := "Grainclock", name := "countDoubles", desc := "()I" } : Jvm.MethodName),
  ({ cls := "Grainclock", name := "countMotesEver", desc := "()I" } : Jvm.MethodName),
  ({ cls := "Grainclock", name := "countPrintsBelow", desc := "(LGrainclock$Print;)I" } : Jvm.MethodName),
  ({ cls := "Grainclock", name := "countPrintsThatStand", desc := "()I" } : Jvm.MethodName),
  ({ cls := "Grainclock", name := "countQuarrels", desc := "()I" } : Jvm.MethodName),
  ({ cls := "Grainclock", name := "countRunsLabelled", desc := "(LGrainclock$Grain;)I" } : Jvm.MethodName),
  ({ cls := "Grainclock", name := "countRunsThatStand", desc := "()I" } : Jvm.MethodName),
  ({ cls := "Grainclock", name := "digest", desc := "()J" } : Jvm.MethodName),
  ({ cls := "Grainclock", name := "digestGrains", desc := "(J)J" } : Jvm.MethodName),
  ({ cls := "Grainclock", name := "digestPrints", desc := "(J)J" } : Jvm.MethodName),
  ({ cls := "Grainclock", name := "digestRuns", desc := "(J)J" } : Jvm.MethodName),
  ({ cls := "Grainclock", name := "doublesLessBySwap", desc := "(LGrainclock$Run;LGrainclock$Run;)I" } : Jvm.MethodName),
  ({ cls := "Grainclock", name := "earlyOf", desc := "(LGrainclock$Grain;II)I" } : Jvm.MethodName),
  ({ cls := "", name := "", desc := "" } : Jvm.MethodName),
  ({ cls := "Grainclock", name := "findBestPair", desc := "()I" } : Jvm.MethodName),
  ({ cls := "Grainclock", name := "findFewest", desc := "()I" } : Jvm.MethodName),
  ({ cls := "Grainclock", name := "grain", desc := "(III)I" } : Jvm.MethodName),
  ({ cls := "Grainclock", name := "grainFact", desc := "(LGrainclock$Grain;I)I" } : Jvm.MethodName),
  ({ cls := "Grainclock", name := "heat", desc := "(II)I" } : Jvm.MethodName),
  ({ cls := "Grainclock", name := "isClock", desc := "(I)Z" } : Jvm.MethodName),
  ({ cls := "Grainclock", name := "isGrain", desc := "(I)Z" } : Jvm.MethodName),
  ({ cls := "Grainclock", name := "isPrint", desc := "(I)Z" } : Jvm.MethodName),
  ({ cls := "Grainclock", name := "isRun", desc := "(I)Z" } : Jvm.MethodName),
  ({ cls := "Grainclock", name := "isSound", desc := "()Z" } : Jvm.MethodName),
  ({ cls := "Grainclock", name := "isWithin", desc := "(III)Z" } : Jvm.MethodName),
  ({ cls := "Grainclock", name := "lab", desc := "(I)I" } : Jvm.MethodName),
  ({ cls := "Grainclock", name := "labFact", desc := "(I)I" } : Jvm.MethodName),
  ({ cls := "Grainclock", name := "lateOf", desc := "(LGrainclock$Grain;II)I" } : Jvm.MethodName),
  ({ cls := "", name := "", desc := "" } : Jvm.MethodName),
  ({ cls := "Grainclock", name := "markClashes", desc := "()V" } : Jvm.MethodName),
  ({ cls := "Grainclock", name := "markIfMissed", desc := "(LGrainclock$Run;LGrainclock$Run;)V" } : Jvm.MethodName),
  ({ cls := "Grainclock", name := "markIfOver", desc := "(LGrainclock$Grain;LGrainclock$Grain;)V" } : Jvm.MethodName),
  ({ cls := "Grainclock", name := "markRuns", desc := "()V" } : Jvm.MethodName),
  ({ cls := "", name := "", desc := "" } : Jvm.MethodName),
  ({ cls := "Grainclock", name := "narrowedEarly", desc := "(LGrainclock$Grain;)I" } : Jvm.MethodName),
  ({ cls := "Grainclock", name := "narrowedLate", desc := "(LGrainclock$Grain;)I" } : Jvm.MethodName),
  ({ cls := "Grainclock", name := "noNarrowedSpanIsWider", desc := "()Z" } : Jvm.MethodName),
  ({ cls := "Grainclock", name := "ofGrain", desc := "(II)I" } : Jvm.MethodName),
  ({ cls := "Grainclock", name := "ofPrint", desc := "(II)I" } : Jvm.MethodName),
  ({ cls := "Grainclock", name := "ofRun", desc := "(II)I" } : Jvm.MethodName),
  ({ cls := "Grainclock", name := "oneIf", desc := "(Z)I" } : Jvm.MethodName),
  ({ cls := "Grainclock", name := "othersAgree", desc := "()Z" } : Jvm.MethodName),
  ({ cls := "Grainclock", name := "pace", desc := "(II)I" } : Jvm.MethodName),
  ({ cls := "Grainclock", name := "paceOf", desc := "(I)I" } : Jvm.MethodName),
  ({ cls := "Grainclock", name := "pass", desc := "(I)I" } : Jvm.MethodName),
  ({ cls := "Grainclock", name := "print", desc := "(II)I" } : Jvm.MethodName),
  ({ cls := "Grainclock", name := "printFact", desc := "(LGrainclock$Print;I)I" } : Jvm.MethodName),
  ({ cls := "Grainclock", name := "printsThatStandAreBorne", desc := "()Z" } : Jvm.MethodName),
  ({ cls := "Grainclock", name := "run", desc := "(IIII)I" } : Jvm.MethodName),
  ({ cls := "Grainclock", name := "runFact", desc := "(LGrainclock$Run;I)I" } : Jvm.MethodName),
  ({ cls := "Grainclock", name := "runOfPair", desc := "(IZ)I" } : Jvm.MethodName),
  ({ cls := "Grainclock", name := "slip", desc := "(I)I" } : Jvm.MethodName),
  ({ cls := "Grainclock", name := "span", desc := "(III)I" } : Jvm.MethodName),
  ({ cls := "Grainclock", name := "swap", desc := "(II)I" } : Jvm.MethodName),
  ({ cls := "", name := "", desc := "" } : Jvm.MethodName),
  ({ cls := "Grainclock", name := "wash", desc := "(II)I" } : Jvm.MethodName),
  ({ cls := "", name := "", desc := "" } : Jvm.MethodName),
  ({ cls := "Grainclock", name := "withdraw", desc := "(I)I" } : Jvm.MethodName),
  ({ cls := "Grainclock$Grain", name := "<init>", desc := "(ILGrainclock$Motes;LGrainclock$Motes;II)V" } : Jvm.MethodName),
  ({ cls := "Grainclock$Grain", name := "bit", desc := "()I" } : Jvm.MethodName),
  ({ cls := "Grainclock$Grain", name := "of", desc := "(I)LGrainclock$Motes;" } : Jvm.MethodName),
  ({ cls := "Grainclock$Motes", name := "<init>", desc := "(I)V" } : Jvm.MethodName),
  ({ cls := "Grainclock$Motes", name := "areAllThere", desc := "()Z" } : Jvm.MethodName),
  ({ cls := "Grainclock$Motes", name := "loseDaughters", desc := "(I)I" } : Jvm.MethodName),
  ({ cls := "Grainclock$Motes", name := "loseMothers", desc := "(I)I" } : Jvm.MethodName),
  ({ cls := "Grainclock$Motes", name := "turnFor", desc := "(II)V" } : Jvm.MethodName),
  ({ cls := "Grainclock$Print", name := "<init>", desc := "(ILGrainclock$Run;ILGrainclock$Print;)V" } : Jvm.MethodName),
  ({ cls := "Grainclock$Run", name := "<init>", desc := "(ILGrainclock$Grain;IIIII)V" } : Jvm.MethodName),
  ({ cls := "Grainclock$Run", name := "bit", desc := "()I" } : Jvm.MethodName),
  ({ cls := "Grainclock$Run", name := "countMissed", desc := "()I" } : Jvm.MethodName),
  ({ cls := "Grainclock$Run", name := "dateBy", desc := "(I)V" } : Jvm.MethodName),
  ({ cls := "Grainclock$Run", name := "earlyIn", desc := "(I)I" } : Jvm.MethodName),
  ({ cls := "Grainclock$Run", name := "lateIn", desc := "(I)I" } : Jvm.MethodName),
  ({ cls := "Grainclock$Run", name := "misses", desc := "(LGrainclock$Run;I)Z" } : Jvm.MethodName),
  ({ cls := "Grainclock$Run", name := "tellsOf", desc := "(LGrainclock$Grain;I)Z" } : Jvm.MethodName),
  ({ cls := "", name := "", desc := "" } : Jvm.MethodName),
  ({ cls := "Grainclock$Table", name := "earlyBy", desc := "(IIII)I" } : Jvm.MethodName),
  ({ cls := "Grainclock$Table", name := "lateBy", desc := "(IIII)I" } : Jvm.MethodName),
  ({ cls := "Grainclock$Table", name := "leftBehind", desc := "(III)I" } : Jvm.MethodName),
  ({ cls := "Grainclock$Table", name := "turnedInYear", desc := "(II)I" } : Jvm.MethodName),
  ({ cls := "GrainclockLaw", name := "areAges", desc := "(LGrainclock;[I)Z" } : Jvm.MethodName),
  ({ cls := "GrainclockLaw", name := "areMotes", desc := "(LGrainclock;)Z" } : Jvm.MethodName),
  ({ cls := "GrainclockLaw", name := "arePrints", desc := "(LGrainclock;)Z" } : Jvm.MethodName),
  ({ cls := "GrainclockLaw", name := "below", desc := "(II)I" } : Jvm.MethodName),
  ({ cls := "GrainclockLaw", name := "cell", desc := "([II)I" } : Jvm.MethodName),
  ({ cls := "GrainclockLaw", name := "isDone", desc := "(LGrainclock;I)Z" } : Jvm.MethodName),
  ({ cls := "GrainclockLaw", name := "lab", desc := "([I)LGrainclock;" } : Jvm.MethodName),
  ({ cls := "GrainclockLaw", name := "ran", desc := "(LGrainclock;I)V" } : Jvm.MethodName),
  ({ cls := "GrainclockLaw", name := "runs", desc := "(LGrainclock;)I" } : Jvm.MethodName)]
def j_bs : List ByteArray := [(⟨#[]⟩ : ByteArray), (⟨#[]⟩ : ByteArray), (⟨#[]⟩ : ByteArray), (⟨#[]⟩ : ByteArray), (⟨#[]⟩ : ByteArray), (⟨#[]⟩ : ByteArray), (⟨#[]⟩ : ByteArray), (⟨#[]⟩ : ByteArray), (⟨#[]⟩ : ByteArray), (⟨#[]⟩ : ByteArray), (⟨#[]⟩ : ByteArray), (⟨#[]⟩ : ByteArray), (⟨#[]⟩ : ByteArray), prog_17_method_49_code, (⟨#[]⟩ : ByteArray), (⟨#[]⟩ : ByteArray), prog_19_method_65_code, prog_19_method_69_code, (⟨#[]⟩ : ByteArray), (⟨#[]⟩ : ByteArray), (⟨#[]⟩ : ByteArray), (⟨#[]⟩ : ByteArray), (⟨#[]⟩ : ByteArray), (⟨#[]⟩ : ByteArray), (⟨#[]⟩ : ByteArray), (⟨#[]⟩ : ByteArray), (⟨#[]⟩ : ByteArray), (⟨#[]⟩ : ByteArray), (⟨#[]⟩ : ByteArray), (⟨#[]⟩ : ByteArray), (⟨#[]⟩ : ByteArray), (⟨#[]⟩ : ByteArray), (⟨#[]⟩ : ByteArray), (⟨#[]⟩ : ByteArray), (⟨#[]⟩ : ByteArray), (⟨#[]⟩ : ByteArray), (⟨#[]⟩ : ByteArray), (⟨#[]⟩ : ByteArray), (⟨#[]⟩ : ByteArray), (⟨#[]⟩ : ByteArray), (⟨#[]⟩ : ByteArray), (⟨#[]⟩ : ByteArray), (⟨#[]⟩ : ByteArray), (⟨#[]⟩ : ByteArray), (⟨#[]⟩ : ByteArray), (⟨#[]⟩ : ByteArray), (⟨#[]⟩ : ByteArray), (⟨#[]⟩ : ByteArray), (⟨#[]⟩ : ByteArray), (⟨#[]⟩ : ByteArray), prog_24_method_1_code, prog_25_method_1_code, prog_26_method_2_code, prog_26_method_25_code, prog_26_method_24_code, prog_26_method_18_code, prog_26_method_20_code, prog_26_method_7_code, prog_26_method_6_code, (⟨#[]⟩ : ByteArray), prog_26_method_8_code, (⟨#[]⟩ : ByteArray), (⟨#[]⟩ : ByteArray), (⟨#[]⟩ : ByteArray), (⟨#[]⟩ : ByteArray), (⟨#[]⟩ : ByteArray), (⟨#[]⟩ : ByteArray), prog_27_method_119_code, prog_27_method_120_code, (⟨#[]⟩ : ByteArray), (⟨#[]⟩ : ByteArray), prog_30_method_17_code, prog_33_method_28_code, prog_33_method_27_code, (⟨#[]⟩ : ByteArray), (⟨#[]⟩ : ByteArray), prog_34_method_11_code, prog_1_method_1_code, (⟨#[]⟩ : ByteArray), prog_1_method_52_code, prog_1_method_50_code, prog_1_method_63_code, prog_1_method_61_code, (⟨#[]⟩ : ByteArray), (⟨#[]⟩ : ByteArray), prog_1_method_55_code, prog_1_method_45_code, prog_1_method_62_code, prog_1_method_43_code, prog_1_method_44_code, prog_1_method_42_code, prog_1_method_41_code, prog_1_method_26_code, prog_1_method_27_code, prog_1_method_29_code, prog_1_method_28_code, prog_1_method_59_code, prog_1_method_46_code, (⟨#[]⟩ : ByteArray), prog_1_method_58_code, prog_1_method_51_code, prog_1_method_2_code, prog_1_method_37_code, prog_1_method_4_code, prog_1_method_32_code, prog_1_method_33_code, prog_1_method_35_code, prog_1_method_34_code, prog_1_method_25_code, prog_1_method_30_code, prog_1_method_17_code, prog_1_method_40_code, prog_1_method_47_code, (⟨#[]⟩ : ByteArray), prog_1_method_53_code, prog_1_method_57_code, prog_1_method_54_code, prog_1_method_56_code, (⟨#[]⟩ : ByteArray), prog_1_method_48_code, prog_1_method_49_code, prog_1_method_64_code, prog_1_method_12_code, prog_1_method_16_code, prog_1_method_13_code, prog_1_method_31_code, prog_1_method_65_code, prog_1_method_6_code, prog_1_method_36_code, prog_1_method_3_code, prog_1_method_11_code, prog_1_method_39_code, prog_1_method_66_code, prog_1_method_8_code, prog_1_method_38_code, prog_1_method_60_code, prog_1_method_7_code, prog_1_method_14_code, prog_1_method_10_code, (⟨#[]⟩ : ByteArray), prog_1_method_5_code, (⟨#[]⟩ : ByteArray), prog_1_method_9_code, prog_2_method_1_code, prog_2_method_3_code, prog_2_method_2_code, prog_3_method_1_code, prog_3_method_5_code, prog_3_method_3_code, prog_3_method_4_code, prog_3_method_2_code, prog_4_method_1_code, prog_5_method_1_code, prog_5_method_9_code, prog_5_method_8_code, prog_5_method_2_code, prog_5_method_3_code, prog_5_method_4_code, prog_5_method_6_code, prog_5_method_5_code, (⟨#[]⟩ : ByteArray), prog_6_method_4_code, prog_6_method_5_code, prog_6_method_3_code, prog_6_method_2_code, method_10_code, method_9_code, method_11_code, method_2_code, method_3_code, method_7_code, method_4_code, method_5_code, method_6_code]
def j_mls : List Nat := [0, 0, 0, 0, 0, 0, 0, 0, 0, 0, 0, 0, 0, 1, 0, 0, 2, 2, 0, 0, 0, 0, 0, 0, 0, 0, 0, 0, 0, 0, 0, 0, 0, 0, 0, 0, 0, 0, 0, 0, 0, 0, 0, 0, 0, 0, 0, 0, 0, 0, 1, 1, 1, 2, 4, 2, 2, 1, 4, 0, 1, 0, 0, 0, 0, 0, 0, 2, 4, 0, 0, 2, 3, 4, 0, 0, 3, 1, 0, 4, 1, 3, 3, 0, 0, 3, 4, 3, 3, 4, 5, 3, 4, 8, 7, 7, 5, 7, 0, 6, 4, 5, 3, 4, 1, 2, 2, 2, 1, 3, 2, 2, 7, 0, 3, 3, 2, 3, 0, 5, 5, 4, 3, 3, 3, 1, 2, 6, 2, 4, 6, 3, 3, 11, 3, 2, 3, 7, 6, 0, 4, 0, 4, 6, 1, 2, 2, 1, 3, 3, 4, 5, 8, 1, 1, 2, 2, 2, 3, 3, 0, 8, 8, 6, 2, 7, 4, 6, 2, 2, 4, 4, 3, 3]
def j_rts : List (Option FieldType) := [none, none, none, none, none, none, none, none, none, none, none, none, none, (Option.some Jvm.ClassFile.FieldType.int), none, none, (Option.some Jvm.ClassFile.FieldType.int), (Option.some Jvm.ClassFile.FieldType.int), none, none, none, none, none, none, none, none, none, none, none, none, none, none, none, none, none, none, none, none, none, none, none, none, none, none, none, none, none, none, none, none, (Option.none : Option Jvm.ClassFile.FieldType), (Option.none : Option Jvm.ClassFile.FieldType), (Option.none : Option Jvm.ClassFile.FieldType), (Option.some Jvm.ClassFile.FieldType.boolean), (Option.none : Option Jvm.ClassFile.FieldType), (Option.some (Jvm.ClassFile.FieldType.object "java/lang/Object")), (Option.some (Jvm.ClassFile.FieldType.object "java/lang/Object")), (Option.some (Jvm.ClassFile.FieldType.array (Jvm.ClassFile.FieldType.object "java/lang/Object"))), (Option.some (Jvm.ClassFile.FieldType.array (Jvm.ClassFile.FieldType.object "java/lang/Object"))), none, (Option.some Jvm.ClassFile.FieldType.int), none, none, none, none, none, none, (Option.some (Jvm.ClassFile.FieldType.array (Jvm.ClassFile.FieldType.object "java/lang/Object"))), (Option.some (Jvm.ClassFile.FieldType.array (Jvm.ClassFile.FieldType.object "java/lang/Object"))), none, none, (Option.some Jvm.ClassFile.FieldType.int), (Option.some Jvm.ClassFile.FieldType.int), (Option.some Jvm.ClassFile.FieldType.int), none, none, (Option.some Jvm.ClassFile.FieldType.int), (Option.none : Option Jvm.ClassFile.FieldType), none, (Option.some Jvm.ClassFile.FieldType.boolean), (Option.some Jvm.ClassFile.FieldType.int), (Option.some Jvm.ClassFile.FieldType.boolean), (Option.some Jvm.ClassFile.FieldType.boolean), none, none, (Option.some Jvm.ClassFile.FieldType.int), (Option.some Jvm.ClassFile.FieldType.int), (Option.some Jvm.ClassFile.FieldType.int), (Option.some Jvm.ClassFile.FieldType.int), (Option.some Jvm.ClassFile.FieldType.int), (Option.some Jvm.ClassFile.FieldType.int), (Option.some Jvm.ClassFile.FieldType.int), (Option.some Jvm.ClassFile.FieldType.long), (Option.some Jvm.ClassFile.FieldType.long), (Option.some Jvm.ClassFile.FieldType.long), (Option.some Jvm.ClassFile.FieldType.long), (Option.some Jvm.ClassFile.FieldType.int), (Option.some Jvm.ClassFile.FieldType.int), none, (Option.some Jvm.ClassFile.FieldType.int), (Option.some Jvm.ClassFile.FieldType.int), (Option.some Jvm.ClassFile.FieldType.int), (Option.some Jvm.ClassFile.FieldType.int), (Option.some Jvm.ClassFile.FieldType.int), (Option.some Jvm.ClassFile.FieldType.boolean), (Option.some Jvm.ClassFile.FieldType.boolean), (Option.some Jvm.ClassFile.FieldType.boolean), (Option.some Jvm.ClassFile.FieldType.boolean), (Option.some Jvm.ClassFile.FieldType.boolean), (Option.some Jvm.ClassFile.FieldType.boolean), (Option.some Jvm.ClassFile.FieldType.int), (Option.some Jvm.ClassFile.FieldType.int), (Option.some Jvm.ClassFile.FieldType.int), none, (Option.none : Option Jvm.ClassFile.FieldType), (Option.none : Option Jvm.ClassFile.FieldType), (Option.none : Option Jvm.ClassFile.FieldType), (Option.none : Option Jvm.ClassFile.FieldType), none, (Option.some Jvm.ClassFile.FieldType.int), (Option.some Jvm.ClassFile.FieldType.int), (Option.some Jvm.ClassFile.FieldType.boolean), (Option.some Jvm.ClassFile.FieldType.int), (Option.some Jvm.ClassFile.FieldType.int), (Option.some Jvm.ClassFile.FieldType.int), (Option.some Jvm.ClassFile.FieldType.int), (Option.some Jvm.ClassFile.FieldType.boolean), (Option.some Jvm.ClassFile.FieldType.int), (Option.some Jvm.ClassFile.FieldType.int), (Option.some Jvm.ClassFile.FieldType.int), (Option.some Jvm.ClassFile.FieldType.int), (Option.some Jvm.ClassFile.FieldType.int), (Option.some Jvm.ClassFile.FieldType.boolean), (Option.some Jvm.ClassFile.FieldType.int), (Option.some Jvm.ClassFile.FieldType.int), (Option.some Jvm.ClassFile.FieldType.int), (Option.some Jvm.ClassFile.FieldType.int), (Option.some Jvm.ClassFile.FieldType.int), (Option.some Jvm.ClassFile.FieldType.int), none, (Option.some Jvm.ClassFile.FieldType.int), none, (Option.some Jvm.ClassFile.FieldType.int), (Option.none : Option Jvm.ClassFile.FieldType), (Option.some Jvm.ClassFile.FieldType.int), (Option.some (Jvm.ClassFile.FieldType.object "Grainclock$Motes")), (Option.none : Option Jvm.ClassFile.FieldType), (Option.some Jvm.ClassFile.FieldType.boolean), (Option.some Jvm.ClassFile.FieldType.int), (Option.some Jvm.ClassFile.FieldType.int), (Option.none : Option Jvm.ClassFile.FieldType), (Option.none : Option Jvm.ClassFile.FieldType), (Option.none : Option Jvm.ClassFile.FieldType), (Option.some Jvm.ClassFile.FieldType.int), (Option.some Jvm.ClassFile.FieldType.int), (Option.none : Option Jvm.ClassFile.FieldType), (Option.some Jvm.ClassFile.FieldType.int), (Option.some Jvm.ClassFile.FieldType.int), (Option.some Jvm.ClassFile.FieldType.boolean), (Option.some Jvm.ClassFile.FieldType.boolean), none, (Option.some Jvm.ClassFile.FieldType.int), (Option.some Jvm.ClassFile.FieldType.int), (Option.some Jvm.ClassFile.FieldType.int), (Option.some Jvm.ClassFile.FieldType.int), (Option.some Jvm.ClassFile.FieldType.boolean), (Option.some Jvm.ClassFile.FieldType.boolean), (Option.some Jvm.ClassFile.FieldType.boolean), (Option.some Jvm.ClassFile.FieldType.int), (Option.some Jvm.ClassFile.FieldType.int), (Option.some Jvm.ClassFile.FieldType.boolean), (Option.some (Jvm.ClassFile.FieldType.object "Grainclock")), (Option.none : Option Jvm.ClassFile.FieldType), (Option.some Jvm.ClassFile.FieldType.int)]
def j_hhs : List (List (Nat × Nat × Nat × Nat)) := [[], [], [], [], [], [], [], [], [], [], [], [], [], [], [], [], [], [], [], [], [], [], [], [], [], [], [], [], [], [], [], [], [], [], [], [], [], [], [], [], [], [], [], [], [], [], [], [], [], [], [], [], [], [], [], [], [], [], [], [], [], [], [], [], [], [], [], [], [], [], [], [], [], [], [], [], [], [], [], [], [], [], [], [], [], [], [], [], [], [], [], [], [], [], [], [], [], [], [], [], [], [], [], [], [], [], [], [], [], [], [], [], [], [], [], [], [], [], [], [], [], [], [], [], [], [], [], [], [], [], [], [], [], [], [], [], [], [], [], [], [], [], [], [], [], [], [], [], [], [], [], [], [], [], [], [], [], [], [], [], [], [], [], [], [], [], [], [((10 : Nat), (102 : Nat), (121 : Nat), (50 : Nat)), ((103 : Nat), (118 : Nat), (121 : Nat), (50 : Nat))], [], [], [((9 : Nat), (307 : Nat), (308 : Nat), (76 : Nat)), ((9 : Nat), (307 : Nat), (311 : Nat), (50 : Nat)), ((9 : Nat), (307 : Nat), (314 : Nat), (78 : Nat))], [], [], [((2 : Nat), (12 : Nat), (15 : Nat), (50 : Nat))]]
def j_nas : List Nat := [0, 0, 0, 0, 0, 0, 0, 0, 0, 0, 0, 0, 0, 1, 0, 0, 2, 2, 0, 0, 0, 0, 0, 0, 0, 0, 0, 0, 0, 0, 0, 0, 0, 0, 0, 0, 0, 0, 0, 0, 0, 0, 0, 0, 0, 0, 0, 0, 0, 0, 1, 1, 1, 2, 4, 2, 2, 1, 2, 0, 1, 0, 0, 0, 0, 0, 0, 2, 3, 0, 0, 2, 2, 3, 0, 0, 3, 1, 0, 2, 1, 1, 2, 0, 0, 1, 1, 1, 1, 1, 2, 1, 1, 2, 2, 2, 2, 4, 0, 1, 1, 4, 3, 3, 1, 2, 2, 2, 1, 3, 2, 2, 4, 0, 1, 3, 2, 1, 0, 2, 2, 1, 3, 3, 3, 1, 1, 3, 2, 2, 3, 3, 1, 5, 3, 2, 2, 4, 3, 0, 3, 0, 2, 6, 1, 2, 2, 1, 2, 2, 3, 5, 8, 1, 1, 2, 2, 2, 3, 3, 0, 4, 4, 3, 2, 2, 1, 1, 2, 2, 2, 1, 2, 1]
def j_y (n : Nat) : MethodName := j_ys.getD n ⟨"", "", ""⟩
def j_b (n : Nat) : ByteArray := j_bs.getD n ⟨#[]⟩
def j_ml (n : Nat) : Nat := j_mls.getD n 0
def j_rt (n : Nat) : Option FieldType := j_rts.getD n none
def j_hh (n : Nat) : List (Nat × Nat × Nat × Nat) := j_hhs.getD n []
def j_na (n : Nat) : Nat := j_nas.getD n 0
