/-! words that the start asks for -/
theorem tw_2_104 : (Jvm.Cond.declares ({ cls := "java/lang/RuntimeException", name := "<init>", desc := "(Ljava/lang/String;)V" } : Jvm.MethodName)) ∈ tables_1 := ti_2 (List.mem_of_getElem? (i := 104) rfl)
theorem tw_2_106 : (Jvm.Cond.declares ({ cls := "java/lang/Exception", name := "<init>", desc := "(Ljava/lang/String;)V" } : Jvm.MethodName)) ∈ tables_1 := ti_2 (List.mem_of_getElem? (i := 106) rfl)
theorem tw_2_108 : (Jvm.Cond.declares ({ cls := "java/lang/Throwable", name := "<init>", desc := "(Ljava/lang/String;)V" } : Jvm.MethodName)) ∈ tables_1 := ti_2 (List.mem_of_getElem? (i := 108) rfl)
theorem tw_6_6 : (Jvm.Cond.declares ({ cls := "java/util/Iterator", name := "hasNext", desc := "()Z" } : Jvm.MethodName)) ∈ tables_1 := ti_6 (List.mem_of_getElem? (i := 6) rfl)
theorem tw_6_16 : (Jvm.Cond.declares ({ cls := "java/util/Iterator", name := "next", desc := "()Ljava/lang/Object;" } : Jvm.MethodName)) ∈ tables_1 := ti_6 (List.mem_of_getElem? (i := 16) rfl)
theorem tw_6_20 : (Jvm.Cond.publicMethod ({ cls := "java/util/ArrayList$Itr", name := "next", desc := "()Ljava/lang/Object;" } : Jvm.MethodName)) ∈ tables_1 := ti_6 (List.mem_of_getElem? (i := 20) rfl)
theorem tw_7_84 : (Jvm.Cond.declares ({ cls := "java/lang/Object", name := "getClass", desc := "()Ljava/lang/Class;" } : Jvm.MethodName)) ∈ tables_1 := ti_7 (List.mem_of_getElem? (i := 84) rfl)
