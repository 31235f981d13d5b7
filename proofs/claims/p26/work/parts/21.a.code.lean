/-- java/lang/AbstractStringBuilder.<init>(I)V -/
def k_0 : List j_I := [(0, .aload_n 0, 1, 1, 0, 0, []),
  (1, .invokespecial 3, 3, 4, 0, 0, [1]),
  (4, .getstatic 18, 3, 7, 0, 0, []),
  (7, .ifCond .eq 18, 3, 10, 0, 0, [25]),
  (10, .aload_n 0, 1, 11, 0, 0, []),
  (11, .iload_n 1, 1, 12, 0, 0, []),
  (12, .newarray .byte, 2, 14, 1, 0, []),
  (14, .putfield 15, 3, 17, 1, 0, []),
  (17, .aload_n 0, 1, 18, 0, 0, []),
  (18, .iconst 0, 1, 19, 0, 0, []),
  (19, .putfield 22, 3, 22, 1, 1, []),
  (22, .goto 16, 3, 25, 0, 0, [38]),
  (25, .aload_n 0, 1, 26, 0, 0, []),
  (26, .iload_n 1, 1, 27, 0, 0, []),
  (27, .invokestatic 26, 3, 30, 45, 1, []),
  (30, .putfield 15, 3, 33, 1, 0, []),
  (33, .aload_n 0, 1, 34, 0, 0, []),
  (34, .iconst 1, 1, 35, 0, 0, []),
  (35, .putfield 22, 3, 38, 1, 1, []),
  (38, .return_, 1, 39, 0, 0, [])]
def s_0 : List j_I := [(1, .invokespecial 3, 3, 4, 0, 0, [1]),
  (4, .getstatic 18, 3, 7, 0, 0, []),
  (12, .newarray .byte, 2, 14, 1, 0, []),
  (14, .putfield 15, 3, 17, 1, 0, []),
  (19, .putfield 22, 3, 22, 1, 1, []),
  (27, .invokestatic 26, 3, 30, 45, 1, []),
  (30, .putfield 15, 3, 33, 1, 0, []),
  (35, .putfield 22, 3, 38, 1, 1, [])]
theorem kl_0 : ∀ q ∈ k_0, j_lk (j_y 0).cls (j_y 0).name (j_b 0) (j_hh 0) q := j_lkall (sp := s_0) (Eq.refl s_0) (List.forall_mem_cons.mpr ⟨⟨⟨rfl, rfl⟩, tw_4_98, kobj⟩,
  List.forall_mem_cons.mpr ⟨⟨⟨rfl, rfl⟩, fun z hz => Option.some.inj hz ▸ tw_4_99⟩,
  List.forall_mem_cons.mpr ⟨⟨⟨rfl, rfl⟩, Or.inr ⟨rfl, rfl⟩, tw_2_167⟩,
  List.forall_mem_cons.mpr ⟨⟨⟨rfl, rfl⟩, ⟨_, "java/lang/AbstractStringBuilder", rfl, Nat.le_of_ble_eq_true rfl, Or.inl tw_4_108, Or.inl rfl⟩, fun r hr hz => absurd hz (Option.some.inj hr ▸ Bool.false_ne_true)⟩,
  List.forall_mem_cons.mpr ⟨⟨⟨rfl, rfl⟩, ⟨_, "java/lang/AbstractStringBuilder", rfl, Nat.le_of_ble_eq_true rfl, Or.inl tw_4_109, Or.inl rfl⟩, fun r hr hz => absurd hz (Option.some.inj hr ▸ Bool.false_ne_true)⟩,
  List.forall_mem_cons.mpr ⟨⟨⟨rfl, rfl⟩, ks_45, tw_4_101, kn_45⟩,
  List.forall_mem_cons.mpr ⟨⟨⟨rfl, rfl⟩, ⟨_, "java/lang/AbstractStringBuilder", rfl, Nat.le_of_ble_eq_true rfl, Or.inl tw_4_108, Or.inl rfl⟩, fun r hr hz => absurd hz (Option.some.inj hr ▸ Bool.false_ne_true)⟩,
  List.forall_mem_cons.mpr ⟨⟨⟨rfl, rfl⟩, ⟨_, "java/lang/AbstractStringBuilder", rfl, Nat.le_of_ble_eq_true rfl, Or.inl tw_4_109, Or.inl rfl⟩, fun r hr hz => absurd hz (Option.some.inj hr ▸ Bool.false_ne_true)⟩,
  fun _ h => (nomatch h)⟩⟩⟩⟩⟩⟩⟩⟩)
theorem kq_0 : k_0.all (fun q => decide (decode (j_b 0) q.1 = .ok (q.2.1, q.2.2.1))) = true := by decide +kernel
theorem km_0 : j_Md 0 k_0 := ⟨by decide, fun q h => ⟨of_decide_eq_true (List.all_eq_true.mp kq_0 q h), kl_0 q h⟩⟩
/-- java/lang/AbstractStringBuilder.append(C)Ljava/lang/AbstractStringBuilder; -/
def k_1 : List j_I := [(0, .aload_n 0, 1, 1, 0, 0, []),
  (1, .aload_n 0, 1, 2, 0, 0, []),
  (2, .getfield 79, 3, 5, 1, 3, []),
  (5, .iconst 1, 1, 6, 0, 0, []),
  (6, .iadd, 1, 7, 0, 0, []),
  (7, .invokevirtual 100, 3, 10, 5, 2, [1]),
  (10, .aload_n 0, 1, 11, 0, 0, []),
  (11, .invokevirtual 83, 3, 14, 9, 1, [1]),
  (14, .ifCond .eq 31, 3, 17, 0, 0, [45]),
  (17, .iload_n 1, 1, 18, 0, 0, []),
  (18, .invokestatic 191, 3, 21, 32, 1, []),
  (21, .ifCond .eq 24, 3, 24, 0, 0, [45]),
  (24, .aload_n 0, 1, 25, 0, 0, []),
  (25, .getfield 15, 3, 28, 1, 0, []),
  (28, .aload_n 0, 1, 29, 0, 0, []),
  (29, .dup, 1, 30, 0, 0, []),
  (30, .getfield 79, 3, 33, 1, 3, []),
  (33, .dup_x1, 1, 34, 0, 0, []),
  (34, .iconst 1, 1, 35, 0, 0, []),
  (35, .iadd, 1, 36, 0, 0, []),
  (36, .putfield 79, 3, 39, 1, 3, []),
  (39, .iload_n 1, 1, 40, 0, 0, []),
  (40, .i2b, 1, 41, 0, 0, []),
  (41, .bastore, 1, 42, 0, 0, []),
  (42, .goto 33, 3, 45, 0, 0, [75]),
  (45, .aload_n 0, 1, 46, 0, 0, []),
  (46, .invokevirtual 83, 3, 49, 9, 1, [1]),
  (49, .ifCond .eq 7, 3, 52, 0, 0, [56]),
  (52, .aload_n 0, 1, 53, 0, 0, []),
  (56, .aload_n 0, 1, 57, 0, 0, []),
  (57, .getfield 15, 3, 60, 1, 0, []),
  (60, .aload_n 0, 1, 61, 0, 0, []),
  (61, .dup, 1, 62, 0, 0, []),
  (62, .getfield 79, 3, 65, 1, 3, []),
  (65, .dup_x1, 1, 66, 0, 0, []),
  (66, .iconst 1, 1, 67, 0, 0, []),
  (67, .iadd, 1, 68, 0, 0, []),
  (68, .putfield 79, 3, 71, 1, 3, []),
  (71, .iload_n 1, 1, 72, 0, 0, []),
  (72, .invokestatic 197, 3, 75, 48, 3, []),
  (75, .aload_n 0, 1, 76, 0, 0, []),
  (76, .areturn, 1, 77, 0, 0, [])]
def s_1 : List j_I := [(2, .getfield 79, 3, 5, 1, 3, []),
  (7, .invokevirtual 100, 3, 10, 5, 2, [1]),
  (11, .invokevirtual 83, 3, 14, 9, 1, [1]),
  (18, .invokestatic 191, 3, 21, 32, 1, []),
  (25, .getfield 15, 3, 28, 1, 0, []),
  (30, .getfield 79, 3, 33, 1, 3, []),
  (36, .putfield 79, 3, 39, 1, 3, []),
  (46, .invokevirtual 83, 3, 49, 9, 1, [1]),
  (57, .getfield 15, 3, 60, 1, 0, []),
  (62, .getfield 79, 3, 65, 1, 3, []),
  (68, .putfield 79, 3, 71, 1, 3, []),
  (72, .invokestatic 197, 3, 75, 48, 3, [])]
theorem kl_1 : ∀ q ∈ k_1, j_lk (j_y 1).cls (j_y 1).name (j_b 1) (j_hh 1) q := j_lkall (sp := s_1) (Eq.refl s_1) (List.forall_mem_cons.mpr ⟨⟨⟨rfl, rfl⟩, ⟨_, "java/lang/AbstractStringBuilder", rfl, Nat.le_of_ble_eq_true rfl, Or.inl tw_4_111, Or.inl rfl⟩⟩,
  List.forall_mem_cons.mpr ⟨⟨⟨rfl, rfl⟩, Or.inr ⟨rfl, _, ({ cls := "java/lang/AbstractStringBuilder", name := "ensureCapacityInternal", desc := "(I)V" } : Jvm.MethodName), _, _, _, rfl, rfl, ⟨by decide +kernel, by decide +kernel, by decide +kernel⟩, tw_4_131, tw_7_57, tw_4_133, tw_4_134, Or.inr ⟨rfl, rfl, List.mem_of_getElem? (i := 0) rfl⟩, tw_4_133, tw_1_29, tw_4_134⟩⟩,
  List.forall_mem_cons.mpr ⟨⟨⟨rfl, rfl⟩, Or.inr ⟨rfl, _, ({ cls := "java/lang/AbstractStringBuilder", name := "isLatin1", desc := "()Z" } : Jvm.MethodName), _, _, _, rfl, rfl, ⟨by decide +kernel, by decide +kernel, by decide +kernel⟩, tw_4_151, tw_4_153, tw_4_152, tw_4_155, Or.inl tw_4_154, tw_4_152, tw_1_29, tw_4_155⟩⟩,
  List.forall_mem_cons.mpr ⟨⟨⟨rfl, rfl⟩, ks_32, tw_4_201, kn_32⟩,
  List.forall_mem_cons.mpr ⟨⟨⟨rfl, rfl⟩, ⟨_, "java/lang/AbstractStringBuilder", rfl, Nat.le_of_ble_eq_true rfl, Or.inl tw_4_108, Or.inl rfl⟩⟩,
  List.forall_mem_cons.mpr ⟨⟨⟨rfl, rfl⟩, ⟨_, "java/lang/AbstractStringBuilder", rfl, Nat.le_of_ble_eq_true rfl, Or.inl tw_4_111, Or.inl rfl⟩⟩,
  List.forall_mem_cons.mpr ⟨⟨⟨rfl, rfl⟩, ⟨_, "java/lang/AbstractStringBuilder", rfl, Nat.le_of_ble_eq_true rfl, Or.inl tw_4_111, Or.inl rfl⟩, fun r hr hz => absurd hz (Option.some.inj hr ▸ Bool.false_ne_true)⟩,
  List.forall_mem_cons.mpr ⟨⟨⟨rfl, rfl⟩, Or.inr ⟨rfl, _, ({ cls := "java/lang/AbstractStringBuilder", name := "isLatin1", desc := "()Z" } : Jvm.MethodName), _, _, _, rfl, rfl, ⟨by decide +kernel, by decide +kernel, by decide +kernel⟩, tw_4_151, tw_4_153, tw_4_152, tw_4_155, Or.inl tw_4_154, tw_4_152, tw_1_29, tw_4_155⟩⟩,
  List.forall_mem_cons.mpr ⟨⟨⟨rfl, rfl⟩, ⟨_, "java/lang/AbstractStringBuilder", rfl, Nat.le_of_ble_eq_true rfl, Or.inl tw_4_108, Or.inl rfl⟩⟩,
  List.forall_mem_cons.mpr ⟨⟨⟨rfl, rfl⟩, ⟨_, "java/lang/AbstractStringBuilder", rfl, Nat.le_of_ble_eq_true rfl, Or.inl tw_4_111, Or.inl rfl⟩⟩,
  List.forall_mem_cons.mpr ⟨⟨⟨rfl, rfl⟩, ⟨_, "java/lang/AbstractStringBuilder", rfl, Nat.le_of_ble_eq_true rfl, Or.inl tw_4_111, Or.inl rfl⟩, fun r hr hz => absurd hz (Option.some.inj hr ▸ Bool.false_ne_true)⟩,
  List.forall_mem_cons.mpr ⟨⟨⟨rfl, rfl⟩, ks_48, tw_4_223, kn_48⟩,
  fun _ h => (nomatch h)⟩⟩⟩⟩⟩⟩⟩⟩⟩⟩⟩⟩)
theorem kq_1 : k_1.all (fun q => decide (decode (j_b 1) q.1 = .ok (q.2.1, q.2.2.1))) = true := by decide +kernel
theorem km_1 : j_Md 1 k_1 := ⟨by decide, fun q h => ⟨of_decide_eq_true (List.all_eq_true.mp kq_1 q h), kl_1 q h⟩⟩
/-- java/lang/AbstractStringBuilder.append(I)Ljava/lang/AbstractStringBuilder; -/
def k_2 : List j_I := [(0, .aload_n 0, 1, 1, 0, 0, []),
  (1, .getfield 79, 3, 4, 1, 3, []),
  (4, .istore_n 2, 1, 5, 0, 0, []),
  (5, .iload_n 2, 1, 6, 0, 0, []),
  (6, .iload_n 1, 1, 7, 0, 0, []),
  (7, .invokestatic 245, 3, 10, 15, 1, []),
  (10, .iadd, 1, 11, 0, 0, []),
  (11, .istore_n 3, 1, 12, 0, 0, []),
  (12, .aload_n 0, 1, 13, 0, 0, []),
  (13, .iload_n 3, 1, 14, 0, 0, []),
  (14, .invokevirtual 100, 3, 17, 5, 2, [1]),
  (17, .aload_n 0, 1, 18, 0, 0, []),
  (18, .invokevirtual 83, 3, 21, 9, 1, [1]),
  (21, .ifCond .eq 16, 3, 24, 0, 0, [37]),
  (24, .iload_n 1, 1, 25, 0, 0, []),
  (25, .iload_n 3, 1, 26, 0, 0, []),
  (26, .aload_n 0, 1, 27, 0, 0, []),
  (27, .getfield 15, 3, 30, 1, 0, []),
  (30, .invokestatic 248, 3, 33, 14, 3, []),
  (33, .pop, 1, 34, 0, 0, []),
  (34, .goto 14, 3, 37, 0, 0, [48]),
  (37, .iload_n 1, 1, 38, 0, 0, []),
  (38, .iload_n 2, 1, 39, 0, 0, []),
  (39, .iload_n 3, 1, 40, 0, 0, []),
  (40, .aload_n 0, 1, 41, 0, 0, []),
  (41, .getfield 15, 3, 44, 1, 0, []),
  (44, .invokestatic 251, 3, 47, 41, 4, []),
  (47, .pop, 1, 48, 0, 0, []),
  (48, .aload_n 0, 1, 49, 0, 0, []),
  (49, .iload_n 3, 1, 50, 0, 0, []),
  (50, .putfield 79, 3, 53, 1, 3, []),
  (53, .aload_n 0, 1, 54, 0, 0, []),
  (54, .areturn, 1, 55, 0, 0, [])]
def s_2 : List j_I := [(1, .getfield 79, 3, 4, 1, 3, []),
  (7, .invokestatic 245, 3, 10, 15, 1, []),
  (14, .invokevirtual 100, 3, 17, 5, 2, [1]),
  (18, .invokevirtual 83, 3, 21, 9, 1, [1]),
  (27, .getfield 15, 3, 30, 1, 0, []),
  (30, .invokestatic 248, 3, 33, 14, 3, []),
  (41, .getfield 15, 3, 44, 1, 0, []),
  (44, .invokestatic 251, 3, 47, 41, 4, []),
  (50, .putfield 79, 3, 53, 1, 3, [])]
theorem kl_2 : ∀ q ∈ k_2, j_lk (j_y 2).cls (j_y 2).name (j_b 2) (j_hh 2) q := j_lkall (sp := s_2) (Eq.refl s_2) (List.forall_mem_cons.mpr ⟨⟨⟨rfl, rfl⟩, ⟨_, "java/lang/AbstractStringBuilder", rfl, Nat.le_of_ble_eq_true rfl, Or.inl tw_4_111, Or.inl rfl⟩⟩,
  List.forall_mem_cons.mpr ⟨⟨⟨rfl, rfl⟩, ks_15, tw_4_128, kn_15⟩,
  List.forall_mem_cons.mpr ⟨⟨⟨rfl, rfl⟩, Or.inr ⟨rfl, _, ({ cls := "java/lang/AbstractStringBuilder", name := "ensureCapacityInternal", desc := "(I)V" } : Jvm.MethodName), _, _, _, rfl, rfl, ⟨by decide +kernel, by decide +kernel, by decide +kernel⟩, tw_4_131, tw_7_57, tw_4_133, tw_4_134, Or.inr ⟨rfl, rfl, List.mem_of_getElem? (i := 0) rfl⟩, tw_4_133, tw_1_29, tw_4_134⟩⟩,
  List.forall_mem_cons.mpr ⟨⟨⟨rfl, rfl⟩, Or.inr ⟨rfl, _, ({ cls := "java/lang/AbstractStringBuilder", name := "isLatin1", desc := "()Z" } : Jvm.MethodName), _, _, _, rfl, rfl, ⟨by decide +kernel, by decide +kernel, by decide +kernel⟩, tw_4_151, tw_4_153, tw_4_152, tw_4_155, Or.inl tw_4_154, tw_4_152, tw_1_29, tw_4_155⟩⟩,
  List.forall_mem_cons.mpr ⟨⟨⟨rfl, rfl⟩, ⟨_, "java/lang/AbstractStringBuilder", rfl, Nat.le_of_ble_eq_true rfl, Or.inl tw_4_108, Or.inl rfl⟩⟩,
  List.forall_mem_cons.mpr ⟨⟨⟨rfl, rfl⟩, ks_14, tw_4_156, kn_14⟩,
  List.forall_mem_cons.mpr ⟨⟨⟨rfl, rfl⟩, ⟨_, "java/lang/AbstractStringBuilder", rfl, Nat.le_of_ble_eq_true rfl, Or.inl tw_4_108, Or.inl rfl⟩⟩,
  List.forall_mem_cons.mpr ⟨⟨⟨rfl, rfl⟩, ks_41, tw_4_163, kn_41⟩,
  List.forall_mem_cons.mpr ⟨⟨⟨rfl, rfl⟩, ⟨_, "java/lang/AbstractStringBuilder", rfl, Nat.le_of_ble_eq_true rfl, Or.inl tw_4_111, Or.inl rfl⟩, fun r hr hz => absurd hz (Option.some.inj hr ▸ Bool.false_ne_true)⟩,
  fun _ h => (nomatch h)⟩⟩⟩⟩⟩⟩⟩⟩⟩)
theorem kq_2 : k_2.all (fun q => decide (decode (j_b 2) q.1 = .ok (q.2.1, q.2.2.1))) = true := by decide +kernel
theorem km_2 : j_Md 2 k_2 := ⟨by decide, fun q h => ⟨of_decide_eq_true (List.all_eq_true.mp kq_2 q h), kl_2 q h⟩⟩
/-- java/lang/AbstractStringBuilder.ensureCapacityInternal(I)V -/
def k_5 : List j_I := [(0, .aload_n 0, 1, 1, 0, 0, []),
  (1, .getfield 15, 3, 4, 1, 0, []),
  (4, .arraylength, 1, 5, 0, 0, []),
  (5, .aload_n 0, 1, 6, 0, 0, []),
  (6, .getfield 22, 3, 9, 1, 1, []),
  (9, .ishr, 1, 10, 0, 0, []),
  (10, .istore_n 2, 1, 11, 0, 0, []),
  (11, .iload_n 1, 1, 12, 0, 0, []),
  (12, .iload_n 2, 1, 13, 0, 0, []),
  (13, .isub, 1, 14, 0, 0, []),
  (14, .ifCond .le 24, 3, 17, 0, 0, [38]),
  (17, .aload_n 0, 1, 18, 0, 0, []),
  (18, .aload_n 0, 1, 19, 0, 0, []),
  (19, .getfield 15, 3, 22, 1, 0, []),
  (22, .aload_n 0, 1, 23, 0, 0, []),
  (23, .iload_n 1, 1, 24, 0, 0, []),
  (24, .invokevirtual 104, 3, 27, 11, 2, [1]),
  (27, .aload_n 0, 1, 28, 0, 0, []),
  (28, .getfield 22, 3, 31, 1, 1, []),
  (31, .ishl, 1, 32, 0, 0, []),
  (32, .invokestatic 108, 3, 35, 66, 2, []),
  (35, .putfield 15, 3, 38, 1, 0, []),
  (38, .return_, 1, 39, 0, 0, [])]
def s_5 : List j_I := [(1, .getfield 15, 3, 4, 1, 0, []),
  (6, .getfield 22, 3, 9, 1, 1, []),
  (19, .getfield 15, 3, 22, 1, 0, []),
  (24, .invokevirtual 104, 3, 27, 11, 2, [1]),
  (28, .getfield 22, 3, 31, 1, 1, []),
  (32, .invokestatic 108, 3, 35, 66, 2, []),
  (35, .putfield 15, 3, 38, 1, 0, [])]
theorem kl_5 : ∀ q ∈ k_5, j_lk (j_y 5).cls (j_y 5).name (j_b 5) (j_hh 5) q := j_lkall (sp := s_5) (Eq.refl s_5) (List.forall_mem_cons.mpr ⟨⟨⟨rfl, rfl⟩, ⟨_, "java/lang/AbstractStringBuilder", rfl, Nat.le_of_ble_eq_true rfl, Or.inl tw_4_108, Or.inl rfl⟩⟩,
  List.forall_mem_cons.mpr ⟨⟨⟨rfl, rfl⟩, ⟨_, "java/lang/AbstractStringBuilder", rfl, Nat.le_of_ble_eq_true rfl, Or.inl tw_4_109, Or.inl rfl⟩⟩,
  List.forall_mem_cons.mpr ⟨⟨⟨rfl, rfl⟩, ⟨_, "java/lang/AbstractStringBuilder", rfl, Nat.le_of_ble_eq_true rfl, Or.inl tw_4_108, Or.inl rfl⟩⟩,
  List.forall_mem_cons.mpr ⟨⟨⟨rfl, rfl⟩, Or.inr ⟨rfl, _, ({ cls := "java/lang/AbstractStringBuilder", name := "newCapacity", desc := "(I)I" } : Jvm.MethodName), _, _, _, rfl, rfl, ⟨by decide +kernel, by decide +kernel, by decide +kernel⟩, tw_4_135, tw_7_58, tw_4_137, tw_4_138, Or.inr ⟨rfl, rfl, List.mem_of_getElem? (i := 1) rfl⟩, tw_4_137, tw_1_29, tw_4_138⟩⟩,
  List.forall_mem_cons.mpr ⟨⟨⟨rfl, rfl⟩, ⟨_, "java/lang/AbstractStringBuilder", rfl, Nat.le_of_ble_eq_true rfl, Or.inl tw_4_109, Or.inl rfl⟩⟩,
  List.forall_mem_cons.mpr ⟨⟨⟨rfl, rfl⟩, ks_66, tw_4_141, kn_66⟩,
  List.forall_mem_cons.mpr ⟨⟨⟨rfl, rfl⟩, ⟨_, "java/lang/AbstractStringBuilder", rfl, Nat.le_of_ble_eq_true rfl, Or.inl tw_4_108, Or.inl rfl⟩, fun r hr hz => absurd hz (Option.some.inj hr ▸ Bool.false_ne_true)⟩,
  fun _ h => (nomatch h)⟩⟩⟩⟩⟩⟩⟩)
theorem kq_5 : k_5.all (fun q => decide (decode (j_b 5) q.1 = .ok (q.2.1, q.2.2.1))) = true := by decide +kernel
theorem km_5 : j_Md 5 k_5 := ⟨by decide, fun q h => ⟨of_decide_eq_true (List.all_eq_true.mp kq_5 q h), kl_5 q h⟩⟩
/-- java/lang/AbstractStringBuilder.getValue()[B -/
def k_6 : List j_I := [(0, .aload_n 0, 1, 1, 0, 0, []),
  (1, .getfield 15, 3, 4, 1, 0, []),
  (4, .areturn, 1, 5, 0, 0, [])]
def s_6 : List j_I := [(1, .getfield 15, 3, 4, 1, 0, [])]
theorem kl_6 : ∀ q ∈ k_6, j_lk (j_y 6).cls (j_y 6).name (j_b 6) (j_hh 6) q := j_lkall (sp := s_6) (Eq.refl s_6) (List.forall_mem_cons.mpr ⟨⟨⟨rfl, rfl⟩, ⟨_, "java/lang/AbstractStringBuilder", rfl, Nat.le_of_ble_eq_true rfl, Or.inl tw_4_108, Or.inl rfl⟩⟩,
  fun _ h => (nomatch h)⟩)
theorem kq_6 : k_6.all (fun q => decide (decode (j_b 6) q.1 = .ok (q.2.1, q.2.2.1))) = true := by decide +kernel
theorem km_6 : j_Md 6 k_6 := ⟨by decide, fun q h => ⟨of_decide_eq_true (List.all_eq_true.mp kq_6 q h), kl_6 q h⟩⟩
/-- java/lang/AbstractStringBuilder.isLatin1()Z -/
def k_9 : List j_I := [(0, .getstatic 18, 3, 3, 0, 0, []),
  (3, .ifCond .eq 14, 3, 6, 0, 0, [17]),
  (6, .aload_n 0, 1, 7, 0, 0, []),
  (7, .getfield 22, 3, 10, 1, 1, []),
  (10, .ifCond .ne 7, 3, 13, 0, 0, [17]),
  (13, .iconst 1, 1, 14, 0, 0, []),
  (14, .goto 4, 3, 17, 0, 0, [18]),
  (17, .iconst 0, 1, 18, 0, 0, []),
  (18, .ireturn, 1, 19, 0, 0, [])]
def s_9 : List j_I := [(0, .getstatic 18, 3, 3, 0, 0, []),
  (7, .getfield 22, 3, 10, 1, 1, [])]
theorem kl_9 : ∀ q ∈ k_9, j_lk (j_y 9).cls (j_y 9).name (j_b 9) (j_hh 9) q := j_lkall (sp := s_9) (Eq.refl s_9) (List.forall_mem_cons.mpr ⟨⟨⟨rfl, rfl⟩, fun z hz => Option.some.inj hz ▸ tw_4_99⟩,
  List.forall_mem_cons.mpr ⟨⟨⟨rfl, rfl⟩, ⟨_, "java/lang/AbstractStringBuilder", rfl, Nat.le_of_ble_eq_true rfl, Or.inl tw_4_109, Or.inl rfl⟩⟩,
  fun _ h => (nomatch h)⟩⟩)
theorem kq_9 : k_9.all (fun q => decide (decode (j_b 9) q.1 = .ok (q.2.1, q.2.2.1))) = true := by decide +kernel
theorem km_9 : j_Md 9 k_9 := ⟨by decide, fun q h => ⟨of_decide_eq_true (List.all_eq_true.mp kq_9 q h), kl_9 q h⟩⟩
/-- java/lang/AbstractStringBuilder.length()I -/
def k_10 : List j_I := [(0, .aload_n 0, 1, 1, 0, 0, []),
  (1, .getfield 79, 3, 4, 1, 3, []),
  (4, .ireturn, 1, 5, 0, 0, [])]
def s_10 : List j_I := [(1, .getfield 79, 3, 4, 1, 3, [])]
theorem kl_10 : ∀ q ∈ k_10, j_lk (j_y 10).cls (j_y 10).name (j_b 10) (j_hh 10) q := j_lkall (sp := s_10) (Eq.refl s_10) (List.forall_mem_cons.mpr ⟨⟨⟨rfl, rfl⟩, ⟨_, "java/lang/AbstractStringBuilder", rfl, Nat.le_of_ble_eq_true rfl, Or.inl tw_4_111, Or.inl rfl⟩⟩,
  fun _ h => (nomatch h)⟩)
theorem kq_10 : k_10.all (fun q => decide (decode (j_b 10) q.1 = .ok (q.2.1, q.2.2.1))) = true := by decide +kernel
theorem km_10 : j_Md 10 k_10 := ⟨by decide, fun q h => ⟨of_decide_eq_true (List.all_eq_true.mp kq_10 q h), kl_10 q h⟩⟩
/-- java/lang/AbstractStringBuilder.newCapacity(I)I -/
def k_11 : List j_I := [(0, .aload_n 0, 1, 1, 0, 0, []),
  (1, .getfield 15, 3, 4, 1, 0, []),
  (4, .arraylength, 1, 5, 0, 0, []),
  (5, .istore_n 2, 1, 6, 0, 0, []),
  (6, .iload_n 1, 1, 7, 0, 0, []),
  (7, .aload_n 0, 1, 8, 0, 0, []),
  (8, .getfield 22, 3, 11, 1, 1, []),
  (11, .ishl, 1, 12, 0, 0, []),
  (12, .istore_n 3, 1, 13, 0, 0, []),
  (13, .iload_n 3, 1, 14, 0, 0, []),
  (14, .iload_n 2, 1, 15, 0, 0, []),
  (15, .isub, 1, 16, 0, 0, []),
  (16, .istore 4, 2, 18, 0, 0, []),
  (18, .iload_n 2, 1, 19, 0, 0, []),
  (19, .iload 4, 2, 21, 0, 0, []),
  (21, .iload_n 2, 1, 22, 0, 0, []),
  (22, .iconst 2, 1, 23, 0, 0, []),
  (23, .aload_n 0, 1, 24, 0, 0, []),
  (24, .getfield 22, 3, 27, 1, 1, []),
  (27, .ishl, 1, 28, 0, 0, []),
  (28, .iadd, 1, 29, 0, 0, []),
  (29, .invokestatic 114, 3, 32, 73, 3, []),
  (32, .istore 5, 2, 34, 0, 0, []),
  (34, .iload 5, 2, 36, 0, 0, []),
  (36, .ldc 39, 2, 38, 0, 2147483647, []),
  (38, .if_icmp .ne 13, 3, 41, 0, 0, [51]),
  (44, .dup, 1, 45, 0, 0, []),
  (51, .iload 5, 2, 53, 0, 0, []),
  (53, .aload_n 0, 1, 54, 0, 0, []),
  (54, .getfield 22, 3, 57, 1, 1, []),
  (57, .ishr, 1, 58, 0, 0, []),
  (58, .ireturn, 1, 59, 0, 0, [])]
def s_11 : List j_I := [(1, .getfield 15, 3, 4, 1, 0, []),
  (8, .getfield 22, 3, 11, 1, 1, []),
  (24, .getfield 22, 3, 27, 1, 1, []),
  (29, .invokestatic 114, 3, 32, 73, 3, []),
  (36, .ldc 39, 2, 38, 0, 2147483647, []),
  (54, .getfield 22, 3, 57, 1, 1, [])]
theorem kl_11 : ∀ q ∈ k_11, j_lk (j_y 11).cls (j_y 11).name (j_b 11) (j_hh 11) q := j_lkall (sp := s_11) (Eq.refl s_11) (List.forall_mem_cons.mpr ⟨⟨⟨rfl, rfl⟩, ⟨_, "java/lang/AbstractStringBuilder", rfl, Nat.le_of_ble_eq_true rfl, Or.inl tw_4_108, Or.inl rfl⟩⟩,
  List.forall_mem_cons.mpr ⟨⟨⟨rfl, rfl⟩, ⟨_, "java/lang/AbstractStringBuilder", rfl, Nat.le_of_ble_eq_true rfl, Or.inl tw_4_109, Or.inl rfl⟩⟩,
  List.forall_mem_cons.mpr ⟨⟨⟨rfl, rfl⟩, ⟨_, "java/lang/AbstractStringBuilder", rfl, Nat.le_of_ble_eq_true rfl, Or.inl tw_4_109, Or.inl rfl⟩⟩,
  List.forall_mem_cons.mpr ⟨⟨⟨rfl, rfl⟩, ks_73, tw_4_139, kn_73⟩,
  List.forall_mem_cons.mpr ⟨⟨⟨rfl, rfl⟩, tw_4_140⟩,
  List.forall_mem_cons.mpr ⟨⟨⟨rfl, rfl⟩, ⟨_, "java/lang/AbstractStringBuilder", rfl, Nat.le_of_ble_eq_true rfl, Or.inl tw_4_109, Or.inl rfl⟩⟩,
  fun _ h => (nomatch h)⟩⟩⟩⟩⟩⟩)
theorem kq_11 : k_11.all (fun q => decide (decode (j_b 11) q.1 = .ok (q.2.1, q.2.2.1))) = true := by decide +kernel
theorem km_11 : j_Md 11 k_11 := ⟨by decide, fun q h => ⟨of_decide_eq_true (List.all_eq_true.mp kq_11 q h), kl_11 q h⟩⟩
/-- java/lang/Integer.bitCount(I)I -/
def k_13 : List j_I := [(0, .iload_n 0, 1, 1, 0, 0, []),
  (1, .iload_n 0, 1, 2, 0, 0, []),
  (2, .iconst 1, 1, 3, 0, 0, []),
  (3, .iushr, 1, 4, 0, 0, []),
  (4, .ldc_w 265, 3, 7, 0, 1431655765, []),
  (7, .iand, 1, 8, 0, 0, []),
  (8, .isub, 1, 9, 0, 0, []),
  (9, .istore_n 0, 1, 10, 0, 0, []),
  (10, .iload_n 0, 1, 11, 0, 0, []),
  (11, .ldc_w 266, 3, 14, 0, 858993459, []),
  (14, .iand, 1, 15, 0, 0, []),
  (15, .iload_n 0, 1, 16, 0, 0, []),
  (16, .iconst 2, 1, 17, 0, 0, []),
  (17, .iushr, 1, 18, 0, 0, []),
  (18, .ldc_w 266, 3, 21, 0, 858993459, []),
  (21, .iand, 1, 22, 0, 0, []),
  (22, .iadd, 1, 23, 0, 0, []),
  (23, .istore_n 0, 1, 24, 0, 0, []),
  (24, .iload_n 0, 1, 25, 0, 0, []),
  (25, .iload_n 0, 1, 26, 0, 0, []),
  (26, .iconst 4, 1, 27, 0, 0, []),
  (27, .iushr, 1, 28, 0, 0, []),
  (28, .iadd, 1, 29, 0, 0, []),
  (29, .ldc_w 267, 3, 32, 0, 252645135, []),
  (32, .iand, 1, 33, 0, 0, []),
  (33, .istore_n 0, 1, 34, 0, 0, []),
  (34, .iload_n 0, 1, 35, 0, 0, []),
  (35, .iload_n 0, 1, 36, 0, 0, []),
  (36, .bipush 8, 2, 38, 0, 0, []),
  (38, .iushr, 1, 39, 0, 0, []),
  (39, .iadd, 1, 40, 0, 0, []),
  (40, .istore_n 0, 1, 41, 0, 0, []),
  (41, .iload_n 0, 1, 42, 0, 0, []),
  (42, .iload_n 0, 1, 43, 0, 0, []),
  (43, .bipush 16, 2, 45, 0, 0, []),
  (45, .iushr, 1, 46, 0, 0, []),
  (46, .iadd, 1, 47, 0, 0, []),
  (47, .istore_n 0, 1, 48, 0, 0, []),
  (48, .iload_n 0, 1, 49, 0, 0, []),
  (49, .bipush 63, 2, 51, 0, 0, []),
  (51, .iand, 1, 52, 0, 0, []),
  (52, .ireturn, 1, 53, 0, 0, [])]
def s_13 : List j_I := [(4, .ldc_w 265, 3, 7, 0, 1431655765, []),
  (11, .ldc_w 266, 3, 14, 0, 858993459, []),
  (18, .ldc_w 266, 3, 21, 0, 858993459, []),
  (29, .ldc_w 267, 3, 32, 0, 252645135, [])]
theorem kl_13 : ∀ q ∈ k_13, j_lk (j_y 13).cls (j_y 13).name (j_b 13) (j_hh 13) q := j_lkall (sp := s_13) (Eq.refl s_13) (List.forall_mem_cons.mpr ⟨⟨⟨rfl, rfl⟩, tw_1_165⟩,
  List.forall_mem_cons.mpr ⟨⟨⟨rfl, rfl⟩, tw_1_166⟩,
  List.forall_mem_cons.mpr ⟨⟨⟨rfl, rfl⟩, tw_1_166⟩,
  List.forall_mem_cons.mpr ⟨⟨⟨rfl, rfl⟩, tw_1_167⟩,
  fun _ h => (nomatch h)⟩⟩⟩⟩)
theorem kq_13 : k_13.all (fun q => decide (decode (j_b 13) q.1 = .ok (q.2.1, q.2.2.1))) = true := by decide +kernel
theorem km_13 : j_Md 13 k_13 := ⟨by decide, fun q h => ⟨of_decide_eq_true (List.all_eq_true.mp kq_13 q h), kl_13 q h⟩⟩
/-- java/lang/Integer.getChars(II[B)I -/
def k_14 : List j_I := [(0, .iload_n 1, 1, 1, 0, 0, []),
  (1, .istore 5, 2, 3, 0, 0, []),
  (3, .iload_n 0, 1, 4, 0, 0, []),
  (4, .ifCond .ge 7, 3, 7, 0, 0, [11]),
  (7, .iconst 1, 1, 8, 0, 0, []),
  (8, .goto 4, 3, 11, 0, 0, [12]),
  (11, .iconst 0, 1, 12, 0, 0, []),
  (12, .istore 6, 2, 14, 0, 0, []),
  (14, .iload 6, 2, 16, 0, 0, []),
  (16, .ifCond .ne 6, 3, 19, 0, 0, [22]),
  (19, .iload_n 0, 1, 20, 0, 0, []),
  (20, .ineg, 1, 21, 0, 0, []),
  (21, .istore_n 0, 1, 22, 0, 0, []),
  (22, .iload_n 0, 1, 23, 0, 0, []),
  (23, .bipush (-100), 2, 25, 0, 0, []),
  (25, .if_icmp .gt 47, 3, 28, 0, 0, [72]),
  (28, .iload_n 0, 1, 29, 0, 0, []),
  (29, .bipush 100, 2, 31, 0, 0, []),
  (31, .idiv, 1, 32, 0, 0, []),
  (32, .istore_n 3, 1, 33, 0, 0, []),
  (33, .iload_n 3, 1, 34, 0, 0, []),
  (34, .bipush 100, 2, 36, 0, 0, []),
  (36, .imul, 1, 37, 0, 0, []),
  (37, .iload_n 0, 1, 38, 0, 0, []),
  (38, .isub, 1, 39, 0, 0, []),
  (39, .istore 4, 2, 41, 0, 0, []),
  (41, .iload_n 3, 1, 42, 0, 0, []),
  (42, .istore_n 0, 1, 43, 0, 0, []),
  (43, .aload_n 2, 1, 44, 0, 0, []),
  (44, .iinc 5 (-1), 3, 47, 0, 0, []),
  (47, .iload 5, 2, 49, 0, 0, []),
  (49, .getstatic 83, 3, 52, 1, 2, []),
  (52, .iload 4, 2, 54, 0, 0, []),
  (54, .baload, 1, 55, 0, 0, []),
  (55, .bastore, 1, 56, 0, 0, []),
  (56, .aload_n 2, 1, 57, 0, 0, []),
  (57, .iinc 5 (-1), 3, 60, 0, 0, []),
  (60, .iload 5, 2, 62, 0, 0, []),
  (62, .getstatic 87, 3, 65, 1, 1, []),
  (65, .iload 4, 2, 67, 0, 0, []),
  (67, .baload, 1, 68, 0, 0, []),
  (68, .bastore, 1, 69, 0, 0, []),
  (69, .goto (-47), 3, 72, 0, 0, [22]),
  (72, .aload_n 2, 1, 73, 0, 0, []),
  (73, .iinc 5 (-1), 3, 76, 0, 0, []),
  (76, .iload 5, 2, 78, 0, 0, []),
  (78, .getstatic 83, 3, 81, 1, 2, []),
  (81, .iload_n 0, 1, 82, 0, 0, []),
  (82, .ineg, 1, 83, 0, 0, []),
  (83, .baload, 1, 84, 0, 0, []),
  (84, .bastore, 1, 85, 0, 0, []),
  (85, .iload_n 0, 1, 86, 0, 0, []),
  (86, .bipush (-9), 2, 88, 0, 0, []),
  (88, .if_icmp .ge 16, 3, 91, 0, 0, [104]),
  (91, .aload_n 2, 1, 92, 0, 0, []),
  (92, .iinc 5 (-1), 3, 95, 0, 0, []),
  (95, .iload 5, 2, 97, 0, 0, []),
  (97, .getstatic 87, 3, 100, 1, 1, []),
  (100, .iload_n 0, 1, 101, 0, 0, []),
  (101, .ineg, 1, 102, 0, 0, []),
  (102, .baload, 1, 103, 0, 0, []),
  (103, .bastore, 1, 104, 0, 0, []),
  (104, .iload 6, 2, 106, 0, 0, []),
  (106, .ifCond .eq 12, 3, 109, 0, 0, [118]),
  (109, .aload_n 2, 1, 110, 0, 0, []),
  (110, .iinc 5 (-1), 3, 113, 0, 0, []),
  (113, .iload 5, 2, 115, 0, 0, []),
  (115, .bipush 45, 2, 117, 0, 0, []),
  (117, .bastore, 1, 118, 0, 0, []),
  (118, .iload 5, 2, 120, 0, 0, []),
  (120, .ireturn, 1, 121, 0, 0, [])]
def s_14 : List j_I := [(49, .getstatic 83, 3, 52, 1, 2, []),
  (62, .getstatic 87, 3, 65, 1, 1, []),
  (78, .getstatic 83, 3, 81, 1, 2, []),
  (97, .getstatic 87, 3, 100, 1, 1, [])]
theorem kl_14 : ∀ q ∈ k_14, j_lk (j_y 14).cls (j_y 14).name (j_b 14) (j_hh 14) q := j_lkall (sp := s_14) (Eq.refl s_14) (List.forall_mem_cons.mpr ⟨⟨⟨rfl, rfl⟩, _, rfl, tw_4_159⟩,
  List.forall_mem_cons.mpr ⟨⟨⟨rfl, rfl⟩, _, rfl, tw_4_161⟩,
  List.forall_mem_cons.mpr ⟨⟨⟨rfl, rfl⟩, _, rfl, tw_4_159⟩,
  List.forall_mem_cons.mpr ⟨⟨⟨rfl, rfl⟩, _, rfl, tw_4_161⟩,
  fun _ h => (nomatch h)⟩⟩⟩⟩)
theorem kq_14 : k_14.all (fun q => decide (decode (j_b 14) q.1 = .ok (q.2.1, q.2.2.1))) = true := by decide +kernel
theorem km_14 : j_Md 14 k_14 := ⟨by decide, fun q h => ⟨of_decide_eq_true (List.all_eq_true.mp kq_14 q h), kl_14 q h⟩⟩
/-- java/lang/Integer.stringSize(I)I -/
def k_15 : List j_I := [(0, .iconst 1, 1, 1, 0, 0, []),
  (1, .istore_n 1, 1, 2, 0, 0, []),
  (2, .iload_n 0, 1, 3, 0, 0, []),
  (3, .ifCond .lt 8, 3, 6, 0, 0, [11]),
  (6, .iconst 0, 1, 7, 0, 0, []),
  (7, .istore_n 1, 1, 8, 0, 0, []),
  (8, .iload_n 0, 1, 9, 0, 0, []),
  (9, .ineg, 1, 10, 0, 0, []),
  (10, .istore_n 0, 1, 11, 0, 0, []),
  (11, .bipush (-10), 2, 13, 0, 0, []),
  (13, .istore_n 2, 1, 14, 0, 0, []),
  (14, .iconst 1, 1, 15, 0, 0, []),
  (15, .istore_n 3, 1, 16, 0, 0, []),
  (16, .iload_n 3, 1, 17, 0, 0, []),
  (17, .bipush 10, 2, 19, 0, 0, []),
  (19, .if_icmp .ge 23, 3, 22, 0, 0, [42]),
  (22, .iload_n 0, 1, 23, 0, 0, []),
  (23, .iload_n 2, 1, 24, 0, 0, []),
  (24, .if_icmp .le 7, 3, 27, 0, 0, [31]),
  (27, .iload_n 3, 1, 28, 0, 0, []),
  (28, .iload_n 1, 1, 29, 0, 0, []),
  (29, .iadd, 1, 30, 0, 0, []),
  (30, .ireturn, 1, 31, 0, 0, []),
  (31, .bipush 10, 2, 33, 0, 0, []),
  (33, .iload_n 2, 1, 34, 0, 0, []),
  (34, .imul, 1, 35, 0, 0, []),
  (35, .istore_n 2, 1, 36, 0, 0, []),
  (36, .iinc 3 1, 3, 39, 0, 0, []),
  (39, .goto (-23), 3, 42, 0, 0, [16]),
  (42, .bipush 10, 2, 44, 0, 0, []),
  (44, .iload_n 1, 1, 45, 0, 0, []),
  (45, .iadd, 1, 46, 0, 0, []),
  (46, .ireturn, 1, 47, 0, 0, [])]
def s_15 : List j_I := []
theorem kl_15 : ∀ q ∈ k_15, j_lk (j_y 15).cls (j_y 15).name (j_b 15) (j_hh 15) q := j_lkall (sp := s_15) (Eq.refl s_15) (fun _ h => (nomatch h))
theorem kq_15 : k_15.all (fun q => decide (decode (j_b 15) q.1 = .ok (q.2.1, q.2.2.1))) = true := by decide +kernel
theorem km_15 : j_Md 15 k_15 := ⟨by decide, fun q h => ⟨of_decide_eq_true (List.all_eq_true.mp kq_15 q h), kl_15 q h⟩⟩
/-- java/lang/String.<init>(Ljava/lang/AbstractStringBuilder;Ljava/lang/Void;)V -/
def k_18 : List j_I := [(0, .aload_n 0, 1, 1, 0, 0, []),
  (1, .invokespecial 1, 3, 4, 0, 0, [1]),
  (4, .aload_n 1, 1, 5, 0, 0, []),
  (5, .invokevirtual 552, 3, 8, 6, 1, [1]),
  (8, .astore_n 3, 1, 9, 0, 0, []),
  (9, .aload_n 1, 1, 10, 0, 0, []),
  (10, .invokevirtual 549, 3, 13, 30, 1, [1]),
  (13, .istore 4, 2, 15, 0, 0, []),
  (15, .aload_n 1, 1, 16, 0, 0, []),
  (16, .invokevirtual 1047, 3, 19, 9, 1, [1]),
  (19, .ifCond .eq 22, 3, 22, 0, 0, [41]),
  (22, .aload_n 0, 1, 23, 0, 0, []),
  (23, .iconst 0, 1, 24, 0, 0, []),
  (24, .putfield 15, 3, 27, 0, 1, []),
  (27, .aload_n 0, 1, 28, 0, 0, []),
  (28, .aload_n 3, 1, 29, 0, 0, []),
  (29, .iconst 0, 1, 30, 0, 0, []),
  (30, .iload 4, 2, 32, 0, 0, []),
  (32, .invokestatic 54, 3, 35, 69, 3, []),
  (35, .putfield 9, 3, 38, 0, 0, []),
  (38, .goto 59, 3, 41, 0, 0, [97]),
  (41, .getstatic 38, 3, 44, 0, 0, []),
  (44, .ifCond .eq 35, 3, 47, 0, 0, [79]),
  (47, .aload_n 1, 1, 48, 0, 0, []),
  (48, .getfield 1048, 3, 51, 1, 2, []),
  (51, .ifCond .eq 28, 3, 54, 0, 0, [79]),
  (54, .aload_n 0, 1, 55, 0, 0, []),
  (55, .aload_n 3, 1, 56, 0, 0, []),
  (56, .iconst 0, 1, 57, 0, 0, []),
  (57, .iload 4, 2, 59, 0, 0, []),
  (59, .invokestatic 1051, 3, 62, 38, 3, []),
  (62, .putfield 9, 3, 65, 0, 0, []),
  (65, .aload_n 0, 1, 66, 0, 0, []),
  (66, .aload_n 0, 1, 67, 0, 0, []),
  (67, .getfield 9, 3, 70, 0, 0, []),
  (70, .iload 4, 2, 72, 0, 0, []),
  (72, .invokestatic 47, 3, 75, 37, 2, []),
  (75, .putfield 15, 3, 78, 0, 1, []),
  (78, .return_, 1, 79, 0, 0, []),
  (79, .aload_n 0, 1, 80, 0, 0, []),
  (80, .iconst 1, 1, 81, 0, 0, []),
  (81, .putfield 15, 3, 84, 0, 1, []),
  (84, .aload_n 0, 1, 85, 0, 0, []),
  (85, .aload_n 3, 1, 86, 0, 0, []),
  (86, .iconst 0, 1, 87, 0, 0, []),
  (87, .iload 4, 2, 89, 0, 0, []),
  (89, .iconst 1, 1, 90, 0, 0, []),
  (90, .ishl, 1, 91, 0, 0, []),
  (91, .invokestatic 54, 3, 94, 69, 3, []),
  (94, .putfield 9, 3, 97, 0, 0, []),
  (97, .return_, 1, 98, 0, 0, [])]
def s_18 : List j_I := [(1, .invokespecial 1, 3, 4, 0, 0, [1]),
  (5, .invokevirtual 552, 3, 8, 6, 1, [1]),
  (10, .invokevirtual 549, 3, 13, 30, 1, [1]),
  (16, .invokevirtual 1047, 3, 19, 9, 1, [1]),
  (24, .putfield 15, 3, 27, 0, 1, []),
  (32, .invokestatic 54, 3, 35, 69, 3, []),
  (35, .putfield 9, 3, 38, 0, 0, []),
  (41, .getstatic 38, 3, 44, 0, 0, []),
  (48, .getfield 1048, 3, 51, 1, 2, []),
  (59, .invokestatic 1051, 3, 62, 38, 3, []),
  (62, .putfield 9, 3, 65, 0, 0, []),
  (67, .getfield 9, 3, 70, 0, 0, []),
  (72, .invokestatic 47, 3, 75, 37, 2, []),
  (75, .putfield 15, 3, 78, 0, 1, []),
  (81, .putfield 15, 3, 84, 0, 1, []),
  (91, .invokestatic 54, 3, 94, 69, 3, []),
  (94, .putfield 9, 3, 97, 0, 0, [])]
theorem kl_18 : ∀ q ∈ k_18, j_lk (j_y 18).cls (j_y 18).name (j_b 18) (j_hh 18) q := j_lkall (sp := s_18) (Eq.refl s_18) (List.forall_mem_cons.mpr ⟨⟨⟨rfl, rfl⟩, tw_5_5, kobj⟩,
  List.forall_mem_cons.mpr ⟨⟨⟨rfl, rfl⟩, Or.inr ⟨rfl, _, ({ cls := "java/lang/AbstractStringBuilder", name := "getValue", desc := "()[B" } : Jvm.MethodName), _, _, _, rfl, rfl, ⟨by decide +kernel, by decide +kernel, by decide +kernel⟩, tw_5_6, tw_5_8, tw_5_7, tw_5_10, Or.inl tw_5_9, tw_5_7, tw_1_29, tw_5_10⟩⟩,
  List.forall_mem_cons.mpr ⟨⟨⟨rfl, rfl⟩, Or.inr ⟨rfl, _, ({ cls := "java/lang/AbstractStringBuilder", name := "length", desc := "()I" } : Jvm.MethodName), _, _, _, rfl, rfl, ⟨by decide +kernel, by decide +kernel, by decide +kernel⟩, tw_5_11, tw_5_13, tw_5_12, tw_5_18, Or.inl tw_5_14, tw_5_15, tw_1_30, tw_5_16⟩⟩,
  List.forall_mem_cons.mpr ⟨⟨⟨rfl, rfl⟩, Or.inr ⟨rfl, _, ({ cls := "java/lang/AbstractStringBuilder", name := "isLatin1", desc := "()Z" } : Jvm.MethodName), _, _, _, rfl, rfl, ⟨by decide +kernel, by decide +kernel, by decide +kernel⟩, tw_5_19, tw_4_153, tw_4_152, tw_4_155, Or.inl tw_4_154, tw_4_152, tw_1_29, tw_4_155⟩⟩,
  List.forall_mem_cons.mpr ⟨⟨⟨rfl, rfl⟩, ⟨_, "java/lang/String", rfl, Nat.le_of_ble_eq_true rfl, Or.inl tw_5_88, Or.inl rfl⟩, fun r hr hz => Option.some.inj hr ▸ ⟨rfl, rfl⟩⟩,
  List.forall_mem_cons.mpr ⟨⟨⟨rfl, rfl⟩, ks_69, tw_5_20, kn_69⟩,
  List.forall_mem_cons.mpr ⟨⟨⟨rfl, rfl⟩, ⟨_, "java/lang/String", rfl, Nat.le_of_ble_eq_true rfl, Or.inl tw_5_87, Or.inl rfl⟩, fun r hr hz => Option.some.inj hr ▸ ⟨rfl, rfl⟩⟩,
  List.forall_mem_cons.mpr ⟨⟨⟨rfl, rfl⟩, fun z hz => Option.some.inj hz ▸ tw_5_56⟩,
  List.forall_mem_cons.mpr ⟨⟨⟨rfl, rfl⟩, ⟨_, "java/lang/AbstractStringBuilder", rfl, Nat.le_of_ble_eq_true rfl, Or.inl tw_4_110, Or.inl rfl⟩⟩,
  List.forall_mem_cons.mpr ⟨⟨⟨rfl, rfl⟩, ks_38, tw_5_74, kn_38⟩,
  List.forall_mem_cons.mpr ⟨⟨⟨rfl, rfl⟩, ⟨_, "java/lang/String", rfl, Nat.le_of_ble_eq_true rfl, Or.inl tw_5_87, Or.inl rfl⟩, fun r hr hz => Option.some.inj hr ▸ ⟨rfl, rfl⟩⟩,
  List.forall_mem_cons.mpr ⟨⟨⟨rfl, rfl⟩, ⟨_, "java/lang/String", rfl, Nat.le_of_ble_eq_true rfl, Or.inl tw_5_87, Or.inl rfl⟩⟩,
  List.forall_mem_cons.mpr ⟨⟨⟨rfl, rfl⟩, ks_37, tw_5_84, kn_37⟩,
  List.forall_mem_cons.mpr ⟨⟨⟨rfl, rfl⟩, ⟨_, "java/lang/String", rfl, Nat.le_of_ble_eq_true rfl, Or.inl tw_5_88, Or.inl rfl⟩, fun r hr hz => Option.some.inj hr ▸ ⟨rfl, rfl⟩⟩,
  List.forall_mem_cons.mpr ⟨⟨⟨rfl, rfl⟩, ⟨_, "java/lang/String", rfl, Nat.le_of_ble_eq_true rfl, Or.inl tw_5_88, Or.inl rfl⟩, fun r hr hz => Option.some.inj hr ▸ ⟨rfl, rfl⟩⟩,
  List.forall_mem_cons.mpr ⟨⟨⟨rfl, rfl⟩, ks_69, tw_5_20, kn_69⟩,
  List.forall_mem_cons.mpr ⟨⟨⟨rfl, rfl⟩, ⟨_, "java/lang/String", rfl, Nat.le_of_ble_eq_true rfl, Or.inl tw_5_87, Or.inl rfl⟩, fun r hr hz => Option.some.inj hr ▸ ⟨rfl, rfl⟩⟩,
  fun _ h => (nomatch h)⟩⟩⟩⟩⟩⟩⟩⟩⟩⟩⟩⟩⟩⟩⟩⟩⟩)
theorem kq_18 : k_18.all (fun q => decide (decode (j_b 18) q.1 = .ok (q.2.1, q.2.2.1))) = true := by decide +kernel
theorem km_18 : j_Md 18 k_18 := ⟨by decide, fun q h => ⟨of_decide_eq_true (List.all_eq_true.mp kq_18 q h), kl_18 q h⟩⟩
/-- java/lang/String.<init>(Ljava/lang/StringBuilder;)V -/
def k_19 : List j_I := [(0, .aload_n 0, 1, 1, 0, 0, []),
  (1, .aload_n 1, 1, 2, 0, 0, []),
  (2, .aconst_null, 1, 3, 0, 0, []),
  (3, .invokespecial 489, 3, 6, 18, 3, []),
  (6, .return_, 1, 7, 0, 0, [])]
def s_19 : List j_I := [(3, .invokespecial 489, 3, 6, 18, 3, [])]
theorem kl_19 : ∀ q ∈ k_19, j_lk (j_y 19).cls (j_y 19).name (j_b 19) (j_hh 19) q := j_lkall (sp := s_19) (Eq.refl s_19) (List.forall_mem_cons.mpr ⟨⟨⟨rfl, rfl⟩, ki_18, Or.inl tw_5_2, kn_18⟩,
  fun _ h => (nomatch h)⟩)
theorem kq_19 : k_19.all (fun q => decide (decode (j_b 19) q.1 = .ok (q.2.1, q.2.2.1))) = true := by decide +kernel
theorem km_19 : j_Md 19 k_19 := ⟨by decide, fun q h => ⟨of_decide_eq_true (List.all_eq_true.mp kq_19 q h), kl_19 q h⟩⟩
/-- java/lang/StringBuilder.<init>()V -/
def k_26 : List j_I := [(0, .aload_n 0, 1, 1, 0, 0, []),
  (1, .bipush 16, 2, 3, 0, 0, []),
  (3, .invokespecial 1, 3, 6, 0, 2, []),
  (6, .return_, 1, 7, 0, 0, [])]
def s_26 : List j_I := [(3, .invokespecial 1, 3, 6, 0, 2, [])]
theorem kl_26 : ∀ q ∈ k_26, j_lk (j_y 26).cls (j_y 26).name (j_b 26) (j_hh 26) q := j_lkall (sp := s_26) (Eq.refl s_26) (List.forall_mem_cons.mpr ⟨⟨⟨rfl, rfl⟩, ki_0, Or.inl tw_4_95, kn_0⟩,
  fun _ h => (nomatch h)⟩)
theorem kq_26 : k_26.all (fun q => decide (decode (j_b 26) q.1 = .ok (q.2.1, q.2.2.1))) = true := by decide +kernel
theorem km_26 : j_Md 26 k_26 := ⟨by decide, fun q h => ⟨of_decide_eq_true (List.all_eq_true.mp kq_26 q h), kl_26 q h⟩⟩
/-- java/lang/StringBuilder.append(C)Ljava/lang/StringBuilder; -/
def k_27 : List j_I := [(0, .aload_n 0, 1, 1, 0, 0, []),
  (1, .iload_n 1, 1, 2, 0, 0, []),
  (2, .invokespecial 50, 3, 5, 1, 2, [1, 0]),
  (5, .pop, 1, 6, 0, 0, []),
  (6, .aload_n 0, 1, 7, 0, 0, []),
  (7, .areturn, 1, 8, 0, 0, [])]
def s_27 : List j_I := [(2, .invokespecial 50, 3, 5, 1, 2, [1, 0])]
theorem kl_27 : ∀ q ∈ k_27, j_lk (j_y 27).cls (j_y 27).name (j_b 27) (j_hh 27) q := j_lkall (sp := s_27) (Eq.refl s_27) (List.forall_mem_cons.mpr ⟨⟨⟨rfl, rfl⟩, _, rfl, rfl, by decide, ⟨by decide +kernel, by decide +kernel, by decide +kernel⟩, tw_4_198, tw_7_59, tw_4_120, tw_4_199, tw_1_29, tw_4_200⟩,
  fun _ h => (nomatch h)⟩)
theorem kq_27 : k_27.all (fun q => decide (decode (j_b 27) q.1 = .ok (q.2.1, q.2.2.1))) = true := by decide +kernel
theorem km_27 : j_Md 27 k_27 := ⟨by decide, fun q h => ⟨of_decide_eq_true (List.all_eq_true.mp kq_27 q h), kl_27 q h⟩⟩
/-- java/lang/StringBuilder.append(I)Ljava/lang/StringBuilder; -/
def k_28 : List j_I := [(0, .aload_n 0, 1, 1, 0, 0, []),
  (1, .iload_n 1, 1, 2, 0, 0, []),
  (2, .invokespecial 53, 3, 5, 2, 2, [1, 0]),
  (5, .pop, 1, 6, 0, 0, []),
  (6, .aload_n 0, 1, 7, 0, 0, []),
  (7, .areturn, 1, 8, 0, 0, [])]
def s_28 : List j_I := [(2, .invokespecial 53, 3, 5, 2, 2, [1, 0])]
theorem kl_28 : ∀ q ∈ k_28, j_lk (j_y 28).cls (j_y 28).name (j_b 28) (j_hh 28) q := j_lkall (sp := s_28) (Eq.refl s_28) (List.forall_mem_cons.mpr ⟨⟨⟨rfl, rfl⟩, _, rfl, rfl, by decide, ⟨by decide +kernel, by decide +kernel, by decide +kernel⟩, tw_4_125, tw_7_56, tw_4_120, tw_4_126, tw_1_29, tw_4_127⟩,
  fun _ h => (nomatch h)⟩)
theorem kq_28 : k_28.all (fun q => decide (decode (j_b 28) q.1 = .ok (q.2.1, q.2.2.1))) = true := by decide +kernel
theorem km_28 : j_Md 28 k_28 := ⟨by decide, fun q h => ⟨of_decide_eq_true (List.all_eq_true.mp kq_28 q h), kl_28 q h⟩⟩
/-- java/lang/StringBuilder.length()I -/
def k_30 : List j_I := [(0, .aload_n 0, 1, 1, 0, 0, []),
  (1, .invokespecial 343, 3, 4, 10, 1, [1, 0]),
  (4, .ireturn, 1, 5, 0, 0, [])]
def s_30 : List j_I := [(1, .invokespecial 343, 3, 4, 10, 1, [1, 0])]
theorem kl_30 : ∀ q ∈ k_30, j_lk (j_y 30).cls (j_y 30).name (j_b 30) (j_hh 30) q := j_lkall (sp := s_30) (Eq.refl s_30) (List.forall_mem_cons.mpr ⟨⟨⟨rfl, rfl⟩, _, rfl, rfl, by decide, ⟨by decide +kernel, by decide +kernel, by decide +kernel⟩, tw_5_17, tw_5_13, tw_4_120, tw_5_12, tw_1_29, tw_5_18⟩,
  fun _ h => (nomatch h)⟩)
theorem kq_30 : k_30.all (fun q => decide (decode (j_b 30) q.1 = .ok (q.2.1, q.2.2.1))) = true := by decide +kernel
theorem km_30 : j_Md 30 k_30 := ⟨by decide, fun q h => ⟨of_decide_eq_true (List.all_eq_true.mp kq_30 q h), kl_30 q h⟩⟩
/-- java/lang/StringBuilder.toString()Ljava/lang/String; -/
def k_31 : List j_I := [(0, .new 18, 3, 3, 0, 4, []),
  (3, .dup, 1, 4, 0, 0, []),
  (4, .aload_n 0, 1, 5, 0, 0, []),
  (5, .invokespecial 137, 3, 8, 19, 2, []),
  (8, .areturn, 1, 9, 0, 0, [])]
def s_31 : List j_I := [(0, .new 18, 3, 3, 0, 4, []),
  (5, .invokespecial 137, 3, 8, 19, 2, [])]
theorem kl_31 : ∀ q ∈ k_31, j_lk (j_y 31).cls (j_y 31).name (j_b 31) (j_hh 31) q := j_lkall (sp := s_31) (Eq.refl s_31) (List.forall_mem_cons.mpr ⟨⟨⟨rfl, rfl⟩, _, rfl, rfl, tw_4_237, tw_4_238, tw_1_31⟩,
  List.forall_mem_cons.mpr ⟨⟨⟨rfl, rfl⟩, ki_19, Or.inl tw_4_239, kn_19⟩,
  fun _ h => (nomatch h)⟩⟩)
theorem kq_31 : k_31.all (fun q => decide (decode (j_b 31) q.1 = .ok (q.2.1, q.2.2.1))) = true := by decide +kernel
theorem km_31 : j_Md 31 k_31 := ⟨by decide, fun q h => ⟨of_decide_eq_true (List.all_eq_true.mp kq_31 q h), kl_31 q h⟩⟩
/-- java/lang/StringLatin1.canEncode(C)Z -/
def k_32 : List j_I := [(0, .iload_n 0, 1, 1, 0, 0, []),
  (1, .sipush 255, 3, 4, 0, 0, []),
  (4, .if_icmp .gt 7, 3, 7, 0, 0, [11]),
  (7, .iconst 1, 1, 8, 0, 0, []),
  (8, .goto 4, 3, 11, 0, 0, [12]),
  (11, .iconst 0, 1, 12, 0, 0, []),
  (12, .ireturn, 1, 13, 0, 0, [])]
def s_32 : List j_I := []
theorem kl_32 : ∀ q ∈ k_32, j_lk (j_y 32).cls (j_y 32).name (j_b 32) (j_hh 32) q := j_lkall (sp := s_32) (Eq.refl s_32) (fun _ h => (nomatch h))
theorem kq_32 : k_32.all (fun q => decide (decode (j_b 32) q.1 = .ok (q.2.1, q.2.2.1))) = true := by decide +kernel
theorem km_32 : j_Md 32 k_32 := ⟨by decide, fun q h => ⟨of_decide_eq_true (List.all_eq_true.mp kq_32 q h), kl_32 q h⟩⟩
/-- java/util/AbstractCollection.<init>()V -/
def k_50 : List j_I := [(0, .aload_n 0, 1, 1, 0, 0, []),
  (1, .invokespecial 1, 3, 4, 0, 0, [1]),
  (4, .return_, 1, 5, 0, 0, [])]
def s_50 : List j_I := [(1, .invokespecial 1, 3, 4, 0, 0, [1])]
theorem kl_50 : ∀ q ∈ k_50, j_lk (j_y 50).cls (j_y 50).name (j_b 50) (j_hh 50) q := j_lkall (sp := s_50) (Eq.refl s_50) (List.forall_mem_cons.mpr ⟨⟨⟨rfl, rfl⟩, tw_1_53, kobj⟩,
  fun _ h => (nomatch h)⟩)
theorem kq_50 : k_50.all (fun q => decide (decode (j_b 50) q.1 = .ok (q.2.1, q.2.2.1))) = true := by decide +kernel
theorem km_50 : j_Md 50 k_50 := ⟨by decide, fun q h => ⟨of_decide_eq_true (List.all_eq_true.mp kq_50 q h), kl_50 q h⟩⟩
/-- java/util/AbstractList.<init>()V -/
def k_51 : List j_I := [(0, .aload_n 0, 1, 1, 0, 0, []),
  (1, .invokespecial 1, 3, 4, 50, 1, []),
  (4, .aload_n 0, 1, 5, 0, 0, []),
  (5, .iconst 0, 1, 6, 0, 0, []),
  (6, .putfield 7, 3, 9, 3, 0, []),
  (9, .return_, 1, 10, 0, 0, [])]
def s_51 : List j_I := [(1, .invokespecial 1, 3, 4, 50, 1, []),
  (6, .putfield 7, 3, 9, 3, 0, [])]
theorem kl_51 : ∀ q ∈ k_51, j_lk (j_y 51).cls (j_y 51).name (j_b 51) (j_hh 51) q := j_lkall (sp := s_51) (Eq.refl s_51) (List.forall_mem_cons.mpr ⟨⟨⟨rfl, rfl⟩, ki_50, Or.inl tw_1_50, kn_50⟩,
  List.forall_mem_cons.mpr ⟨⟨⟨rfl, rfl⟩, ⟨_, "java/util/AbstractList", rfl, Nat.le_of_ble_eq_true rfl, Or.inl tw_1_60, Or.inl rfl⟩, fun r hr hz => absurd hz (Option.some.inj hr ▸ Bool.false_ne_true)⟩,
  fun _ h => (nomatch h)⟩⟩)
theorem kq_51 : k_51.all (fun q => decide (decode (j_b 51) q.1 = .ok (q.2.1, q.2.2.1))) = true := by decide +kernel
theorem km_51 : j_Md 51 k_51 := ⟨by decide, fun q h => ⟨of_decide_eq_true (List.all_eq_true.mp kq_51 q h), kl_51 q h⟩⟩
/-- java/util/ArrayList.<init>()V -/
def k_52 : List j_I := [(0, .aload_n 0, 1, 1, 0, 0, []),
  (1, .invokespecial 1, 3, 4, 51, 1, []),
  (4, .aload_n 0, 1, 5, 0, 0, []),
  (5, .getstatic 39, 3, 8, 1, 0, []),
  (8, .putfield 9, 3, 11, 3, 1, []),
  (11, .return_, 1, 12, 0, 0, [])]
def s_52 : List j_I := [(1, .invokespecial 1, 3, 4, 51, 1, []),
  (5, .getstatic 39, 3, 8, 1, 0, []),
  (8, .putfield 9, 3, 11, 3, 1, [])]
theorem kl_52 : ∀ q ∈ k_52, j_lk (j_y 52).cls (j_y 52).name (j_b 52) (j_hh 52) q := j_lkall (sp := s_52) (Eq.refl s_52) (List.forall_mem_cons.mpr ⟨⟨⟨rfl, rfl⟩, ki_51, Or.inl tw_1_47, kn_51⟩,
  List.forall_mem_cons.mpr ⟨⟨⟨rfl, rfl⟩, _, rfl, tw_1_54⟩,
  List.forall_mem_cons.mpr ⟨⟨⟨rfl, rfl⟩, ⟨_, "java/util/ArrayList", rfl, Nat.le_of_ble_eq_true rfl, Or.inl tw_1_56, Or.inl rfl⟩, fun r hr hz => absurd hz (Option.some.inj hr ▸ Bool.false_ne_true)⟩,
  fun _ h => (nomatch h)⟩⟩⟩)
theorem kq_52 : k_52.all (fun q => decide (decode (j_b 52) q.1 = .ok (q.2.1, q.2.2.1))) = true := by decide +kernel
theorem km_52 : j_Md 52 k_52 := ⟨by decide, fun q h => ⟨of_decide_eq_true (List.all_eq_true.mp kq_52 q h), kl_52 q h⟩⟩
/-- java/util/ArrayList.add(Ljava/lang/Object;)Z -/
def k_53 : List j_I := [(0, .aload_n 0, 1, 1, 0, 0, []),
  (1, .dup, 1, 2, 0, 0, []),
  (2, .getfield 63, 3, 5, 3, 0, []),
  (5, .iconst 1, 1, 6, 0, 0, []),
  (6, .iadd, 1, 7, 0, 0, []),
  (7, .putfield 63, 3, 10, 3, 0, []),
  (10, .aload_n 0, 1, 11, 0, 0, []),
  (11, .aload_n 1, 1, 12, 0, 0, []),
  (12, .aload_n 0, 1, 13, 0, 0, []),
  (13, .getfield 9, 3, 16, 3, 1, []),
  (16, .aload_n 0, 1, 17, 0, 0, []),
  (17, .getfield 48, 3, 20, 3, 2, []),
  (20, .invokevirtual 131, 3, 23, 54, 4, [3]),
  (23, .iconst 1, 1, 24, 0, 0, []),
  (24, .ireturn, 1, 25, 0, 0, [])]
def s_53 : List j_I := [(2, .getfield 63, 3, 5, 3, 0, []),
  (7, .putfield 63, 3, 10, 3, 0, []),
  (13, .getfield 9, 3, 16, 3, 1, []),
  (17, .getfield 48, 3, 20, 3, 2, []),
  (20, .invokevirtual 131, 3, 23, 54, 4, [3])]
theorem kl_53 : ∀ q ∈ k_53, j_lk (j_y 53).cls (j_y 53).name (j_b 53) (j_hh 53) q := j_lkall (sp := s_53) (Eq.refl s_53) (List.forall_mem_cons.mpr ⟨⟨⟨rfl, rfl⟩, ⟨_, "java/util/ArrayList", rfl, Nat.le_of_ble_eq_true rfl, Or.inl tw_1_63, Or.inr tw_1_62⟩⟩,
  List.forall_mem_cons.mpr ⟨⟨⟨rfl, rfl⟩, ⟨_, "java/util/ArrayList", rfl, Nat.le_of_ble_eq_true rfl, Or.inl tw_1_63, Or.inr tw_1_62⟩, fun r hr hz => absurd hz (Option.some.inj hr ▸ Bool.false_ne_true)⟩,
  List.forall_mem_cons.mpr ⟨⟨⟨rfl, rfl⟩, ⟨_, "java/util/ArrayList", rfl, Nat.le_of_ble_eq_true rfl, Or.inl tw_1_56, Or.inl rfl⟩⟩,
  List.forall_mem_cons.mpr ⟨⟨⟨rfl, rfl⟩, ⟨_, "java/util/ArrayList", rfl, Nat.le_of_ble_eq_true rfl, Or.inl tw_1_59, Or.inl rfl⟩⟩,
  List.forall_mem_cons.mpr ⟨⟨⟨rfl, rfl⟩, Or.inl ⟨kv_54, tw_3_13, kn_54, j_hl_nil⟩⟩,
  fun _ h => (nomatch h)⟩⟩⟩⟩⟩)
theorem kq_53 : k_53.all (fun q => decide (decode (j_b 53) q.1 = .ok (q.2.1, q.2.2.1))) = true := by decide +kernel
theorem km_53 : j_Md 53 k_53 := ⟨by decide, fun q h => ⟨of_decide_eq_true (List.all_eq_true.mp kq_53 q h), kl_53 q h⟩⟩
/-- java/util/ArrayList.add(Ljava/lang/Object;[Ljava/lang/Object;I)V -/
def k_54 : List j_I := [(0, .iload_n 3, 1, 1, 0, 0, []),
  (1, .aload_n 2, 1, 2, 0, 0, []),
  (2, .arraylength, 1, 3, 0, 0, []),
  (3, .if_icmp .ne 8, 3, 6, 0, 0, [11]),
  (6, .aload_n 0, 1, 7, 0, 0, []),
  (7, .invokevirtual 129, 3, 10, 57, 1, [3]),
  (10, .astore_n 2, 1, 11, 0, 0, []),
  (11, .aload_n 2, 1, 12, 0, 0, []),
  (12, .iload_n 3, 1, 13, 0, 0, []),
  (13, .aload_n 1, 1, 14, 0, 0, []),
  (14, .aastore, 1, 15, 0, 0, []),
  (15, .aload_n 0, 1, 16, 0, 0, []),
  (16, .iload_n 3, 1, 17, 0, 0, []),
  (17, .iconst 1, 1, 18, 0, 0, []),
  (18, .iadd, 1, 19, 0, 0, []),
  (19, .putfield 48, 3, 22, 3, 2, []),
  (22, .return_, 1, 23, 0, 0, [])]
def s_54 : List j_I := [(7, .invokevirtual 129, 3, 10, 57, 1, [3]),
  (19, .putfield 48, 3, 22, 3, 2, [])]
theorem kl_54 : ∀ q ∈ k_54, j_lk (j_y 54).cls (j_y 54).name (j_b 54) (j_hh 54) q := j_lkall (sp := s_54) (Eq.refl s_54) (List.forall_mem_cons.mpr ⟨⟨⟨rfl, rfl⟩, Or.inl ⟨kv_57, tw_3_17, kn_57, j_hl_nil⟩⟩,
  List.forall_mem_cons.mpr ⟨⟨⟨rfl, rfl⟩, ⟨_, "java/util/ArrayList", rfl, Nat.le_of_ble_eq_true rfl, Or.inl tw_1_59, Or.inl rfl⟩, fun r hr hz => absurd hz (Option.some.inj hr ▸ Bool.false_ne_true)⟩,
  fun _ h => (nomatch h)⟩⟩)
theorem kq_54 : k_54.all (fun q => decide (decode (j_b 54) q.1 = .ok (q.2.1, q.2.2.1))) = true := by decide +kernel
theorem km_54 : j_Md 54 k_54 := ⟨by decide, fun q h => ⟨of_decide_eq_true (List.all_eq_true.mp kq_54 q h), kl_54 q h⟩⟩
/-- java/util/ArrayList.elementData(I)Ljava/lang/Object; -/
def k_55 : List j_I := [(0, .aload_n 0, 1, 1, 0, 0, []),
  (1, .getfield 9, 3, 4, 3, 1, []),
  (4, .iload_n 1, 1, 5, 0, 0, []),
  (5, .aaload, 1, 6, 0, 0, []),
  (6, .areturn, 1, 7, 0, 0, [])]
def s_55 : List j_I := [(1, .getfield 9, 3, 4, 3, 1, [])]
theorem kl_55 : ∀ q ∈ k_55, j_lk (j_y 55).cls (j_y 55).name (j_b 55) (j_hh 55) q := j_lkall (sp := s_55) (Eq.refl s_55) (List.forall_mem_cons.mpr ⟨⟨⟨rfl, rfl⟩, ⟨_, "java/util/ArrayList", rfl, Nat.le_of_ble_eq_true rfl, Or.inl tw_1_56, Or.inl rfl⟩⟩,
  fun _ h => (nomatch h)⟩)
theorem kq_55 : k_55.all (fun q => decide (decode (j_b 55) q.1 = .ok (q.2.1, q.2.2.1))) = true := by decide +kernel
theorem km_55 : j_Md 55 k_55 := ⟨by decide, fun q h => ⟨of_decide_eq_true (List.all_eq_true.mp kq_55 q h), kl_55 q h⟩⟩
/-- java/util/ArrayList.get(I)Ljava/lang/Object; -/
def k_56 : List j_I := [(0, .iload_n 1, 1, 1, 0, 0, []),
  (1, .aload_n 0, 1, 2, 0, 0, []),
  (2, .getfield 48, 3, 5, 3, 2, []),
  (5, .invokestatic 118, 3, 8, 71, 2, []),
  (8, .pop, 1, 9, 0, 0, []),
  (9, .aload_n 0, 1, 10, 0, 0, []),
  (10, .iload_n 1, 1, 11, 0, 0, []),
  (11, .invokevirtual 123, 3, 14, 55, 2, [3]),
  (14, .areturn, 1, 15, 0, 0, [])]
def s_56 : List j_I := [(2, .getfield 48, 3, 5, 3, 2, []),
  (5, .invokestatic 118, 3, 8, 71, 2, []),
  (11, .invokevirtual 123, 3, 14, 55, 2, [3])]
theorem kl_56 : ∀ q ∈ k_56, j_lk (j_y 56).cls (j_y 56).name (j_b 56) (j_hh 56) q := j_lkall (sp := s_56) (Eq.refl s_56) (List.forall_mem_cons.mpr ⟨⟨⟨rfl, rfl⟩, ⟨_, "java/util/ArrayList", rfl, Nat.le_of_ble_eq_true rfl, Or.inl tw_1_59, Or.inl rfl⟩⟩,
  List.forall_mem_cons.mpr ⟨⟨⟨rfl, rfl⟩, ks_71, tw_1_113, kn_71⟩,
  List.forall_mem_cons.mpr ⟨⟨⟨rfl, rfl⟩, Or.inl ⟨kv_55, tw_1_119, kn_55, j_hl_nil⟩⟩,
  fun _ h => (nomatch h)⟩⟩⟩)
theorem kq_56 : k_56.all (fun q => decide (decode (j_b 56) q.1 = .ok (q.2.1, q.2.2.1))) = true := by decide +kernel
theorem km_56 : j_Md 56 k_56 := ⟨by decide, fun q h => ⟨of_decide_eq_true (List.all_eq_true.mp kq_56 q h), kl_56 q h⟩⟩
/-- java/util/ArrayList.grow()[Ljava/lang/Object; -/
def k_57 : List j_I := [(0, .aload_n 0, 1, 1, 0, 0, []),
  (1, .aload_n 0, 1, 2, 0, 0, []),
  (2, .getfield 48, 3, 5, 3, 2, []),
  (5, .iconst 1, 1, 6, 0, 0, []),
  (6, .iadd, 1, 7, 0, 0, []),
  (7, .invokevirtual 69, 3, 10, 58, 2, [3]),
  (10, .areturn, 1, 11, 0, 0, [])]
def s_57 : List j_I := [(2, .getfield 48, 3, 5, 3, 2, []),
  (7, .invokevirtual 69, 3, 10, 58, 2, [3])]
theorem kl_57 : ∀ q ∈ k_57, j_lk (j_y 57).cls (j_y 57).name (j_b 57) (j_hh 57) q := j_lkall (sp := s_57) (Eq.refl s_57) (List.forall_mem_cons.mpr ⟨⟨⟨rfl, rfl⟩, ⟨_, "java/util/ArrayList", rfl, Nat.le_of_ble_eq_true rfl, Or.inl tw_1_59, Or.inl rfl⟩⟩,
  List.forall_mem_cons.mpr ⟨⟨⟨rfl, rfl⟩, Or.inl ⟨kv_58, tw_3_21, kn_58, j_hl_nil⟩⟩,
  fun _ h => (nomatch h)⟩⟩)
theorem kq_57 : k_57.all (fun q => decide (decode (j_b 57) q.1 = .ok (q.2.1, q.2.2.1))) = true := by decide +kernel
theorem km_57 : j_Md 57 k_57 := ⟨by decide, fun q h => ⟨of_decide_eq_true (List.all_eq_true.mp kq_57 q h), kl_57 q h⟩⟩
/-- java/util/ArrayList.grow(I)[Ljava/lang/Object; -/
def k_58 : List j_I := [(0, .aload_n 0, 1, 1, 0, 0, []),
  (1, .getfield 9, 3, 4, 3, 1, []),
  (4, .arraylength, 1, 5, 0, 0, []),
  (5, .istore_n 2, 1, 6, 0, 0, []),
  (6, .iload_n 2, 1, 7, 0, 0, []),
  (7, .ifCond .gt 13, 3, 10, 0, 0, [20]),
  (10, .aload_n 0, 1, 11, 0, 0, []),
  (11, .getfield 9, 3, 14, 3, 1, []),
  (14, .getstatic 39, 3, 17, 1, 0, []),
  (17, .if_acmp .eq 28, 3, 20, 0, 0, [45]),
  (20, .iload_n 2, 1, 21, 0, 0, []),
  (21, .iload_n 1, 1, 22, 0, 0, []),
  (22, .iload_n 2, 1, 23, 0, 0, []),
  (23, .isub, 1, 24, 0, 0, []),
  (24, .iload_n 2, 1, 25, 0, 0, []),
  (25, .iconst 1, 1, 26, 0, 0, []),
  (26, .ishr, 1, 27, 0, 0, []),
  (27, .invokestatic 73, 3, 30, 73, 3, []),
  (30, .istore_n 3, 1, 31, 0, 0, []),
  (31, .aload_n 0, 1, 32, 0, 0, []),
  (32, .aload_n 0, 1, 33, 0, 0, []),
  (33, .getfield 9, 3, 36, 3, 1, []),
  (36, .iload_n 3, 1, 37, 0, 0, []),
  (37, .invokestatic 66, 3, 40, 67, 2, []),
  (40, .dup_x1, 1, 41, 0, 0, []),
  (41, .putfield 9, 3, 44, 3, 1, []),
  (44, .areturn, 1, 45, 0, 0, []),
  (45, .aload_n 0, 1, 46, 0, 0, []),
  (46, .bipush 10, 2, 48, 0, 0, []),
  (48, .iload_n 1, 1, 49, 0, 0, []),
  (49, .invokestatic 79, 3, 52, 0, 0, [0]),
  (52, .anewarray 7, 3, 55, 0, 0, []),
  (55, .dup_x1, 1, 56, 0, 0, []),
  (56, .putfield 9, 3, 59, 3, 1, []),
  (59, .areturn, 1, 60, 0, 0, [])]
def s_58 : List j_I := [(1, .getfield 9, 3, 4, 3, 1, []),
  (11, .getfield 9, 3, 14, 3, 1, []),
  (14, .getstatic 39, 3, 17, 1, 0, []),
  (27, .invokestatic 73, 3, 30, 73, 3, []),
  (33, .getfield 9, 3, 36, 3, 1, []),
  (37, .invokestatic 66, 3, 40, 67, 2, []),
  (41, .putfield 9, 3, 44, 3, 1, []),
  (49, .invokestatic 79, 3, 52, 0, 0, [0]),
  (52, .anewarray 7, 3, 55, 0, 0, []),
  (56, .putfield 9, 3, 59, 3, 1, [])]
theorem kl_58 : ∀ q ∈ k_58, j_lk (j_y 58).cls (j_y 58).name (j_b 58) (j_hh 58) q := j_lkall (sp := s_58) (Eq.refl s_58) (List.forall_mem_cons.mpr ⟨⟨⟨rfl, rfl⟩, ⟨_, "java/util/ArrayList", rfl, Nat.le_of_ble_eq_true rfl, Or.inl tw_1_56, Or.inl rfl⟩⟩,
  List.forall_mem_cons.mpr ⟨⟨⟨rfl, rfl⟩, ⟨_, "java/util/ArrayList", rfl, Nat.le_of_ble_eq_true rfl, Or.inl tw_1_56, Or.inl rfl⟩⟩,
  List.forall_mem_cons.mpr ⟨⟨⟨rfl, rfl⟩, _, rfl, tw_1_54⟩,
  List.forall_mem_cons.mpr ⟨⟨⟨rfl, rfl⟩, ks_73, tw_3_25, kn_73⟩,
  List.forall_mem_cons.mpr ⟨⟨⟨rfl, rfl⟩, ⟨_, "java/util/ArrayList", rfl, Nat.le_of_ble_eq_true rfl, Or.inl tw_1_56, Or.inl rfl⟩⟩,
  List.forall_mem_cons.mpr ⟨⟨⟨rfl, rfl⟩, ks_67, tw_3_33, kn_67⟩,
  List.forall_mem_cons.mpr ⟨⟨⟨rfl, rfl⟩, ⟨_, "java/util/ArrayList", rfl, Nat.le_of_ble_eq_true rfl, Or.inl tw_1_56, Or.inl rfl⟩, fun r hr hz => absurd hz (Option.some.inj hr ▸ Bool.false_ne_true)⟩,
  List.forall_mem_cons.mpr ⟨⟨⟨rfl, rfl⟩, tw_3_66, tw_1_138, tw_1_15, tw_1_139⟩,
  List.forall_mem_cons.mpr ⟨⟨⟨rfl, rfl⟩, tw_3_67⟩,
  List.forall_mem_cons.mpr ⟨⟨⟨rfl, rfl⟩, ⟨_, "java/util/ArrayList", rfl, Nat.le_of_ble_eq_true rfl, Or.inl tw_1_56, Or.inl rfl⟩, fun r hr hz => absurd hz (Option.some.inj hr ▸ Bool.false_ne_true)⟩,
  fun _ h => (nomatch h)⟩⟩⟩⟩⟩⟩⟩⟩⟩⟩)
theorem kq_58 : k_58.all (fun q => decide (decode (j_b 58) q.1 = .ok (q.2.1, q.2.2.1))) = true := by decide +kernel
theorem km_58 : j_Md 58 k_58 := ⟨by decide, fun q h => ⟨of_decide_eq_true (List.all_eq_true.mp kq_58 q h), kl_58 q h⟩⟩
/-- java/util/ArrayList.iterator()Ljava/util/Iterator; -/
def k_59 : List j_I := [(0, .new 267, 3, 3, 2, 4, []),
  (3, .dup, 1, 4, 0, 0, []),
  (4, .aload_n 0, 1, 5, 0, 0, []),
  (5, .invokespecial 269, 3, 8, 61, 2, []),
  (8, .areturn, 1, 9, 0, 0, [])]
def s_59 : List j_I := [(0, .new 267, 3, 3, 2, 4, []),
  (5, .invokespecial 269, 3, 8, 61, 2, [])]
theorem kl_59 : ∀ q ∈ k_59, j_lk (j_y 59).cls (j_y 59).name (j_b 59) (j_hh 59) q := j_lkall (sp := s_59) (Eq.refl s_59) (List.forall_mem_cons.mpr ⟨⟨⟨rfl, rfl⟩, _, rfl, rfl, tw_5_224, tw_5_225, tw_1_22⟩,
  List.forall_mem_cons.mpr ⟨⟨⟨rfl, rfl⟩, ki_61, Or.inl tw_5_226, kn_61⟩,
  fun _ h => (nomatch h)⟩⟩)
theorem kq_59 : k_59.all (fun q => decide (decode (j_b 59) q.1 = .ok (q.2.1, q.2.2.1))) = true := by decide +kernel
theorem km_59 : j_Md 59 k_59 := ⟨by decide, fun q h => ⟨of_decide_eq_true (List.all_eq_true.mp kq_59 q h), kl_59 q h⟩⟩
/-- java/util/ArrayList.size()I -/
def k_60 : List j_I := [(0, .aload_n 0, 1, 1, 0, 0, []),
  (1, .getfield 48, 3, 4, 3, 2, []),
  (4, .ireturn, 1, 5, 0, 0, [])]
def s_60 : List j_I := [(1, .getfield 48, 3, 4, 3, 2, [])]
theorem kl_60 : ∀ q ∈ k_60, j_lk (j_y 60).cls (j_y 60).name (j_b 60) (j_hh 60) q := j_lkall (sp := s_60) (Eq.refl s_60) (List.forall_mem_cons.mpr ⟨⟨⟨rfl, rfl⟩, ⟨_, "java/util/ArrayList", rfl, Nat.le_of_ble_eq_true rfl, Or.inl tw_1_59, Or.inl rfl⟩⟩,
  fun _ h => (nomatch h)⟩)
theorem kq_60 : k_60.all (fun q => decide (decode (j_b 60) q.1 = .ok (q.2.1, q.2.2.1))) = true := by decide +kernel
theorem km_60 : j_Md 60 k_60 := ⟨by decide, fun q h => ⟨of_decide_eq_true (List.all_eq_true.mp kq_60 q h), kl_60 q h⟩⟩
/-- java/util/ArrayList$Itr.<init>(Ljava/util/ArrayList;)V -/
def k_61 : List j_I := [(0, .aload_n 0, 1, 1, 0, 0, []),
  (1, .aload_n 1, 1, 2, 0, 0, []),
  (2, .putfield 1, 3, 5, 2, 3, []),
  (5, .aload_n 0, 1, 6, 0, 0, []),
  (6, .invokespecial 7, 3, 9, 0, 0, [1]),
  (9, .aload_n 0, 1, 10, 0, 0, []),
  (10, .iconst (-1), 1, 11, 0, 0, []),
  (11, .putfield 13, 3, 14, 2, 1, []),
  (14, .aload_n 0, 1, 15, 0, 0, []),
  (15, .aload_n 0, 1, 16, 0, 0, []),
  (16, .getfield 1, 3, 19, 2, 3, []),
  (19, .getfield 17, 3, 22, 3, 0, []),
  (22, .putfield 22, 3, 25, 2, 2, []),
  (25, .return_, 1, 26, 0, 0, [])]
def s_61 : List j_I := [(2, .putfield 1, 3, 5, 2, 3, []),
  (6, .invokespecial 7, 3, 9, 0, 0, [1]),
  (11, .putfield 13, 3, 14, 2, 1, []),
  (16, .getfield 1, 3, 19, 2, 3, []),
  (19, .getfield 17, 3, 22, 3, 0, []),
  (22, .putfield 22, 3, 25, 2, 2, [])]
theorem kl_61 : ∀ q ∈ k_61, j_lk (j_y 61).cls (j_y 61).name (j_b 61) (j_hh 61) q := j_lkall (sp := s_61) (Eq.refl s_61) (List.forall_mem_cons.mpr ⟨⟨⟨rfl, rfl⟩, ⟨_, "java/util/ArrayList$Itr", rfl, Nat.le_of_ble_eq_true rfl, Or.inl tw_5_233, Or.inl rfl⟩, fun r hr hz => Option.some.inj hr ▸ ⟨rfl, rfl⟩⟩,
  List.forall_mem_cons.mpr ⟨⟨⟨rfl, rfl⟩, tw_5_229, kobj⟩,
  List.forall_mem_cons.mpr ⟨⟨⟨rfl, rfl⟩, ⟨_, "java/util/ArrayList$Itr", rfl, Nat.le_of_ble_eq_true rfl, Or.inl tw_5_231, Or.inl rfl⟩, fun r hr hz => absurd hz (Option.some.inj hr ▸ Bool.false_ne_true)⟩,
  List.forall_mem_cons.mpr ⟨⟨⟨rfl, rfl⟩, ⟨_, "java/util/ArrayList$Itr", rfl, Nat.le_of_ble_eq_true rfl, Or.inl tw_5_233, Or.inl rfl⟩⟩,
  List.forall_mem_cons.mpr ⟨⟨⟨rfl, rfl⟩, ⟨_, "java/util/ArrayList", rfl, Nat.le_of_ble_eq_true rfl, Or.inl tw_1_61, Or.inr tw_1_62⟩⟩,
  List.forall_mem_cons.mpr ⟨⟨⟨rfl, rfl⟩, ⟨_, "java/util/ArrayList$Itr", rfl, Nat.le_of_ble_eq_true rfl, Or.inl tw_5_232, Or.inl rfl⟩, fun r hr hz => absurd hz (Option.some.inj hr ▸ Bool.false_ne_true)⟩,
  fun _ h => (nomatch h)⟩⟩⟩⟩⟩⟩)
theorem kq_61 : k_61.all (fun q => decide (decode (j_b 61) q.1 = .ok (q.2.1, q.2.2.1))) = true := by decide +kernel
theorem km_61 : j_Md 61 k_61 := ⟨by decide, fun q h => ⟨of_decide_eq_true (List.all_eq_true.mp kq_61 q h), kl_61 q h⟩⟩
/-- java/util/ArrayList$Itr.checkForComodification()V -/
def k_62 : List j_I := [(0, .aload_n 0, 1, 1, 0, 0, []),
  (1, .getfield 1, 3, 4, 2, 3, []),
  (4, .getfield 17, 3, 7, 3, 0, []),
  (7, .aload_n 0, 1, 8, 0, 0, []),
  (8, .getfield 22, 3, 11, 2, 2, []),
  (11, .if_icmp .eq 11, 3, 14, 0, 0, [22]),
  (17, .dup, 1, 18, 0, 0, []),
  (22, .return_, 1, 23, 0, 0, [])]
def s_62 : List j_I := [(1, .getfield 1, 3, 4, 2, 3, []),
  (4, .getfield 17, 3, 7, 3, 0, []),
  (8, .getfield 22, 3, 11, 2, 2, [])]
theorem kl_62 : ∀ q ∈ k_62, j_lk (j_y 62).cls (j_y 62).name (j_b 62) (j_hh 62) q := j_lkall (sp := s_62) (Eq.refl s_62) (List.forall_mem_cons.mpr ⟨⟨⟨rfl, rfl⟩, ⟨_, "java/util/ArrayList$Itr", rfl, Nat.le_of_ble_eq_true rfl, Or.inl tw_5_233, Or.inl rfl⟩⟩,
  List.forall_mem_cons.mpr ⟨⟨⟨rfl, rfl⟩, ⟨_, "java/util/ArrayList", rfl, Nat.le_of_ble_eq_true rfl, Or.inl tw_1_61, Or.inr tw_1_62⟩⟩,
  List.forall_mem_cons.mpr ⟨⟨⟨rfl, rfl⟩, ⟨_, "java/util/ArrayList$Itr", rfl, Nat.le_of_ble_eq_true rfl, Or.inl tw_5_232, Or.inl rfl⟩⟩,
  fun _ h => (nomatch h)⟩⟩⟩)
theorem kq_62 : k_62.all (fun q => decide (decode (j_b 62) q.1 = .ok (q.2.1, q.2.2.1))) = true := by decide +kernel
theorem km_62 : j_Md 62 k_62 := ⟨by decide, fun q h => ⟨of_decide_eq_true (List.all_eq_true.mp kq_62 q h), kl_62 q h⟩⟩
/-- java/util/ArrayList$Itr.hasNext()Z -/
def k_63 : List j_I := [(0, .aload_n 0, 1, 1, 0, 0, []),
  (1, .getfield 25, 3, 4, 2, 0, []),
  (4, .aload_n 0, 1, 5, 0, 0, []),
  (5, .getfield 1, 3, 8, 2, 3, []),
  (8, .getfield 28, 3, 11, 3, 2, []),
  (11, .if_icmp .eq 7, 3, 14, 0, 0, [18]),
  (14, .iconst 1, 1, 15, 0, 0, []),
  (15, .goto 4, 3, 18, 0, 0, [19]),
  (18, .iconst 0, 1, 19, 0, 0, []),
  (19, .ireturn, 1, 20, 0, 0, [])]
def s_63 : List j_I := [(1, .getfield 25, 3, 4, 2, 0, []),
  (5, .getfield 1, 3, 8, 2, 3, []),
  (8, .getfield 28, 3, 11, 3, 2, [])]
theorem kl_63 : ∀ q ∈ k_63, j_lk (j_y 63).cls (j_y 63).name (j_b 63) (j_hh 63) q := j_lkall (sp := s_63) (Eq.refl s_63) (List.forall_mem_cons.mpr ⟨⟨⟨rfl, rfl⟩, ⟨_, "java/util/ArrayList$Itr", rfl, Nat.le_of_ble_eq_true rfl, Or.inl tw_5_230, Or.inl rfl⟩⟩,
  List.forall_mem_cons.mpr ⟨⟨⟨rfl, rfl⟩, ⟨_, "java/util/ArrayList$Itr", rfl, Nat.le_of_ble_eq_true rfl, Or.inl tw_5_233, Or.inl rfl⟩⟩,
  List.forall_mem_cons.mpr ⟨⟨⟨rfl, rfl⟩, ⟨_, "java/util/ArrayList", rfl, Nat.le_of_ble_eq_true rfl, Or.inr ⟨"java/util/ArrayList", List.mem_of_getElem? (i := 0) rfl⟩, Or.inl rfl⟩⟩,
  fun _ h => (nomatch h)⟩⟩⟩)
theorem kq_63 : k_63.all (fun q => decide (decode (j_b 63) q.1 = .ok (q.2.1, q.2.2.1))) = true := by decide +kernel
theorem km_63 : j_Md 63 k_63 := ⟨by decide, fun q h => ⟨of_decide_eq_true (List.all_eq_true.mp kq_63 q h), kl_63 q h⟩⟩
/-- java/util/ArrayList$Itr.next()Ljava/lang/Object; -/
def k_64 : List j_I := [(0, .aload_n 0, 1, 1, 0, 0, []),
  (1, .invokevirtual 31, 3, 4, 62, 1, [2]),
  (4, .aload_n 0, 1, 5, 0, 0, []),
  (5, .getfield 25, 3, 8, 2, 0, []),
  (8, .istore_n 1, 1, 9, 0, 0, []),
  (9, .iload_n 1, 1, 10, 0, 0, []),
  (10, .aload_n 0, 1, 11, 0, 0, []),
  (11, .getfield 1, 3, 14, 2, 3, []),
  (14, .getfield 28, 3, 17, 3, 2, []),
  (17, .if_icmp .lt 11, 3, 20, 0, 0, [28]),
  (23, .dup, 1, 24, 0, 0, []),
  (28, .aload_n 0, 1, 29, 0, 0, []),
  (29, .getfield 1, 3, 32, 2, 3, []),
  (32, .getfield 37, 3, 35, 3, 1, []),
  (35, .astore_n 2, 1, 36, 0, 0, []),
  (36, .iload_n 1, 1, 37, 0, 0, []),
  (37, .aload_n 2, 1, 38, 0, 0, []),
  (38, .arraylength, 1, 39, 0, 0, []),
  (39, .if_icmp .lt 11, 3, 42, 0, 0, [50]),
  (45, .dup, 1, 46, 0, 0, []),
  (50, .aload_n 0, 1, 51, 0, 0, []),
  (51, .iload_n 1, 1, 52, 0, 0, []),
  (52, .iconst 1, 1, 53, 0, 0, []),
  (53, .iadd, 1, 54, 0, 0, []),
  (54, .putfield 25, 3, 57, 2, 0, []),
  (57, .aload_n 2, 1, 58, 0, 0, []),
  (58, .aload_n 0, 1, 59, 0, 0, []),
  (59, .iload_n 1, 1, 60, 0, 0, []),
  (60, .dup_x1, 1, 61, 0, 0, []),
  (61, .putfield 13, 3, 64, 2, 1, []),
  (64, .aaload, 1, 65, 0, 0, []),
  (65, .areturn, 1, 66, 0, 0, [])]
def s_64 : List j_I := [(1, .invokevirtual 31, 3, 4, 62, 1, [2]),
  (5, .getfield 25, 3, 8, 2, 0, []),
  (11, .getfield 1, 3, 14, 2, 3, []),
  (14, .getfield 28, 3, 17, 3, 2, []),
  (29, .getfield 1, 3, 32, 2, 3, []),
  (32, .getfield 37, 3, 35, 3, 1, []),
  (54, .putfield 25, 3, 57, 2, 0, []),
  (61, .putfield 13, 3, 64, 2, 1, [])]
theorem kl_64 : ∀ q ∈ k_64, j_lk (j_y 64).cls (j_y 64).name (j_b 64) (j_hh 64) q := j_lkall (sp := s_64) (Eq.refl s_64) (List.forall_mem_cons.mpr ⟨⟨⟨rfl, rfl⟩, Or.inl ⟨kv_62, tw_6_22, kn_62, j_hl_nil⟩⟩,
  List.forall_mem_cons.mpr ⟨⟨⟨rfl, rfl⟩, ⟨_, "java/util/ArrayList$Itr", rfl, Nat.le_of_ble_eq_true rfl, Or.inl tw_5_230, Or.inl rfl⟩⟩,
  List.forall_mem_cons.mpr ⟨⟨⟨rfl, rfl⟩, ⟨_, "java/util/ArrayList$Itr", rfl, Nat.le_of_ble_eq_true rfl, Or.inl tw_5_233, Or.inl rfl⟩⟩,
  List.forall_mem_cons.mpr ⟨⟨⟨rfl, rfl⟩, ⟨_, "java/util/ArrayList", rfl, Nat.le_of_ble_eq_true rfl, Or.inr ⟨"java/util/ArrayList", List.mem_of_getElem? (i := 0) rfl⟩, Or.inl rfl⟩⟩,
  List.forall_mem_cons.mpr ⟨⟨⟨rfl, rfl⟩, ⟨_, "java/util/ArrayList$Itr", rfl, Nat.le_of_ble_eq_true rfl, Or.inl tw_5_233, Or.inl rfl⟩⟩,
  List.forall_mem_cons.mpr ⟨⟨⟨rfl, rfl⟩, ⟨_, "java/util/ArrayList", rfl, Nat.le_of_ble_eq_true rfl, Or.inl tw_1_57, Or.inl rfl⟩⟩,
  List.forall_mem_cons.mpr ⟨⟨⟨rfl, rfl⟩, ⟨_, "java/util/ArrayList$Itr", rfl, Nat.le_of_ble_eq_true rfl, Or.inl tw_5_230, Or.inl rfl⟩, fun r hr hz => absurd hz (Option.some.inj hr ▸ Bool.false_ne_true)⟩,
  List.forall_mem_cons.mpr ⟨⟨⟨rfl, rfl⟩, ⟨_, "java/util/ArrayList$Itr", rfl, Nat.le_of_ble_eq_true rfl, Or.inl tw_5_231, Or.inl rfl⟩, fun r hr hz => absurd hz (Option.some.inj hr ▸ Bool.false_ne_true)⟩,
  fun _ h => (nomatch h)⟩⟩⟩⟩⟩⟩⟩⟩)
theorem kq_64 : k_64.all (fun q => decide (decode (j_b 64) q.1 = .ok (q.2.1, q.2.2.1))) = true := by decide +kernel
theorem km_64 : j_Md 64 k_64 := ⟨by decide, fun q h => ⟨of_decide_eq_true (List.all_eq_true.mp kq_64 q h), kl_64 q h⟩⟩
/-- java/util/Arrays.checkLength(II)V -/
def k_65 : List j_I := [(0, .iload_n 1, 1, 1, 0, 0, []),
  (1, .iload_n 0, 1, 2, 0, 0, []),
  (2, .if_icmp .ge 35, 3, 5, 0, 0, [37]),
  (37, .return_, 1, 38, 0, 0, [])]
def s_65 : List j_I := []
theorem kl_65 : ∀ q ∈ k_65, j_lk (j_y 65).cls (j_y 65).name (j_b 65) (j_hh 65) q := j_lkall (sp := s_65) (Eq.refl s_65) (fun _ h => (nomatch h))
theorem kq_65 : k_65.all (fun q => decide (decode (j_b 65) q.1 = .ok (q.2.1, q.2.2.1))) = true := by decide +kernel
theorem km_65 : j_Md 65 k_65 := ⟨by decide, fun q h => ⟨of_decide_eq_true (List.all_eq_true.mp kq_65 q h), kl_65 q h⟩⟩
/-- java/util/Arrays.copyOf([BI)[B -/
def k_66 : List j_I := [(0, .iload_n 1, 1, 1, 0, 0, []),
  (1, .aload_n 0, 1, 2, 0, 0, []),
  (2, .arraylength, 1, 3, 0, 0, []),
  (3, .if_icmp .ne 11, 3, 6, 0, 0, [14]),
  (6, .aload_n 0, 1, 7, 0, 0, []),
  (7, .invokevirtual 310, 3, 10, 1, 0, []),
  (10, .checkcast 311, 3, 13, 0, 0, [1]),
  (13, .areturn, 1, 14, 0, 0, []),
  (14, .iload_n 1, 1, 15, 0, 0, []),
  (15, .newarray .byte, 2, 17, 1, 0, []),
  (17, .astore_n 2, 1, 18, 0, 0, []),
  (18, .aload_n 0, 1, 19, 0, 0, []),
  (19, .iconst 0, 1, 20, 0, 0, []),
  (20, .aload_n 2, 1, 21, 0, 0, []),
  (21, .iconst 0, 1, 22, 0, 0, []),
  (22, .aload_n 0, 1, 23, 0, 0, []),
  (23, .arraylength, 1, 24, 0, 0, []),
  (24, .iload_n 1, 1, 25, 0, 0, []),
  (25, .invokestatic 304, 3, 28, 0, 0, [1]),
  (28, .invokestatic 150, 3, 31, 0, 0, [3]),
  (31, .aload_n 2, 1, 32, 0, 0, []),
  (32, .areturn, 1, 33, 0, 0, [])]
def s_66 : List j_I := [(7, .invokevirtual 310, 3, 10, 1, 0, []),
  (10, .checkcast 311, 3, 13, 0, 0, [1]),
  (15, .newarray .byte, 2, 17, 1, 0, []),
  (25, .invokestatic 304, 3, 28, 0, 0, [1]),
  (28, .invokestatic 150, 3, 31, 0, 0, [3])]
theorem kl_66 : ∀ q ∈ k_66, j_lk (j_y 66).cls (j_y 66).name (j_b 66) (j_hh 66) q := j_lkall (sp := s_66) (Eq.refl s_66) (List.forall_mem_cons.mpr ⟨⟨⟨rfl, rfl⟩, tw_4_144, tw_4_145, tw_4_146, tw_4_147, tw_4_148⟩,
  List.forall_mem_cons.mpr ⟨⟨⟨rfl, rfl⟩, Or.inr ⟨rfl, tw_4_150⟩⟩,
  List.forall_mem_cons.mpr ⟨⟨⟨rfl, rfl⟩, Or.inr ⟨rfl, rfl⟩, tw_2_167⟩,
  List.forall_mem_cons.mpr ⟨⟨⟨rfl, rfl⟩, tw_3_62, tw_1_149, tw_1_15, tw_1_150⟩,
  List.forall_mem_cons.mpr ⟨⟨⟨rfl, rfl⟩, tw_3_63, tw_3_65, tw_3_64, tw_1_17⟩,
  fun _ h => (nomatch h)⟩⟩⟩⟩⟩)
theorem kq_66 : k_66.all (fun q => decide (decode (j_b 66) q.1 = .ok (q.2.1, q.2.2.1))) = true := by decide +kernel
theorem km_66 : j_Md 66 k_66 := ⟨by decide, fun q h => ⟨of_decide_eq_true (List.all_eq_true.mp kq_66 q h), kl_66 q h⟩⟩
/-- java/util/Arrays.copyOf([Ljava/lang/Object;I)[Ljava/lang/Object; -/
def k_67 : List j_I := [(0, .aload_n 0, 1, 1, 0, 0, []),
  (1, .iload_n 1, 1, 2, 0, 0, []),
  (2, .aload_n 0, 1, 3, 0, 0, []),
  (3, .invokevirtual 86, 3, 6, 0, 0, []),
  (6, .invokestatic 300, 3, 9, 68, 3, []),
  (9, .areturn, 1, 10, 0, 0, [])]
def s_67 : List j_I := [(3, .invokevirtual 86, 3, 6, 0, 0, []),
  (6, .invokestatic 300, 3, 9, 68, 3, [])]
theorem kl_67 : ∀ q ∈ k_67, j_lk (j_y 67).cls (j_y 67).name (j_b 67) (j_hh 67) q := j_lkall (sp := s_67) (Eq.refl s_67) (List.forall_mem_cons.mpr ⟨⟨⟨rfl, rfl⟩, tw_3_36, tw_7_83, tw_3_37, tw_3_55⟩,
  List.forall_mem_cons.mpr ⟨⟨⟨rfl, rfl⟩, ks_68, tw_3_56, kn_68⟩,
  fun _ h => (nomatch h)⟩⟩)
theorem kq_67 : k_67.all (fun q => decide (decode (j_b 67) q.1 = .ok (q.2.1, q.2.2.1))) = true := by decide +kernel
theorem km_67 : j_Md 67 k_67 := ⟨by decide, fun q h => ⟨of_decide_eq_true (List.all_eq_true.mp kq_67 q h), kl_67 q h⟩⟩
/-- java/util/Arrays.copyOf([Ljava/lang/Object;ILjava/lang/Class;)[Ljava/lang/Object; -/
def k_68 : List j_I := [(0, .aload_n 2, 1, 1, 0, 0, []),
  (1, .ldc 110, 2, 3, 2, 0, []),
  (3, .if_acmp .ne 10, 3, 6, 0, 0, [13]),
  (6, .iload_n 1, 1, 7, 0, 0, []),
  (7, .anewarray 2, 3, 10, 0, 0, []),
  (10, .goto 14, 3, 13, 0, 0, [24]),
  (13, .aload_n 2, 1, 14, 0, 0, []),
  (17, .iload_n 1, 1, 18, 0, 0, []),
  (24, .astore_n 3, 1, 25, 0, 0, []),
  (25, .aload_n 0, 1, 26, 0, 0, []),
  (26, .iconst 0, 1, 27, 0, 0, []),
  (27, .aload_n 3, 1, 28, 0, 0, []),
  (28, .iconst 0, 1, 29, 0, 0, []),
  (29, .aload_n 0, 1, 30, 0, 0, []),
  (30, .arraylength, 1, 31, 0, 0, []),
  (31, .iload_n 1, 1, 32, 0, 0, []),
  (32, .invokestatic 304, 3, 35, 0, 0, [1]),
  (35, .invokestatic 150, 3, 38, 0, 0, [2]),
  (38, .aload_n 3, 1, 39, 0, 0, []),
  (39, .areturn, 1, 40, 0, 0, [])]
def s_68 : List j_I := [(1, .ldc 110, 2, 3, 2, 0, []),
  (7, .anewarray 2, 3, 10, 0, 0, []),
  (32, .invokestatic 304, 3, 35, 0, 0, [1]),
  (35, .invokestatic 150, 3, 38, 0, 0, [2])]
theorem kl_68 : ∀ q ∈ k_68, j_lk (j_y 68).cls (j_y 68).name (j_b 68) (j_hh 68) q := j_lkall (sp := s_68) (Eq.refl s_68) (List.forall_mem_cons.mpr ⟨⟨⟨rfl, rfl⟩, tw_3_59⟩,
  List.forall_mem_cons.mpr ⟨⟨⟨rfl, rfl⟩, tw_3_61⟩,
  List.forall_mem_cons.mpr ⟨⟨⟨rfl, rfl⟩, tw_3_62, tw_1_149, tw_1_15, tw_1_150⟩,
  List.forall_mem_cons.mpr ⟨⟨⟨rfl, rfl⟩, tw_3_63, tw_3_65, tw_3_64, tw_1_17⟩,
  fun _ h => (nomatch h)⟩⟩⟩⟩)
theorem kq_68 : k_68.all (fun q => decide (decode (j_b 68) q.1 = .ok (q.2.1, q.2.2.1))) = true := by decide +kernel
theorem km_68 : j_Md 68 k_68 := ⟨by decide, fun q h => ⟨of_decide_eq_true (List.all_eq_true.mp kq_68 q h), kl_68 q h⟩⟩
/-- java/util/Arrays.copyOfRange([BII)[B -/
def k_69 : List j_I := [(0, .iload_n 1, 1, 1, 0, 0, []),
  (1, .ifCond .ne 9, 3, 4, 0, 0, [10]),
  (4, .iload_n 2, 1, 5, 0, 0, []),
  (5, .aload_n 0, 1, 6, 0, 0, []),
  (6, .arraylength, 1, 7, 0, 0, []),
  (7, .if_icmp .eq 10, 3, 10, 0, 0, [17]),
  (10, .aload_n 0, 1, 11, 0, 0, []),
  (11, .iload_n 1, 1, 12, 0, 0, []),
  (12, .iload_n 2, 1, 13, 0, 0, []),
  (13, .invokestatic 339, 3, 16, 70, 3, []),
  (16, .areturn, 1, 17, 0, 0, []),
  (17, .aload_n 0, 1, 18, 0, 0, []),
  (18, .invokevirtual 310, 3, 21, 1, 0, []),
  (21, .checkcast 311, 3, 24, 0, 0, [1]),
  (24, .areturn, 1, 25, 0, 0, [])]
def s_69 : List j_I := [(13, .invokestatic 339, 3, 16, 70, 3, []),
  (18, .invokevirtual 310, 3, 21, 1, 0, []),
  (21, .checkcast 311, 3, 24, 0, 0, [1])]
theorem kl_69 : ∀ q ∈ k_69, j_lk (j_y 69).cls (j_y 69).name (j_b 69) (j_hh 69) q := j_lkall (sp := s_69) (Eq.refl s_69) (List.forall_mem_cons.mpr ⟨⟨⟨rfl, rfl⟩, ks_70, tw_5_23, kn_70⟩,
  List.forall_mem_cons.mpr ⟨⟨⟨rfl, rfl⟩, tw_4_144, tw_4_145, tw_4_146, tw_4_147, tw_4_148⟩,
  List.forall_mem_cons.mpr ⟨⟨⟨rfl, rfl⟩, Or.inr ⟨rfl, tw_4_150⟩⟩,
  fun _ h => (nomatch h)⟩⟩⟩)
theorem kq_69 : k_69.all (fun q => decide (decode (j_b 69) q.1 = .ok (q.2.1, q.2.2.1))) = true := by decide +kernel
theorem km_69 : j_Md 69 k_69 := ⟨by decide, fun q h => ⟨of_decide_eq_true (List.all_eq_true.mp kq_69 q h), kl_69 q h⟩⟩
/-- java/util/Arrays.copyOfRangeByte([BII)[B -/
def k_70 : List j_I := [(0, .iload_n 1, 1, 1, 0, 0, []),
  (1, .iload_n 2, 1, 2, 0, 0, []),
  (2, .invokestatic 343, 3, 5, 65, 2, []),
  (5, .iload_n 2, 1, 6, 0, 0, []),
  (6, .iload_n 1, 1, 7, 0, 0, []),
  (7, .isub, 1, 8, 0, 0, []),
  (8, .istore_n 3, 1, 9, 0, 0, []),
  (9, .iload_n 3, 1, 10, 0, 0, []),
  (10, .newarray .byte, 2, 12, 1, 0, []),
  (12, .astore 4, 2, 14, 0, 0, []),
  (14, .aload_n 0, 1, 15, 0, 0, []),
  (15, .iload_n 1, 1, 16, 0, 0, []),
  (16, .aload 4, 2, 18, 0, 0, []),
  (18, .iconst 0, 1, 19, 0, 0, []),
  (19, .aload_n 0, 1, 20, 0, 0, []),
  (20, .arraylength, 1, 21, 0, 0, []),
  (21, .iload_n 1, 1, 22, 0, 0, []),
  (22, .isub, 1, 23, 0, 0, []),
  (23, .iload_n 3, 1, 24, 0, 0, []),
  (24, .invokestatic 304, 3, 27, 0, 0, [1]),
  (27, .invokestatic 150, 3, 30, 0, 0, [3]),
  (30, .aload 4, 2, 32, 0, 0, []),
  (32, .areturn, 1, 33, 0, 0, [])]
def s_70 : List j_I := [(2, .invokestatic 343, 3, 5, 65, 2, []),
  (10, .newarray .byte, 2, 12, 1, 0, []),
  (24, .invokestatic 304, 3, 27, 0, 0, [1]),
  (27, .invokestatic 150, 3, 30, 0, 0, [3])]
theorem kl_70 : ∀ q ∈ k_70, j_lk (j_y 70).cls (j_y 70).name (j_b 70) (j_hh 70) q := j_lkall (sp := s_70) (Eq.refl s_70) (List.forall_mem_cons.mpr ⟨⟨⟨rfl, rfl⟩, ks_65, tw_5_26, kn_65⟩,
  List.forall_mem_cons.mpr ⟨⟨⟨rfl, rfl⟩, Or.inr ⟨rfl, rfl⟩, tw_2_167⟩,
  List.forall_mem_cons.mpr ⟨⟨⟨rfl, rfl⟩, tw_3_62, tw_1_149, tw_1_15, tw_1_150⟩,
  List.forall_mem_cons.mpr ⟨⟨⟨rfl, rfl⟩, tw_3_63, tw_3_65, tw_3_64, tw_1_17⟩,
  fun _ h => (nomatch h)⟩⟩⟩⟩)
theorem kq_70 : k_70.all (fun q => decide (decode (j_b 70) q.1 = .ok (q.2.1, q.2.2.1))) = true := by decide +kernel
theorem km_70 : j_Md 70 k_70 := ⟨by decide, fun q h => ⟨of_decide_eq_true (List.all_eq_true.mp kq_70 q h), kl_70 q h⟩⟩
/-- java/util/Objects.checkIndex(II)I -/
def k_71 : List j_I := [(0, .iload_n 0, 1, 1, 0, 0, []),
  (1, .iload_n 1, 1, 2, 0, 0, []),
  (2, .aconst_null, 1, 3, 0, 0, []),
  (3, .invokestatic 105, 3, 6, 76, 3, []),
  (6, .ireturn, 1, 7, 0, 0, [])]
def s_71 : List j_I := [(3, .invokestatic 105, 3, 6, 76, 3, [])]
theorem kl_71 : ∀ q ∈ k_71, j_lk (j_y 71).cls (j_y 71).name (j_b 71) (j_hh 71) q := j_lkall (sp := s_71) (Eq.refl s_71) (List.forall_mem_cons.mpr ⟨⟨⟨rfl, rfl⟩, ks_76, tw_1_116, kn_76⟩,
  fun _ h => (nomatch h)⟩)
theorem kq_71 : k_71.all (fun q => decide (decode (j_b 71) q.1 = .ok (q.2.1, q.2.2.1))) = true := by decide +kernel
theorem km_71 : j_Md 71 k_71 := ⟨by decide, fun q h => ⟨of_decide_eq_true (List.all_eq_true.mp kq_71 q h), kl_71 q h⟩⟩
/-- jdk/internal/util/ArraysSupport.newLength(III)I -/
def k_73 : List j_I := [(0, .iload_n 0, 1, 1, 0, 0, []),
  (1, .iload_n 1, 1, 2, 0, 0, []),
  (2, .iload_n 2, 1, 3, 0, 0, []),
  (3, .invokestatic 194, 3, 6, 0, 0, [0]),
  (6, .iadd, 1, 7, 0, 0, []),
  (7, .istore_n 3, 1, 8, 0, 0, []),
  (8, .iconst 0, 1, 9, 0, 0, []),
  (9, .iload_n 3, 1, 10, 0, 0, []),
  (10, .if_icmp .ge 11, 3, 13, 0, 0, [21]),
  (13, .iload_n 3, 1, 14, 0, 0, []),
  (14, .ldc 200, 2, 16, 0, 2147483639, []),
  (16, .if_icmp .gt 5, 3, 19, 0, 0, [21]),
  (19, .iload_n 3, 1, 20, 0, 0, []),
  (20, .ireturn, 1, 21, 0, 0, []),
  (21, .iload_n 0, 1, 22, 0, 0, []),
  (22, .iload_n 1, 1, 23, 0, 0, []),
  (23, .invokestatic 201, 3, 26, 72, 2, []),
  (26, .ireturn, 1, 27, 0, 0, [])]
def s_73 : List j_I := [(3, .invokestatic 194, 3, 6, 0, 0, [0]),
  (14, .ldc 200, 2, 16, 0, 2147483639, []),
  (23, .invokestatic 201, 3, 26, 72, 2, [])]
theorem kl_73 : ∀ q ∈ k_73, j_lk (j_y 73).cls (j_y 73).name (j_b 73) (j_hh 73) q := j_lkall (sp := s_73) (Eq.refl s_73) (List.forall_mem_cons.mpr ⟨⟨⟨rfl, rfl⟩, tw_3_28, tw_1_138, tw_1_15, tw_1_139⟩,
  List.forall_mem_cons.mpr ⟨⟨⟨rfl, rfl⟩, tw_3_29⟩,
  List.forall_mem_cons.mpr ⟨⟨⟨rfl, rfl⟩, ks_72, tw_3_30, kn_72⟩,
  fun _ h => (nomatch h)⟩⟩⟩)
theorem kq_73 : k_73.all (fun q => decide (decode (j_b 73) q.1 = .ok (q.2.1, q.2.2.1))) = true := by decide +kernel
theorem km_73 : j_Md 73 k_73 := ⟨by decide, fun q h => ⟨of_decide_eq_true (List.all_eq_true.mp kq_73 q h), kl_73 q h⟩⟩
/-- jdk/internal/util/Preconditions.checkIndex(IILjava/util/function/BiFunction;)I -/
def k_76 : List j_I := [(0, .iload_n 0, 1, 1, 0, 0, []),
  (1, .ifCond .lt 8, 3, 4, 0, 0, [9]),
  (4, .iload_n 0, 1, 5, 0, 0, []),
  (5, .iload_n 1, 1, 6, 0, 0, []),
  (6, .if_icmp .lt 10, 3, 9, 0, 0, [16]),
  (9, .aload_n 2, 1, 10, 0, 0, []),
  (10, .iload_n 0, 1, 11, 0, 0, []),
  (11, .iload_n 1, 1, 12, 0, 0, []),
  (16, .iload_n 0, 1, 17, 0, 0, []),
  (17, .ireturn, 1, 18, 0, 0, [])]
def s_76 : List j_I := []
theorem kl_76 : ∀ q ∈ k_76, j_lk (j_y 76).cls (j_y 76).name (j_b 76) (j_hh 76) q := j_lkall (sp := s_76) (Eq.refl s_76) (fun _ h => (nomatch h))
theorem kq_76 : k_76.all (fun q => decide (decode (j_b 76) q.1 = .ok (q.2.1, q.2.2.1))) = true := by decide +kernel
theorem km_76 : j_Md 76 k_76 := ⟨by decide, fun q h => ⟨of_decide_eq_true (List.all_eq_true.mp kq_76 q h), kl_76 q h⟩⟩
