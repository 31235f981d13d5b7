/-- GrainclockLaw.age(LGrainclock;IIIZLGrainclockLaw$Out;)I -/
def k_230 : List j_I := [(0, .aload 5, 2, 2, 0, 0, []),
  (2, .aload_n 0, 1, 3, 0, 0, []),
  (3, .iload_n 1, 1, 4, 0, 0, []),
  (4, .iload_n 2, 1, 5, 0, 0, []),
  (5, .iload_n 3, 1, 6, 0, 0, []),
  (6, .iload 4, 2, 8, 0, 0, []),
  (8, .invokevirtual 85, 3, 11, 78, 5, [8, 23, 0, 19]),
  (11, .i2l, 1, 12, 0, 0, []),
  (12, .putfield 13, 3, 15, 9, 0, []),
  (15, .goto 11, 3, 18, 0, 0, [26]),
  (18, .astore 6, 2, 20, 0, 0, []),
  (20, .iconst 1, 1, 21, 0, 0, []),
  (21, .ireturn, 1, 22, 0, 0, []),
  (22, .astore 6, 2, 24, 0, 0, []),
  (24, .iconst 2, 1, 25, 0, 0, []),
  (25, .ireturn, 1, 26, 0, 0, []),
  (26, .iconst 0, 1, 27, 0, 0, []),
  (27, .ireturn, 1, 28, 0, 0, [])]
def s_230 : List j_I := [(8, .invokevirtual 85, 3, 11, 78, 5, [8, 23, 0, 19]),
  (12, .putfield 13, 3, 15, 9, 0, [])]
theorem kl_230 : ∀ q ∈ k_230, j_lk (j_y 230).cls (j_y 230).name (j_b 230) (j_hh 230) q := j_lkall (sp := s_230) (Eq.refl s_230) (List.forall_mem_cons.mpr ⟨⟨⟨rfl, rfl⟩, Or.inl ⟨kv_78, tw_5_110, kn_78, (j_hl_mk (⟨[(0, 15, 18, 31)], (0, 15, 22, 19), [], rfl, rfl, ⟨Nat.le_of_ble_eq_true rfl, Nat.le_of_ble_eq_true rfl⟩, Nat.succ_ne_zero _, tw_2_91, List.forall_mem_cons.mpr ⟨⟨Nat.succ_ne_zero _, "java/lang/IndexOutOfBoundsException", tw_3_90, by decide⟩, fun _ h => (nomatch h)⟩⟩) trivial (⟨[], (0, 15, 18, 31), [(0, 15, 22, 19)], rfl, rfl, ⟨Nat.le_of_ble_eq_true rfl, Nat.le_of_ble_eq_true rfl⟩, Nat.succ_ne_zero _, tw_3_90, fun _ h => (nomatch h)⟩))⟩⟩,
  List.forall_mem_cons.mpr ⟨⟨⟨rfl, rfl⟩, ⟨_, "GrainclockLaw$Out", rfl, Nat.le_of_ble_eq_true rfl, Or.inr ⟨"GrainclockLaw", List.mem_of_getElem? (i := 2) rfl⟩, Or.inl rfl⟩, fun r hr hz => absurd hz (Option.some.inj hr ▸ Bool.false_ne_true)⟩,
  fun _ h => (nomatch h)⟩⟩)
theorem kq_230 : k_230.all (fun q => decide (decode (j_b 230) q.1 = .ok (q.2.1, q.2.2.1))) = true := by decide +kernel
theorem km_230 : j_Md 230 k_230 := ⟨by decide, fun q h => ⟨of_decide_eq_true (List.all_eq_true.mp kq_230 q h), kl_230 q h⟩⟩
/-- GrainclockLaw.changed(LGrainclock;IILGrainclockLaw$Out;)I -/
def k_231 : List j_I := [(0, .aload_n 3, 1, 1, 0, 0, []),
  (1, .aload_n 0, 1, 2, 0, 0, []),
  (2, .iload_n 1, 1, 3, 0, 0, []),
  (3, .iload_n 2, 1, 4, 0, 0, []),
  (4, .invokevirtual 89, 3, 7, 84, 3, [8, 19, 0, 15]),
  (7, .i2l, 1, 8, 0, 0, []),
  (8, .putfield 13, 3, 11, 9, 0, []),
  (11, .goto 11, 3, 14, 0, 0, [22]),
  (14, .astore 4, 2, 16, 0, 0, []),
  (16, .iconst 1, 1, 17, 0, 0, []),
  (17, .ireturn, 1, 18, 0, 0, []),
  (18, .astore 4, 2, 20, 0, 0, []),
  (20, .iconst 2, 1, 21, 0, 0, []),
  (21, .ireturn, 1, 22, 0, 0, []),
  (22, .iconst 0, 1, 23, 0, 0, []),
  (23, .ireturn, 1, 24, 0, 0, [])]
def s_231 : List j_I := [(4, .invokevirtual 89, 3, 7, 84, 3, [8, 19, 0, 15]),
  (8, .putfield 13, 3, 11, 9, 0, [])]
theorem kl_231 : ∀ q ∈ k_231, j_lk (j_y 231).cls (j_y 231).name (j_b 231) (j_hh 231) q := j_lkall (sp := s_231) (Eq.refl s_231) (List.forall_mem_cons.mpr ⟨⟨⟨rfl, rfl⟩, Or.inl ⟨kv_84, tw_5_120, kn_84, (j_hl_mk (⟨[(0, 11, 14, 31)], (0, 11, 18, 19), [], rfl, rfl, ⟨Nat.le_of_ble_eq_true rfl, Nat.le_of_ble_eq_true rfl⟩, Nat.succ_ne_zero _, tw_2_91, List.forall_mem_cons.mpr ⟨⟨Nat.succ_ne_zero _, "java/lang/IndexOutOfBoundsException", tw_3_90, by decide⟩, fun _ h => (nomatch h)⟩⟩) trivial (⟨[], (0, 11, 14, 31), [(0, 11, 18, 19)], rfl, rfl, ⟨Nat.le_of_ble_eq_true rfl, Nat.le_of_ble_eq_true rfl⟩, Nat.succ_ne_zero _, tw_3_90, fun _ h => (nomatch h)⟩))⟩⟩,
  List.forall_mem_cons.mpr ⟨⟨⟨rfl, rfl⟩, ⟨_, "GrainclockLaw$Out", rfl, Nat.le_of_ble_eq_true rfl, Or.inr ⟨"GrainclockLaw", List.mem_of_getElem? (i := 2) rfl⟩, Or.inl rfl⟩, fun r hr hz => absurd hz (Option.some.inj hr ▸ Bool.false_ne_true)⟩,
  fun _ h => (nomatch h)⟩⟩)
theorem kq_231 : k_231.all (fun q => decide (decode (j_b 231) q.1 = .ok (q.2.1, q.2.2.1))) = true := by decide +kernel
theorem km_231 : j_Md 231 k_231 := ⟨by decide, fun q h => ⟨of_decide_eq_true (List.all_eq_true.mp kq_231 q h), kl_231 q h⟩⟩
/-- GrainclockLaw.grain(LGrainclock;IIILGrainclockLaw$Out;)I -/
def k_232 : List j_I := [(0, .aload 4, 2, 2, 0, 0, []),
  (2, .aload_n 0, 1, 3, 0, 0, []),
  (3, .iload_n 1, 1, 4, 0, 0, []),
  (4, .iload_n 2, 1, 5, 0, 0, []),
  (5, .iload_n 3, 1, 6, 0, 0, []),
  (6, .invokevirtual 7, 3, 9, 101, 4, [8, 17, 21, 0]),
  (9, .i2l, 1, 10, 0, 0, []),
  (10, .putfield 13, 3, 13, 9, 0, []),
  (13, .goto 11, 3, 16, 0, 0, [24]),
  (16, .astore 5, 2, 18, 0, 0, []),
  (18, .iconst 1, 1, 19, 0, 0, []),
  (19, .ireturn, 1, 20, 0, 0, []),
  (20, .astore 5, 2, 22, 0, 0, []),
  (22, .iconst 2, 1, 23, 0, 0, []),
  (23, .ireturn, 1, 24, 0, 0, []),
  (24, .iconst 0, 1, 25, 0, 0, []),
  (25, .ireturn, 1, 26, 0, 0, [])]
def s_232 : List j_I := [(6, .invokevirtual 7, 3, 9, 101, 4, [8, 17, 21, 0]),
  (10, .putfield 13, 3, 13, 9, 0, [])]
theorem kl_232 : ∀ q ∈ k_232, j_lk (j_y 232).cls (j_y 232).name (j_b 232) (j_hh 232) q := j_lkall (sp := s_232) (Eq.refl s_232) (List.forall_mem_cons.mpr ⟨⟨⟨rfl, rfl⟩, Or.inl ⟨kv_101, tw_2_93, kn_101, (j_hl_mk (⟨[], (0, 13, 16, 19), [(0, 13, 20, 21)], rfl, rfl, ⟨Nat.le_of_ble_eq_true rfl, Nat.le_of_ble_eq_true rfl⟩, Nat.succ_ne_zero _, tw_2_91, fun _ h => (nomatch h)⟩) (⟨[(0, 13, 16, 19)], (0, 13, 20, 21), [], rfl, rfl, ⟨Nat.le_of_ble_eq_true rfl, Nat.le_of_ble_eq_true rfl⟩, Nat.succ_ne_zero _, tw_2_92, List.forall_mem_cons.mpr ⟨⟨Nat.succ_ne_zero _, "java/lang/IllegalArgumentException", tw_2_91, by decide⟩, fun _ h => (nomatch h)⟩⟩) trivial)⟩⟩,
  List.forall_mem_cons.mpr ⟨⟨⟨rfl, rfl⟩, ⟨_, "GrainclockLaw$Out", rfl, Nat.le_of_ble_eq_true rfl, Or.inr ⟨"GrainclockLaw", List.mem_of_getElem? (i := 2) rfl⟩, Or.inl rfl⟩, fun r hr hz => absurd hz (Option.some.inj hr ▸ Bool.false_ne_true)⟩,
  fun _ h => (nomatch h)⟩⟩)
theorem kq_232 : k_232.all (fun q => decide (decode (j_b 232) q.1 = .ok (q.2.1, q.2.2.1))) = true := by decide +kernel
theorem km_232 : j_Md 232 k_232 := ⟨by decide, fun q h => ⟨of_decide_eq_true (List.all_eq_true.mp kq_232 q h), kl_232 q h⟩⟩
/-- GrainclockLaw.heat(LGrainclock;IILGrainclockLaw$Out;)I -/
def k_233 : List j_I := [(0, .aload_n 3, 1, 1, 0, 0, []),
  (1, .aload_n 0, 1, 2, 0, 0, []),
  (2, .iload_n 1, 1, 3, 0, 0, []),
  (3, .iload_n 2, 1, 4, 0, 0, []),
  (4, .invokevirtual 27, 3, 7, 103, 3, [8, 19, 0, 15]),
  (7, .i2l, 1, 8, 0, 0, []),
  (8, .putfield 13, 3, 11, 9, 0, []),
  (11, .goto 11, 3, 14, 0, 0, [22]),
  (14, .astore 4, 2, 16, 0, 0, []),
  (16, .iconst 1, 1, 17, 0, 0, []),
  (17, .ireturn, 1, 18, 0, 0, []),
  (18, .astore 4, 2, 20, 0, 0, []),
  (20, .iconst 2, 1, 21, 0, 0, []),
  (21, .ireturn, 1, 22, 0, 0, []),
  (22, .iconst 0, 1, 23, 0, 0, []),
  (23, .ireturn, 1, 24, 0, 0, [])]
def s_233 : List j_I := [(4, .invokevirtual 27, 3, 7, 103, 3, [8, 19, 0, 15]),
  (8, .putfield 13, 3, 11, 9, 0, [])]
theorem kl_233 : ∀ q ∈ k_233, j_lk (j_y 233).cls (j_y 233).name (j_b 233) (j_hh 233) q := j_lkall (sp := s_233) (Eq.refl s_233) (List.forall_mem_cons.mpr ⟨⟨⟨rfl, rfl⟩, Or.inl ⟨kv_103, tw_3_91, kn_103, (j_hl_mk (⟨[(0, 11, 14, 31)], (0, 11, 18, 19), [], rfl, rfl, ⟨Nat.le_of_ble_eq_true rfl, Nat.le_of_ble_eq_true rfl⟩, Nat.succ_ne_zero _, tw_2_91, List.forall_mem_cons.mpr ⟨⟨Nat.succ_ne_zero _, "java/lang/IndexOutOfBoundsException", tw_3_90, by decide⟩, fun _ h => (nomatch h)⟩⟩) trivial (⟨[], (0, 11, 14, 31), [(0, 11, 18, 19)], rfl, rfl, ⟨Nat.le_of_ble_eq_true rfl, Nat.le_of_ble_eq_true rfl⟩, Nat.succ_ne_zero _, tw_3_90, fun _ h => (nomatch h)⟩))⟩⟩,
  List.forall_mem_cons.mpr ⟨⟨⟨rfl, rfl⟩, ⟨_, "GrainclockLaw$Out", rfl, Nat.le_of_ble_eq_true rfl, Or.inr ⟨"GrainclockLaw", List.mem_of_getElem? (i := 2) rfl⟩, Or.inl rfl⟩, fun r hr hz => absurd hz (Option.some.inj hr ▸ Bool.false_ne_true)⟩,
  fun _ h => (nomatch h)⟩⟩)
theorem kq_233 : k_233.all (fun q => decide (decode (j_b 233) q.1 = .ok (q.2.1, q.2.2.1))) = true := by decide +kernel
theorem km_233 : j_Md 233 k_233 := ⟨by decide, fun q h => ⟨of_decide_eq_true (List.all_eq_true.mp kq_233 q h), kl_233 q h⟩⟩
/-- GrainclockLaw.lab(LGrainclock;ILGrainclockLaw$Out;)I -/
def k_234 : List j_I := [(0, .aload_n 2, 1, 1, 0, 0, []),
  (1, .aload_n 0, 1, 2, 0, 0, []),
  (2, .iload_n 1, 1, 3, 0, 0, []),
  (3, .invokevirtual 71, 3, 6, 110, 2, [8, 14, 0, 0]),
  (6, .i2l, 1, 7, 0, 0, []),
  (7, .putfield 13, 3, 10, 9, 0, []),
  (10, .goto 6, 3, 13, 0, 0, [16]),
  (13, .astore_n 3, 1, 14, 0, 0, []),
  (14, .iconst 1, 1, 15, 0, 0, []),
  (15, .ireturn, 1, 16, 0, 0, []),
  (16, .iconst 0, 1, 17, 0, 0, []),
  (17, .ireturn, 1, 18, 0, 0, [])]
def s_234 : List j_I := [(3, .invokevirtual 71, 3, 6, 110, 2, [8, 14, 0, 0]),
  (7, .putfield 13, 3, 10, 9, 0, [])]
theorem kl_234 : ∀ q ∈ k_234, j_lk (j_y 234).cls (j_y 234).name (j_b 234) (j_hh 234) q := j_lkall (sp := s_234) (Eq.refl s_234) (List.forall_mem_cons.mpr ⟨⟨⟨rfl, rfl⟩, Or.inl ⟨kv_110, tw_4_79, kn_110, (j_hl_mk (⟨[], (0, 10, 13, 19), [], rfl, rfl, ⟨Nat.le_of_ble_eq_true rfl, Nat.le_of_ble_eq_true rfl⟩, Nat.succ_ne_zero _, tw_2_91, fun _ h => (nomatch h)⟩) trivial trivial)⟩⟩,
  List.forall_mem_cons.mpr ⟨⟨⟨rfl, rfl⟩, ⟨_, "GrainclockLaw$Out", rfl, Nat.le_of_ble_eq_true rfl, Or.inr ⟨"GrainclockLaw", List.mem_of_getElem? (i := 2) rfl⟩, Or.inl rfl⟩, fun r hr hz => absurd hz (Option.some.inj hr ▸ Bool.false_ne_true)⟩,
  fun _ h => (nomatch h)⟩⟩)
theorem kq_234 : k_234.all (fun q => decide (decode (j_b 234) q.1 = .ok (q.2.1, q.2.2.1))) = true := by decide +kernel
theorem km_234 : j_Md 234 k_234 := ⟨by decide, fun q h => ⟨of_decide_eq_true (List.all_eq_true.mp kq_234 q h), kl_234 q h⟩⟩
/-- GrainclockLaw.left(LGrainclock;IIILGrainclockLaw$Out;)I -/
def k_235 : List j_I := [(0, .aload 4, 2, 2, 0, 0, []),
  (2, .aload_n 0, 1, 3, 0, 0, []),
  (3, .iload_n 1, 1, 4, 0, 0, []),
  (4, .iload_n 2, 1, 5, 0, 0, []),
  (5, .iload_n 3, 1, 6, 0, 0, []),
  (6, .invokevirtual 82, 3, 9, 113, 4, [8, 21, 0, 17]),
  (9, .i2l, 1, 10, 0, 0, []),
  (10, .putfield 13, 3, 13, 9, 0, []),
  (13, .goto 11, 3, 16, 0, 0, [24]),
  (16, .astore 5, 2, 18, 0, 0, []),
  (18, .iconst 1, 1, 19, 0, 0, []),
  (19, .ireturn, 1, 20, 0, 0, []),
  (20, .astore 5, 2, 22, 0, 0, []),
  (22, .iconst 2, 1, 23, 0, 0, []),
  (23, .ireturn, 1, 24, 0, 0, []),
  (24, .iconst 0, 1, 25, 0, 0, []),
  (25, .ireturn, 1, 26, 0, 0, [])]
def s_235 : List j_I := [(6, .invokevirtual 82, 3, 9, 113, 4, [8, 21, 0, 17]),
  (10, .putfield 13, 3, 13, 9, 0, [])]
theorem kl_235 : ∀ q ∈ k_235, j_lk (j_y 235).cls (j_y 235).name (j_b 235) (j_hh 235) q := j_lkall (sp := s_235) (Eq.refl s_235) (List.forall_mem_cons.mpr ⟨⟨⟨rfl, rfl⟩, Or.inl ⟨kv_113, tw_5_101, kn_113, (j_hl_mk (⟨[(0, 13, 16, 31)], (0, 13, 20, 19), [], rfl, rfl, ⟨Nat.le_of_ble_eq_true rfl, Nat.le_of_ble_eq_true rfl⟩, Nat.succ_ne_zero _, tw_2_91, List.forall_mem_cons.mpr ⟨⟨Nat.succ_ne_zero _, "java/lang/IndexOutOfBoundsException", tw_3_90, by decide⟩, fun _ h => (nomatch h)⟩⟩) trivial (⟨[], (0, 13, 16, 31), [(0, 13, 20, 19)], rfl, rfl, ⟨Nat.le_of_ble_eq_true rfl, Nat.le_of_ble_eq_true rfl⟩, Nat.succ_ne_zero _, tw_3_90, fun _ h => (nomatch h)⟩))⟩⟩,
  List.forall_mem_cons.mpr ⟨⟨⟨rfl, rfl⟩, ⟨_, "GrainclockLaw$Out", rfl, Nat.le_of_ble_eq_true rfl, Or.inr ⟨"GrainclockLaw", List.mem_of_getElem? (i := 2) rfl⟩, Or.inl rfl⟩, fun r hr hz => absurd hz (Option.some.inj hr ▸ Bool.false_ne_true)⟩,
  fun _ h => (nomatch h)⟩⟩)
theorem kq_235 : k_235.all (fun q => decide (decode (j_b 235) q.1 = .ok (q.2.1, q.2.2.1))) = true := by decide +kernel
theorem km_235 : j_Md 235 k_235 := ⟨by decide, fun q h => ⟨of_decide_eq_true (List.all_eq_true.mp kq_235 q h), kl_235 q h⟩⟩
/-- GrainclockLaw.narrowed(LGrainclock;IZLGrainclockLaw$Out;)I -/
def k_236 : List j_I := [(0, .aload_n 3, 1, 1, 0, 0, []),
  (1, .aload_n 0, 1, 2, 0, 0, []),
  (2, .iload_n 1, 1, 3, 0, 0, []),
  (3, .iload_n 2, 1, 4, 0, 0, []),
  (4, .invokevirtual 64, 3, 7, 118, 3, [8, 0, 0, 15]),
  (7, .i2l, 1, 8, 0, 0, []),
  (8, .putfield 13, 3, 11, 9, 0, []),
  (11, .goto 7, 3, 14, 0, 0, [18]),
  (14, .astore 4, 2, 16, 0, 0, []),
  (16, .iconst 1, 1, 17, 0, 0, []),
  (17, .ireturn, 1, 18, 0, 0, []),
  (18, .iconst 0, 1, 19, 0, 0, []),
  (19, .ireturn, 1, 20, 0, 0, [])]
def s_236 : List j_I := [(4, .invokevirtual 64, 3, 7, 118, 3, [8, 0, 0, 15]),
  (8, .putfield 13, 3, 11, 9, 0, [])]
theorem kl_236 : ∀ q ∈ k_236, j_lk (j_y 236).cls (j_y 236).name (j_b 236) (j_hh 236) q := j_lkall (sp := s_236) (Eq.refl s_236) (List.forall_mem_cons.mpr ⟨⟨⟨rfl, rfl⟩, Or.inl ⟨kv_118, tw_4_64, kn_118, (j_hl_mk trivial trivial (⟨[], (0, 11, 14, 31), [], rfl, rfl, ⟨Nat.le_of_ble_eq_true rfl, Nat.le_of_ble_eq_true rfl⟩, Nat.succ_ne_zero _, tw_3_90, fun _ h => (nomatch h)⟩))⟩⟩,
  List.forall_mem_cons.mpr ⟨⟨⟨rfl, rfl⟩, ⟨_, "GrainclockLaw$Out", rfl, Nat.le_of_ble_eq_true rfl, Or.inr ⟨"GrainclockLaw", List.mem_of_getElem? (i := 2) rfl⟩, Or.inl rfl⟩, fun r hr hz => absurd hz (Option.some.inj hr ▸ Bool.false_ne_true)⟩,
  fun _ h => (nomatch h)⟩⟩)
theorem kq_236 : k_236.all (fun q => decide (decode (j_b 236) q.1 = .ok (q.2.1, q.2.2.1))) = true := by decide +kernel
theorem km_236 : j_Md 236 k_236 := ⟨by decide, fun q h => ⟨of_decide_eq_true (List.all_eq_true.mp kq_236 q h), kl_236 q h⟩⟩
/-- GrainclockLaw.ofGrain(LGrainclock;IILGrainclockLaw$Out;)I -/
def k_237 : List j_I := [(0, .aload_n 3, 1, 1, 0, 0, []),
  (1, .aload_n 0, 1, 2, 0, 0, []),
  (2, .iload_n 1, 1, 3, 0, 0, []),
  (3, .iload_n 2, 1, 4, 0, 0, []),
  (4, .invokevirtual 55, 3, 7, 122, 3, [8, 19, 0, 15]),
  (7, .i2l, 1, 8, 0, 0, []),
  (8, .putfield 13, 3, 11, 9, 0, []),
  (11, .goto 11, 3, 14, 0, 0, [22]),
  (14, .astore 4, 2, 16, 0, 0, []),
  (16, .iconst 1, 1, 17, 0, 0, []),
  (17, .ireturn, 1, 18, 0, 0, []),
  (18, .astore 4, 2, 20, 0, 0, []),
  (20, .iconst 2, 1, 21, 0, 0, []),
  (21, .ireturn, 1, 22, 0, 0, []),
  (22, .iconst 0, 1, 23, 0, 0, []),
  (23, .ireturn, 1, 24, 0, 0, [])]
def s_237 : List j_I := [(4, .invokevirtual 55, 3, 7, 122, 3, [8, 19, 0, 15]),
  (8, .putfield 13, 3, 11, 9, 0, [])]
theorem kl_237 : ∀ q ∈ k_237, j_lk (j_y 237).cls (j_y 237).name (j_b 237) (j_hh 237) q := j_lkall (sp := s_237) (Eq.refl s_237) (List.forall_mem_cons.mpr ⟨⟨⟨rfl, rfl⟩, Or.inl ⟨kv_122, tw_4_42, kn_122, (j_hl_mk (⟨[(0, 11, 14, 31)], (0, 11, 18, 19), [], rfl, rfl, ⟨Nat.le_of_ble_eq_true rfl, Nat.le_of_ble_eq_true rfl⟩, Nat.succ_ne_zero _, tw_2_91, List.forall_mem_cons.mpr ⟨⟨Nat.succ_ne_zero _, "java/lang/IndexOutOfBoundsException", tw_3_90, by decide⟩, fun _ h => (nomatch h)⟩⟩) trivial (⟨[], (0, 11, 14, 31), [(0, 11, 18, 19)], rfl, rfl, ⟨Nat.le_of_ble_eq_true rfl, Nat.le_of_ble_eq_true rfl⟩, Nat.succ_ne_zero _, tw_3_90, fun _ h => (nomatch h)⟩))⟩⟩,
  List.forall_mem_cons.mpr ⟨⟨⟨rfl, rfl⟩, ⟨_, "GrainclockLaw$Out", rfl, Nat.le_of_ble_eq_true rfl, Or.inr ⟨"GrainclockLaw", List.mem_of_getElem? (i := 2) rfl⟩, Or.inl rfl⟩, fun r hr hz => absurd hz (Option.some.inj hr ▸ Bool.false_ne_true)⟩,
  fun _ h => (nomatch h)⟩⟩)
theorem kq_237 : k_237.all (fun q => decide (decode (j_b 237) q.1 = .ok (q.2.1, q.2.2.1))) = true := by decide +kernel
theorem km_237 : j_Md 237 k_237 := ⟨by decide, fun q h => ⟨of_decide_eq_true (List.all_eq_true.mp kq_237 q h), kl_237 q h⟩⟩
/-- GrainclockLaw.ofPrint(LGrainclock;IILGrainclockLaw$Out;)I -/
def k_238 : List j_I := [(0, .aload_n 3, 1, 1, 0, 0, []),
  (1, .aload_n 0, 1, 2, 0, 0, []),
  (2, .iload_n 1, 1, 3, 0, 0, []),
  (3, .iload_n 2, 1, 4, 0, 0, []),
  (4, .invokevirtual 68, 3, 7, 123, 3, [8, 19, 0, 15]),
  (7, .i2l, 1, 8, 0, 0, []),
  (8, .putfield 13, 3, 11, 9, 0, []),
  (11, .goto 11, 3, 14, 0, 0, [22]),
  (14, .astore 4, 2, 16, 0, 0, []),
  (16, .iconst 1, 1, 17, 0, 0, []),
  (17, .ireturn, 1, 18, 0, 0, []),
  (18, .astore 4, 2, 20, 0, 0, []),
  (20, .iconst 2, 1, 21, 0, 0, []),
  (21, .ireturn, 1, 22, 0, 0, []),
  (22, .iconst 0, 1, 23, 0, 0, []),
  (23, .ireturn, 1, 24, 0, 0, [])]
def s_238 : List j_I := [(4, .invokevirtual 68, 3, 7, 123, 3, [8, 19, 0, 15]),
  (8, .putfield 13, 3, 11, 9, 0, [])]
theorem kl_238 : ∀ q ∈ k_238, j_lk (j_y 238).cls (j_y 238).name (j_b 238) (j_hh 238) q := j_lkall (sp := s_238) (Eq.refl s_238) (List.forall_mem_cons.mpr ⟨⟨⟨rfl, rfl⟩, Or.inl ⟨kv_123, tw_4_71, kn_123, (j_hl_mk (⟨[(0, 11, 14, 31)], (0, 11, 18, 19), [], rfl, rfl, ⟨Nat.le_of_ble_eq_true rfl, Nat.le_of_ble_eq_true rfl⟩, Nat.succ_ne_zero _, tw_2_91, List.forall_mem_cons.mpr ⟨⟨Nat.succ_ne_zero _, "java/lang/IndexOutOfBoundsException", tw_3_90, by decide⟩, fun _ h => (nomatch h)⟩⟩) trivial (⟨[], (0, 11, 14, 31), [(0, 11, 18, 19)], rfl, rfl, ⟨Nat.le_of_ble_eq_true rfl, Nat.le_of_ble_eq_true rfl⟩, Nat.succ_ne_zero _, tw_3_90, fun _ h => (nomatch h)⟩))⟩⟩,
  List.forall_mem_cons.mpr ⟨⟨⟨rfl, rfl⟩, ⟨_, "GrainclockLaw$Out", rfl, Nat.le_of_ble_eq_true rfl, Or.inr ⟨"GrainclockLaw", List.mem_of_getElem? (i := 2) rfl⟩, Or.inl rfl⟩, fun r hr hz => absurd hz (Option.some.inj hr ▸ Bool.false_ne_true)⟩,
  fun _ h => (nomatch h)⟩⟩)
theorem kq_238 : k_238.all (fun q => decide (decode (j_b 238) q.1 = .ok (q.2.1, q.2.2.1))) = true := by decide +kernel
theorem km_238 : j_Md 238 k_238 := ⟨by decide, fun q h => ⟨of_decide_eq_true (List.all_eq_true.mp kq_238 q h), kl_238 q h⟩⟩
/-- GrainclockLaw.ofRun(LGrainclock;IILGrainclockLaw$Out;)I -/
def k_239 : List j_I := [(0, .aload_n 3, 1, 1, 0, 0, []),
  (1, .aload_n 0, 1, 2, 0, 0, []),
  (2, .iload_n 1, 1, 3, 0, 0, []),
  (3, .iload_n 2, 1, 4, 0, 0, []),
  (4, .invokevirtual 58, 3, 7, 124, 3, [8, 19, 0, 15]),
  (7, .i2l, 1, 8, 0, 0, []),
  (8, .putfield 13, 3, 11, 9, 0, []),
  (11, .goto 11, 3, 14, 0, 0, [22]),
  (14, .astore 4, 2, 16, 0, 0, []),
  (16, .iconst 1, 1, 17, 0, 0, []),
  (17, .ireturn, 1, 18, 0, 0, []),
  (18, .astore 4, 2, 20, 0, 0, []),
  (20, .iconst 2, 1, 21, 0, 0, []),
  (21, .ireturn, 1, 22, 0, 0, []),
  (22, .iconst 0, 1, 23, 0, 0, []),
  (23, .ireturn, 1, 24, 0, 0, [])]
def s_239 : List j_I := [(4, .invokevirtual 58, 3, 7, 124, 3, [8, 19, 0, 15]),
  (8, .putfield 13, 3, 11, 9, 0, [])]
theorem kl_239 : ∀ q ∈ k_239, j_lk (j_y 239).cls (j_y 239).name (j_b 239) (j_hh 239) q := j_lkall (sp := s_239) (Eq.refl s_239) (List.forall_mem_cons.mpr ⟨⟨⟨rfl, rfl⟩, Or.inl ⟨kv_124, tw_4_50, kn_124, (j_hl_mk (⟨[(0, 11, 14, 31)], (0, 11, 18, 19), [], rfl, rfl, ⟨Nat.le_of_ble_eq_true rfl, Nat.le_of_ble_eq_true rfl⟩, Nat.succ_ne_zero _, tw_2_91, List.forall_mem_cons.mpr ⟨⟨Nat.succ_ne_zero _, "java/lang/IndexOutOfBoundsException", tw_3_90, by decide⟩, fun _ h => (nomatch h)⟩⟩) trivial (⟨[], (0, 11, 14, 31), [(0, 11, 18, 19)], rfl, rfl, ⟨Nat.le_of_ble_eq_true rfl, Nat.le_of_ble_eq_true rfl⟩, Nat.succ_ne_zero _, tw_3_90, fun _ h => (nomatch h)⟩))⟩⟩,
  List.forall_mem_cons.mpr ⟨⟨⟨rfl, rfl⟩, ⟨_, "GrainclockLaw$Out", rfl, Nat.le_of_ble_eq_true rfl, Or.inr ⟨"GrainclockLaw", List.mem_of_getElem? (i := 2) rfl⟩, Or.inl rfl⟩, fun r hr hz => absurd hz (Option.some.inj hr ▸ Bool.false_ne_true)⟩,
  fun _ h => (nomatch h)⟩⟩)
theorem kq_239 : k_239.all (fun q => decide (decode (j_b 239) q.1 = .ok (q.2.1, q.2.2.1))) = true := by decide +kernel
theorem km_239 : j_Md 239 k_239 := ⟨by decide, fun q h => ⟨of_decide_eq_true (List.all_eq_true.mp kq_239 q h), kl_239 q h⟩⟩
/-- GrainclockLaw.pace(LGrainclock;IILGrainclockLaw$Out;)I -/
def k_240 : List j_I := [(0, .aload_n 3, 1, 1, 0, 0, []),
  (1, .aload_n 0, 1, 2, 0, 0, []),
  (2, .iload_n 1, 1, 3, 0, 0, []),
  (3, .iload_n 2, 1, 4, 0, 0, []),
  (4, .invokevirtual 36, 3, 7, 127, 3, [8, 19, 0, 15]),
  (7, .i2l, 1, 8, 0, 0, []),
  (8, .putfield 13, 3, 11, 9, 0, []),
  (11, .goto 11, 3, 14, 0, 0, [22]),
  (14, .astore 4, 2, 16, 0, 0, []),
  (16, .iconst 1, 1, 17, 0, 0, []),
  (17, .ireturn, 1, 18, 0, 0, []),
  (18, .astore 4, 2, 20, 0, 0, []),
  (20, .iconst 2, 1, 21, 0, 0, []),
  (21, .ireturn, 1, 22, 0, 0, []),
  (22, .iconst 0, 1, 23, 0, 0, []),
  (23, .ireturn, 1, 24, 0, 0, [])]
def s_240 : List j_I := [(4, .invokevirtual 36, 3, 7, 127, 3, [8, 19, 0, 15]),
  (8, .putfield 13, 3, 11, 9, 0, [])]
theorem kl_240 : ∀ q ∈ k_240, j_lk (j_y 240).cls (j_y 240).name (j_b 240) (j_hh 240) q := j_lkall (sp := s_240) (Eq.refl s_240) (List.forall_mem_cons.mpr ⟨⟨⟨rfl, rfl⟩, Or.inl ⟨kv_127, tw_3_134, kn_127, (j_hl_mk (⟨[(0, 11, 14, 31)], (0, 11, 18, 19), [], rfl, rfl, ⟨Nat.le_of_ble_eq_true rfl, Nat.le_of_ble_eq_true rfl⟩, Nat.succ_ne_zero _, tw_2_91, List.forall_mem_cons.mpr ⟨⟨Nat.succ_ne_zero _, "java/lang/IndexOutOfBoundsException", tw_3_90, by decide⟩, fun _ h => (nomatch h)⟩⟩) trivial (⟨[], (0, 11, 14, 31), [(0, 11, 18, 19)], rfl, rfl, ⟨Nat.le_of_ble_eq_true rfl, Nat.le_of_ble_eq_true rfl⟩, Nat.succ_ne_zero _, tw_3_90, fun _ h => (nomatch h)⟩))⟩⟩,
  List.forall_mem_cons.mpr ⟨⟨⟨rfl, rfl⟩, ⟨_, "GrainclockLaw$Out", rfl, Nat.le_of_ble_eq_true rfl, Or.inr ⟨"GrainclockLaw", List.mem_of_getElem? (i := 2) rfl⟩, Or.inl rfl⟩, fun r hr hz => absurd hz (Option.some.inj hr ▸ Bool.false_ne_true)⟩,
  fun _ h => (nomatch h)⟩⟩)
theorem kq_240 : k_240.all (fun q => decide (decode (j_b 240) q.1 = .ok (q.2.1, q.2.2.1))) = true := by decide +kernel
theorem km_240 : j_Md 240 k_240 := ⟨by decide, fun q h => ⟨of_decide_eq_true (List.all_eq_true.mp kq_240 q h), kl_240 q h⟩⟩
/-- GrainclockLaw.pass(LGrainclock;ILGrainclockLaw$Out;)I -/
def k_241 : List j_I := [(0, .aload_n 2, 1, 1, 0, 0, []),
  (1, .aload_n 0, 1, 2, 0, 0, []),
  (2, .iload_n 1, 1, 3, 0, 0, []),
  (3, .invokevirtual 23, 3, 6, 129, 2, [8, 14, 17, 0]),
  (6, .i2l, 1, 7, 0, 0, []),
  (7, .putfield 13, 3, 10, 9, 0, []),
  (10, .goto 9, 3, 13, 0, 0, [19]),
  (13, .astore_n 3, 1, 14, 0, 0, []),
  (14, .iconst 1, 1, 15, 0, 0, []),
  (15, .ireturn, 1, 16, 0, 0, []),
  (16, .astore_n 3, 1, 17, 0, 0, []),
  (17, .iconst 2, 1, 18, 0, 0, []),
  (18, .ireturn, 1, 19, 0, 0, []),
  (19, .iconst 0, 1, 20, 0, 0, []),
  (20, .ireturn, 1, 21, 0, 0, [])]
def s_241 : List j_I := [(3, .invokevirtual 23, 3, 6, 129, 2, [8, 14, 17, 0]),
  (7, .putfield 13, 3, 10, 9, 0, [])]
theorem kl_241 : ∀ q ∈ k_241, j_lk (j_y 241).cls (j_y 241).name (j_b 241) (j_hh 241) q := j_lkall (sp := s_241) (Eq.refl s_241) (List.forall_mem_cons.mpr ⟨⟨⟨rfl, rfl⟩, Or.inl ⟨kv_129, tw_3_71, kn_129, (j_hl_mk (⟨[], (0, 10, 13, 19), [(0, 10, 16, 21)], rfl, rfl, ⟨Nat.le_of_ble_eq_true rfl, Nat.le_of_ble_eq_true rfl⟩, Nat.succ_ne_zero _, tw_2_91, fun _ h => (nomatch h)⟩) (⟨[(0, 10, 13, 19)], (0, 10, 16, 21), [], rfl, rfl, ⟨Nat.le_of_ble_eq_true rfl, Nat.le_of_ble_eq_true rfl⟩, Nat.succ_ne_zero _, tw_2_92, List.forall_mem_cons.mpr ⟨⟨Nat.succ_ne_zero _, "java/lang/IllegalArgumentException", tw_2_91, by decide⟩, fun _ h => (nomatch h)⟩⟩) trivial)⟩⟩,
  List.forall_mem_cons.mpr ⟨⟨⟨rfl, rfl⟩, ⟨_, "GrainclockLaw$Out", rfl, Nat.le_of_ble_eq_true rfl, Or.inr ⟨"GrainclockLaw", List.mem_of_getElem? (i := 2) rfl⟩, Or.inl rfl⟩, fun r hr hz => absurd hz (Option.some.inj hr ▸ Bool.false_ne_true)⟩,
  fun _ h => (nomatch h)⟩⟩)
theorem kq_241 : k_241.all (fun q => decide (decode (j_b 241) q.1 = .ok (q.2.1, q.2.2.1))) = true := by decide +kernel
theorem km_241 : j_Md 241 k_241 := ⟨by decide, fun q h => ⟨of_decide_eq_true (List.all_eq_true.mp kq_241 q h), kl_241 q h⟩⟩
/-- GrainclockLaw.print(LGrainclock;IILGrainclockLaw$Out;)I -/
def k_242 : List j_I := [(0, .aload_n 3, 1, 1, 0, 0, []),
  (1, .aload_n 0, 1, 2, 0, 0, []),
  (2, .iload_n 1, 1, 3, 0, 0, []),
  (3, .iload_n 2, 1, 4, 0, 0, []),
  (4, .invokevirtual 52, 3, 7, 130, 3, [8, 0, 19, 15]),
  (7, .i2l, 1, 8, 0, 0, []),
  (8, .putfield 13, 3, 11, 9, 0, []),
  (11, .goto 11, 3, 14, 0, 0, [22]),
  (14, .astore 4, 2, 16, 0, 0, []),
  (16, .iconst 1, 1, 17, 0, 0, []),
  (17, .ireturn, 1, 18, 0, 0, []),
  (18, .astore 4, 2, 20, 0, 0, []),
  (20, .iconst 2, 1, 21, 0, 0, []),
  (21, .ireturn, 1, 22, 0, 0, []),
  (22, .iconst 0, 1, 23, 0, 0, []),
  (23, .ireturn, 1, 24, 0, 0, [])]
def s_242 : List j_I := [(4, .invokevirtual 52, 3, 7, 130, 3, [8, 0, 19, 15]),
  (8, .putfield 13, 3, 11, 9, 0, [])]
theorem kl_242 : ∀ q ∈ k_242, j_lk (j_y 242).cls (j_y 242).name (j_b 242) (j_hh 242) q := j_lkall (sp := s_242) (Eq.refl s_242) (List.forall_mem_cons.mpr ⟨⟨⟨rfl, rfl⟩, Or.inl ⟨kv_130, tw_4_7, kn_130, (j_hl_mk trivial (⟨[(0, 11, 14, 31)], (0, 11, 18, 21), [], rfl, rfl, ⟨Nat.le_of_ble_eq_true rfl, Nat.le_of_ble_eq_true rfl⟩, Nat.succ_ne_zero _, tw_2_92, List.forall_mem_cons.mpr ⟨⟨Nat.succ_ne_zero _, "java/lang/IndexOutOfBoundsException", tw_3_90, by decide⟩, fun _ h => (nomatch h)⟩⟩) (⟨[], (0, 11, 14, 31), [(0, 11, 18, 21)], rfl, rfl, ⟨Nat.le_of_ble_eq_true rfl, Nat.le_of_ble_eq_true rfl⟩, Nat.succ_ne_zero _, tw_3_90, fun _ h => (nomatch h)⟩))⟩⟩,
  List.forall_mem_cons.mpr ⟨⟨⟨rfl, rfl⟩, ⟨_, "GrainclockLaw$Out", rfl, Nat.le_of_ble_eq_true rfl, Or.inr ⟨"GrainclockLaw", List.mem_of_getElem? (i := 2) rfl⟩, Or.inl rfl⟩, fun r hr hz => absurd hz (Option.some.inj hr ▸ Bool.false_ne_true)⟩,
  fun _ h => (nomatch h)⟩⟩)
theorem kq_242 : k_242.all (fun q => decide (decode (j_b 242) q.1 = .ok (q.2.1, q.2.2.1))) = true := by decide +kernel
theorem km_242 : j_Md 242 k_242 := ⟨by decide, fun q h => ⟨of_decide_eq_true (List.all_eq_true.mp kq_242 q h), kl_242 q h⟩⟩
/-- GrainclockLaw.run(LGrainclock;IIIILGrainclockLaw$Out;)I -/
def k_243 : List j_I := [(0, .aload 5, 2, 2, 0, 0, []),
  (2, .aload_n 0, 1, 3, 0, 0, []),
  (3, .iload_n 1, 1, 4, 0, 0, []),
  (4, .iload_n 2, 1, 5, 0, 0, []),
  (5, .iload_n 3, 1, 6, 0, 0, []),
  (6, .iload 4, 2, 8, 0, 0, []),
  (8, .invokevirtual 42, 3, 11, 133, 5, [8, 23, 27, 19]),
  (11, .i2l, 1, 12, 0, 0, []),
  (12, .putfield 13, 3, 15, 9, 0, []),
  (15, .goto 15, 3, 18, 0, 0, [30]),
  (18, .astore 6, 2, 20, 0, 0, []),
  (20, .iconst 1, 1, 21, 0, 0, []),
  (21, .ireturn, 1, 22, 0, 0, []),
  (22, .astore 6, 2, 24, 0, 0, []),
  (24, .iconst 2, 1, 25, 0, 0, []),
  (25, .ireturn, 1, 26, 0, 0, []),
  (26, .astore 6, 2, 28, 0, 0, []),
  (28, .iconst 3, 1, 29, 0, 0, []),
  (29, .ireturn, 1, 30, 0, 0, []),
  (30, .iconst 0, 1, 31, 0, 0, []),
  (31, .ireturn, 1, 32, 0, 0, [])]
def s_243 : List j_I := [(8, .invokevirtual 42, 3, 11, 133, 5, [8, 23, 27, 19]),
  (12, .putfield 13, 3, 15, 9, 0, [])]
theorem kl_243 : ∀ q ∈ k_243, j_lk (j_y 243).cls (j_y 243).name (j_b 243) (j_hh 243) q := j_lkall (sp := s_243) (Eq.refl s_243) (List.forall_mem_cons.mpr ⟨⟨⟨rfl, rfl⟩, Or.inl ⟨kv_133, tw_3_165, kn_133, (j_hl_mk (⟨[(0, 15, 18, 31)], (0, 15, 22, 19), [(0, 15, 26, 21)], rfl, rfl, ⟨Nat.le_of_ble_eq_true rfl, Nat.le_of_ble_eq_true rfl⟩, Nat.succ_ne_zero _, tw_2_91, List.forall_mem_cons.mpr ⟨⟨Nat.succ_ne_zero _, "java/lang/IndexOutOfBoundsException", tw_3_90, by decide⟩, fun _ h => (nomatch h)⟩⟩) (⟨[(0, 15, 18, 31), (0, 15, 22, 19)], (0, 15, 26, 21), [], rfl, rfl, ⟨Nat.le_of_ble_eq_true rfl, Nat.le_of_ble_eq_true rfl⟩, Nat.succ_ne_zero _, tw_2_92, List.forall_mem_cons.mpr ⟨⟨Nat.succ_ne_zero _, "java/lang/IndexOutOfBoundsException", tw_3_90, by decide⟩, List.forall_mem_cons.mpr ⟨⟨Nat.succ_ne_zero _, "java/lang/IllegalArgumentException", tw_2_91, by decide⟩, fun _ h => (nomatch h)⟩⟩⟩) (⟨[], (0, 15, 18, 31), [(0, 15, 22, 19), (0, 15, 26, 21)], rfl, rfl, ⟨Nat.le_of_ble_eq_true rfl, Nat.le_of_ble_eq_true rfl⟩, Nat.succ_ne_zero _, tw_3_90, fun _ h => (nomatch h)⟩))⟩⟩,
  List.forall_mem_cons.mpr ⟨⟨⟨rfl, rfl⟩, ⟨_, "GrainclockLaw$Out", rfl, Nat.le_of_ble_eq_true rfl, Or.inr ⟨"GrainclockLaw", List.mem_of_getElem? (i := 2) rfl⟩, Or.inl rfl⟩, fun r hr hz => absurd hz (Option.some.inj hr ▸ Bool.false_ne_true)⟩,
  fun _ h => (nomatch h)⟩⟩)
theorem kq_243 : k_243.all (fun q => decide (decode (j_b 243) q.1 = .ok (q.2.1, q.2.2.1))) = true := by decide +kernel
theorem km_243 : j_Md 243 k_243 := ⟨by decide, fun q h => ⟨of_decide_eq_true (List.all_eq_true.mp kq_243 q h), kl_243 q h⟩⟩
/-- GrainclockLaw.slip(LGrainclock;ILGrainclockLaw$Out;)I -/
def k_244 : List j_I := [(0, .aload_n 2, 1, 1, 0, 0, []),
  (1, .aload_n 0, 1, 2, 0, 0, []),
  (2, .iload_n 1, 1, 3, 0, 0, []),
  (3, .invokevirtual 39, 3, 6, 136, 2, [8, 14, 0, 0]),
  (6, .i2l, 1, 7, 0, 0, []),
  (7, .putfield 13, 3, 10, 9, 0, []),
  (10, .goto 6, 3, 13, 0, 0, [16]),
  (13, .astore_n 3, 1, 14, 0, 0, []),
  (14, .iconst 1, 1, 15, 0, 0, []),
  (15, .ireturn, 1, 16, 0, 0, []),
  (16, .iconst 0, 1, 17, 0, 0, []),
  (17, .ireturn, 1, 18, 0, 0, [])]
def s_244 : List j_I := [(3, .invokevirtual 39, 3, 6, 136, 2, [8, 14, 0, 0]),
  (7, .putfield 13, 3, 10, 9, 0, [])]
theorem kl_244 : ∀ q ∈ k_244, j_lk (j_y 244).cls (j_y 244).name (j_b 244) (j_hh 244) q := j_lkall (sp := s_244) (Eq.refl s_244) (List.forall_mem_cons.mpr ⟨⟨⟨rfl, rfl⟩, Or.inl ⟨kv_136, tw_3_157, kn_136, (j_hl_mk (⟨[], (0, 10, 13, 19), [], rfl, rfl, ⟨Nat.le_of_ble_eq_true rfl, Nat.le_of_ble_eq_true rfl⟩, Nat.succ_ne_zero _, tw_2_91, fun _ h => (nomatch h)⟩) trivial trivial)⟩⟩,
  List.forall_mem_cons.mpr ⟨⟨⟨rfl, rfl⟩, ⟨_, "GrainclockLaw$Out", rfl, Nat.le_of_ble_eq_true rfl, Or.inr ⟨"GrainclockLaw", List.mem_of_getElem? (i := 2) rfl⟩, Or.inl rfl⟩, fun r hr hz => absurd hz (Option.some.inj hr ▸ Bool.false_ne_true)⟩,
  fun _ h => (nomatch h)⟩⟩)
theorem kq_244 : k_244.all (fun q => decide (decode (j_b 244) q.1 = .ok (q.2.1, q.2.2.1))) = true := by decide +kernel
theorem km_244 : j_Md 244 k_244 := ⟨by decide, fun q h => ⟨of_decide_eq_true (List.all_eq_true.mp kq_244 q h), kl_244 q h⟩⟩
/-- GrainclockLaw.span(LGrainclock;IIILGrainclockLaw$Out;)I -/
def k_245 : List j_I := [(0, .aload 4, 2, 2, 0, 0, []),
  (2, .aload_n 0, 1, 3, 0, 0, []),
  (3, .iload_n 1, 1, 4, 0, 0, []),
  (4, .iload_n 2, 1, 5, 0, 0, []),
  (5, .iload_n 3, 1, 6, 0, 0, []),
  (6, .invokevirtual 61, 3, 9, 137, 4, [8, 21, 0, 17]),
  (9, .i2l, 1, 10, 0, 0, []),
  (10, .putfield 13, 3, 13, 9, 0, []),
  (13, .goto 11, 3, 16, 0, 0, [24]),
  (16, .astore 5, 2, 18, 0, 0, []),
  (18, .iconst 1, 1, 19, 0, 0, []),
  (19, .ireturn, 1, 20, 0, 0, []),
  (20, .astore 5, 2, 22, 0, 0, []),
  (22, .iconst 2, 1, 23, 0, 0, []),
  (23, .ireturn, 1, 24, 0, 0, []),
  (24, .iconst 0, 1, 25, 0, 0, []),
  (25, .ireturn, 1, 26, 0, 0, [])]
def s_245 : List j_I := [(6, .invokevirtual 61, 3, 9, 137, 4, [8, 21, 0, 17]),
  (10, .putfield 13, 3, 13, 9, 0, [])]
theorem kl_245 : ∀ q ∈ k_245, j_lk (j_y 245).cls (j_y 245).name (j_b 245) (j_hh 245) q := j_lkall (sp := s_245) (Eq.refl s_245) (List.forall_mem_cons.mpr ⟨⟨⟨rfl, rfl⟩, Or.inl ⟨kv_137, tw_4_57, kn_137, (j_hl_mk (⟨[(0, 13, 16, 31)], (0, 13, 20, 19), [], rfl, rfl, ⟨Nat.le_of_ble_eq_true rfl, Nat.le_of_ble_eq_true rfl⟩, Nat.succ_ne_zero _, tw_2_91, List.forall_mem_cons.mpr ⟨⟨Nat.succ_ne_zero _, "java/lang/IndexOutOfBoundsException", tw_3_90, by decide⟩, fun _ h => (nomatch h)⟩⟩) trivial (⟨[], (0, 13, 16, 31), [(0, 13, 20, 19)], rfl, rfl, ⟨Nat.le_of_ble_eq_true rfl, Nat.le_of_ble_eq_true rfl⟩, Nat.succ_ne_zero _, tw_3_90, fun _ h => (nomatch h)⟩))⟩⟩,
  List.forall_mem_cons.mpr ⟨⟨⟨rfl, rfl⟩, ⟨_, "GrainclockLaw$Out", rfl, Nat.le_of_ble_eq_true rfl, Or.inr ⟨"GrainclockLaw", List.mem_of_getElem? (i := 2) rfl⟩, Or.inl rfl⟩, fun r hr hz => absurd hz (Option.some.inj hr ▸ Bool.false_ne_true)⟩,
  fun _ h => (nomatch h)⟩⟩)
theorem kq_245 : k_245.all (fun q => decide (decode (j_b 245) q.1 = .ok (q.2.1, q.2.2.1))) = true := by decide +kernel
theorem km_245 : j_Md 245 k_245 := ⟨by decide, fun q h => ⟨of_decide_eq_true (List.all_eq_true.mp kq_245 q h), kl_245 q h⟩⟩
/-- GrainclockLaw.swap(LGrainclock;IILGrainclockLaw$Out;)I -/
def k_246 : List j_I := [(0, .aload_n 3, 1, 1, 0, 0, []),
  (1, .aload_n 0, 1, 2, 0, 0, []),
  (2, .iload_n 1, 1, 3, 0, 0, []),
  (3, .iload_n 2, 1, 4, 0, 0, []),
  (4, .invokevirtual 49, 3, 7, 138, 3, [8, 19, 0, 15]),
  (7, .i2l, 1, 8, 0, 0, []),
  (8, .putfield 13, 3, 11, 9, 0, []),
  (11, .goto 11, 3, 14, 0, 0, [22]),
  (14, .astore 4, 2, 16, 0, 0, []),
  (16, .iconst 1, 1, 17, 0, 0, []),
  (17, .ireturn, 1, 18, 0, 0, []),
  (18, .astore 4, 2, 20, 0, 0, []),
  (20, .iconst 2, 1, 21, 0, 0, []),
  (21, .ireturn, 1, 22, 0, 0, []),
  (22, .iconst 0, 1, 23, 0, 0, []),
  (23, .ireturn, 1, 24, 0, 0, [])]
def s_246 : List j_I := [(4, .invokevirtual 49, 3, 7, 138, 3, [8, 19, 0, 15]),
  (8, .putfield 13, 3, 11, 9, 0, [])]
theorem kl_246 : ∀ q ∈ k_246, j_lk (j_y 246).cls (j_y 246).name (j_b 246) (j_hh 246) q := j_lkall (sp := s_246) (Eq.refl s_246) (List.forall_mem_cons.mpr ⟨⟨⟨rfl, rfl⟩, Or.inl ⟨kv_138, tw_3_239, kn_138, (j_hl_mk (⟨[(0, 11, 14, 31)], (0, 11, 18, 19), [], rfl, rfl, ⟨Nat.le_of_ble_eq_true rfl, Nat.le_of_ble_eq_true rfl⟩, Nat.succ_ne_zero _, tw_2_91, List.forall_mem_cons.mpr ⟨⟨Nat.succ_ne_zero _, "java/lang/IndexOutOfBoundsException", tw_3_90, by decide⟩, fun _ h => (nomatch h)⟩⟩) trivial (⟨[], (0, 11, 14, 31), [(0, 11, 18, 19)], rfl, rfl, ⟨Nat.le_of_ble_eq_true rfl, Nat.le_of_ble_eq_true rfl⟩, Nat.succ_ne_zero _, tw_3_90, fun _ h => (nomatch h)⟩))⟩⟩,
  List.forall_mem_cons.mpr ⟨⟨⟨rfl, rfl⟩, ⟨_, "GrainclockLaw$Out", rfl, Nat.le_of_ble_eq_true rfl, Or.inr ⟨"GrainclockLaw", List.mem_of_getElem? (i := 2) rfl⟩, Or.inl rfl⟩, fun r hr hz => absurd hz (Option.some.inj hr ▸ Bool.false_ne_true)⟩,
  fun _ h => (nomatch h)⟩⟩)
theorem kq_246 : k_246.all (fun q => decide (decode (j_b 246) q.1 = .ok (q.2.1, q.2.2.1))) = true := by decide +kernel
theorem km_246 : j_Md 246 k_246 := ⟨by decide, fun q h => ⟨of_decide_eq_true (List.all_eq_true.mp kq_246 q h), kl_246 q h⟩⟩
/-- GrainclockLaw.text(LGrainclock;ILGrainclockLaw$Out;)I -/
def k_247 : List j_I := [(0, .aload_n 2, 1, 1, 0, 0, []),
  (1, .aload_n 0, 1, 2, 0, 0, []),
  (2, .iload_n 1, 1, 3, 0, 0, []),
  (3, .invokevirtual 74, 3, 6, 139, 2, [8, 0, 0, 13]),
  (6, .putfield 78, 3, 9, 9, 1, []),
  (9, .goto 6, 3, 12, 0, 0, [15]),
  (12, .astore_n 3, 1, 13, 0, 0, []),
  (13, .iconst 1, 1, 14, 0, 0, []),
  (14, .ireturn, 1, 15, 0, 0, []),
  (15, .iconst 0, 1, 16, 0, 0, []),
  (16, .ireturn, 1, 17, 0, 0, [])]
def s_247 : List j_I := [(3, .invokevirtual 74, 3, 6, 139, 2, [8, 0, 0, 13]),
  (6, .putfield 78, 3, 9, 9, 1, [])]
theorem kl_247 : ∀ q ∈ k_247, j_lk (j_y 247).cls (j_y 247).name (j_b 247) (j_hh 247) q := j_lkall (sp := s_247) (Eq.refl s_247) (List.forall_mem_cons.mpr ⟨⟨⟨rfl, rfl⟩, Or.inl ⟨kv_139, tw_4_86, kn_139, (j_hl_mk trivial trivial (⟨[], (0, 9, 12, 31), [], rfl, rfl, ⟨Nat.le_of_ble_eq_true rfl, Nat.le_of_ble_eq_true rfl⟩, Nat.succ_ne_zero _, tw_3_90, fun _ h => (nomatch h)⟩))⟩⟩,
  List.forall_mem_cons.mpr ⟨⟨⟨rfl, rfl⟩, ⟨_, "GrainclockLaw$Out", rfl, Nat.le_of_ble_eq_true rfl, Or.inr ⟨"GrainclockLaw", List.mem_of_getElem? (i := 3) rfl⟩, Or.inl rfl⟩, fun r hr hz => absurd hz (Option.some.inj hr ▸ Bool.false_ne_true)⟩,
  fun _ h => (nomatch h)⟩⟩)
theorem kq_247 : k_247.all (fun q => decide (decode (j_b 247) q.1 = .ok (q.2.1, q.2.2.1))) = true := by decide +kernel
theorem km_247 : j_Md 247 k_247 := ⟨by decide, fun q h => ⟨of_decide_eq_true (List.all_eq_true.mp kq_247 q h), kl_247 q h⟩⟩
/-- GrainclockLaw.wash(LGrainclock;IILGrainclockLaw$Out;)I -/
def k_248 : List j_I := [(0, .aload_n 3, 1, 1, 0, 0, []),
  (1, .aload_n 0, 1, 2, 0, 0, []),
  (2, .iload_n 1, 1, 3, 0, 0, []),
  (3, .iload_n 2, 1, 4, 0, 0, []),
  (4, .invokevirtual 33, 3, 7, 140, 3, [8, 19, 0, 15]),
  (7, .i2l, 1, 8, 0, 0, []),
  (8, .putfield 13, 3, 11, 9, 0, []),
  (11, .goto 11, 3, 14, 0, 0, [22]),
  (14, .astore 4, 2, 16, 0, 0, []),
  (16, .iconst 1, 1, 17, 0, 0, []),
  (17, .ireturn, 1, 18, 0, 0, []),
  (18, .astore 4, 2, 20, 0, 0, []),
  (20, .iconst 2, 1, 21, 0, 0, []),
  (21, .ireturn, 1, 22, 0, 0, []),
  (22, .iconst 0, 1, 23, 0, 0, []),
  (23, .ireturn, 1, 24, 0, 0, [])]
def s_248 : List j_I := [(4, .invokevirtual 33, 3, 7, 140, 3, [8, 19, 0, 15]),
  (8, .putfield 13, 3, 11, 9, 0, [])]
theorem kl_248 : ∀ q ∈ k_248, j_lk (j_y 248).cls (j_y 248).name (j_b 248) (j_hh 248) q := j_lkall (sp := s_248) (Eq.refl s_248) (List.forall_mem_cons.mpr ⟨⟨⟨rfl, rfl⟩, Or.inl ⟨kv_140, tw_3_123, kn_140, (j_hl_mk (⟨[(0, 11, 14, 31)], (0, 11, 18, 19), [], rfl, rfl, ⟨Nat.le_of_ble_eq_true rfl, Nat.le_of_ble_eq_true rfl⟩, Nat.succ_ne_zero _, tw_2_91, List.forall_mem_cons.mpr ⟨⟨Nat.succ_ne_zero _, "java/lang/IndexOutOfBoundsException", tw_3_90, by decide⟩, fun _ h => (nomatch h)⟩⟩) trivial (⟨[], (0, 11, 14, 31), [(0, 11, 18, 19)], rfl, rfl, ⟨Nat.le_of_ble_eq_true rfl, Nat.le_of_ble_eq_true rfl⟩, Nat.succ_ne_zero _, tw_3_90, fun _ h => (nomatch h)⟩))⟩⟩,
  List.forall_mem_cons.mpr ⟨⟨⟨rfl, rfl⟩, ⟨_, "GrainclockLaw$Out", rfl, Nat.le_of_ble_eq_true rfl, Or.inr ⟨"GrainclockLaw", List.mem_of_getElem? (i := 2) rfl⟩, Or.inl rfl⟩, fun r hr hz => absurd hz (Option.some.inj hr ▸ Bool.false_ne_true)⟩,
  fun _ h => (nomatch h)⟩⟩)
theorem kq_248 : k_248.all (fun q => decide (decode (j_b 248) q.1 = .ok (q.2.1, q.2.2.1))) = true := by decide +kernel
theorem km_248 : j_Md 248 k_248 := ⟨by decide, fun q h => ⟨of_decide_eq_true (List.all_eq_true.mp kq_248 q h), kl_248 q h⟩⟩
/-- GrainclockLaw.wider(LGrainclock;IILGrainclockLaw$Out;)I -/
def k_249 : List j_I := [(0, .aload_n 3, 1, 1, 0, 0, []),
  (1, .aload_n 0, 1, 2, 0, 0, []),
  (2, .iload_n 1, 1, 3, 0, 0, []),
  (3, .iload_n 2, 1, 4, 0, 0, []),
  (4, .invokevirtual 92, 3, 7, 141, 3, [8, 0, 19, 15]),
  (7, .i2l, 1, 8, 0, 0, []),
  (8, .putfield 13, 3, 11, 9, 0, []),
  (11, .goto 11, 3, 14, 0, 0, [22]),
  (14, .astore 4, 2, 16, 0, 0, []),
  (16, .iconst 1, 1, 17, 0, 0, []),
  (17, .ireturn, 1, 18, 0, 0, []),
  (18, .astore 4, 2, 20, 0, 0, []),
  (20, .iconst 2, 1, 21, 0, 0, []),
  (21, .ireturn, 1, 22, 0, 0, []),
  (22, .iconst 0, 1, 23, 0, 0, []),
  (23, .ireturn, 1, 24, 0, 0, [])]
def s_249 : List j_I := [(4, .invokevirtual 92, 3, 7, 141, 3, [8, 0, 19, 15]),
  (8, .putfield 13, 3, 11, 9, 0, [])]
theorem kl_249 : ∀ q ∈ k_249, j_lk (j_y 249).cls (j_y 249).name (j_b 249) (j_hh 249) q := j_lkall (sp := s_249) (Eq.refl s_249) (List.forall_mem_cons.mpr ⟨⟨⟨rfl, rfl⟩, Or.inl ⟨kv_141, tw_5_131, kn_141, (j_hl_mk trivial (⟨[(0, 11, 14, 31)], (0, 11, 18, 21), [], rfl, rfl, ⟨Nat.le_of_ble_eq_true rfl, Nat.le_of_ble_eq_true rfl⟩, Nat.succ_ne_zero _, tw_2_92, List.forall_mem_cons.mpr ⟨⟨Nat.succ_ne_zero _, "java/lang/IndexOutOfBoundsException", tw_3_90, by decide⟩, fun _ h => (nomatch h)⟩⟩) (⟨[], (0, 11, 14, 31), [(0, 11, 18, 21)], rfl, rfl, ⟨Nat.le_of_ble_eq_true rfl, Nat.le_of_ble_eq_true rfl⟩, Nat.succ_ne_zero _, tw_3_90, fun _ h => (nomatch h)⟩))⟩⟩,
  List.forall_mem_cons.mpr ⟨⟨⟨rfl, rfl⟩, ⟨_, "GrainclockLaw$Out", rfl, Nat.le_of_ble_eq_true rfl, Or.inr ⟨"GrainclockLaw", List.mem_of_getElem? (i := 2) rfl⟩, Or.inl rfl⟩, fun r hr hz => absurd hz (Option.some.inj hr ▸ Bool.false_ne_true)⟩,
  fun _ h => (nomatch h)⟩⟩)
theorem kq_249 : k_249.all (fun q => decide (decode (j_b 249) q.1 = .ok (q.2.1, q.2.2.1))) = true := by decide +kernel
theorem km_249 : j_Md 249 k_249 := ⟨by decide, fun q h => ⟨of_decide_eq_true (List.all_eq_true.mp kq_249 q h), kl_249 q h⟩⟩
/-- GrainclockLaw.withdraw(LGrainclock;ILGrainclockLaw$Out;)I -/
def k_250 : List j_I := [(0, .aload_n 2, 1, 1, 0, 0, []),
  (1, .aload_n 0, 1, 2, 0, 0, []),
  (2, .iload_n 1, 1, 3, 0, 0, []),
  (3, .invokevirtual 46, 3, 6, 142, 2, [8, 0, 17, 14]),
  (6, .i2l, 1, 7, 0, 0, []),
  (7, .putfield 13, 3, 10, 9, 0, []),
  (10, .goto 9, 3, 13, 0, 0, [19]),
  (13, .astore_n 3, 1, 14, 0, 0, []),
  (14, .iconst 1, 1, 15, 0, 0, []),
  (15, .ireturn, 1, 16, 0, 0, []),
  (16, .astore_n 3, 1, 17, 0, 0, []),
  (17, .iconst 2, 1, 18, 0, 0, []),
  (18, .ireturn, 1, 19, 0, 0, []),
  (19, .iconst 0, 1, 20, 0, 0, []),
  (20, .ireturn, 1, 21, 0, 0, [])]
def s_250 : List j_I := [(3, .invokevirtual 46, 3, 6, 142, 2, [8, 0, 17, 14]),
  (7, .putfield 13, 3, 10, 9, 0, [])]
theorem kl_250 : ∀ q ∈ k_250, j_lk (j_y 250).cls (j_y 250).name (j_b 250) (j_hh 250) q := j_lkall (sp := s_250) (Eq.refl s_250) (List.forall_mem_cons.mpr ⟨⟨⟨rfl, rfl⟩, Or.inl ⟨kv_142, tw_3_226, kn_142, (j_hl_mk trivial (⟨[(0, 10, 13, 31)], (0, 10, 16, 21), [], rfl, rfl, ⟨Nat.le_of_ble_eq_true rfl, Nat.le_of_ble_eq_true rfl⟩, Nat.succ_ne_zero _, tw_2_92, List.forall_mem_cons.mpr ⟨⟨Nat.succ_ne_zero _, "java/lang/IndexOutOfBoundsException", tw_3_90, by decide⟩, fun _ h => (nomatch h)⟩⟩) (⟨[], (0, 10, 13, 31), [(0, 10, 16, 21)], rfl, rfl, ⟨Nat.le_of_ble_eq_true rfl, Nat.le_of_ble_eq_true rfl⟩, Nat.succ_ne_zero _, tw_3_90, fun _ h => (nomatch h)⟩))⟩⟩,
  List.forall_mem_cons.mpr ⟨⟨⟨rfl, rfl⟩, ⟨_, "GrainclockLaw$Out", rfl, Nat.le_of_ble_eq_true rfl, Or.inr ⟨"GrainclockLaw", List.mem_of_getElem? (i := 2) rfl⟩, Or.inl rfl⟩, fun r hr hz => absurd hz (Option.some.inj hr ▸ Bool.false_ne_true)⟩,
  fun _ h => (nomatch h)⟩⟩)
theorem kq_250 : k_250.all (fun q => decide (decode (j_b 250) q.1 = .ok (q.2.1, q.2.2.1))) = true := by decide +kernel
theorem km_250 : j_Md 250 k_250 := ⟨by decide, fun q h => ⟨of_decide_eq_true (List.all_eq_true.mp kq_250 q h), kl_250 q h⟩⟩
/-- GrainclockLaw$Out.<init>()V -/
def k_251 : List j_I := [(0, .aload_n 0, 1, 1, 0, 0, []),
  (1, .invokespecial 1, 3, 4, 0, 0, [1]),
  (4, .return_, 1, 5, 0, 0, [])]
def s_251 : List j_I := [(1, .invokespecial 1, 3, 4, 0, 0, [1])]
theorem kl_251 : ∀ q ∈ k_251, j_lk (j_y 251).cls (j_y 251).name (j_b 251) (j_hh 251) q := j_lkall (sp := s_251) (Eq.refl s_251) (List.forall_mem_cons.mpr ⟨⟨⟨rfl, rfl⟩, tw_2_80, kobj⟩,
  fun _ h => (nomatch h)⟩)
theorem kq_251 : k_251.all (fun q => decide (decode (j_b 251) q.1 = .ok (q.2.1, q.2.2.1))) = true := by decide +kernel
theorem km_251 : j_Md 251 k_251 := ⟨by decide, fun q h => ⟨of_decide_eq_true (List.all_eq_true.mp kq_251 q h), kl_251 q h⟩⟩
