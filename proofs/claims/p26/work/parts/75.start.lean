/-! the start: what the tables and the premises give -/
def j_Tb (s : State) (b : Nat) : Prop := ∀ w ∈ lw_tbl, w.before #[Value.ref b] s = true
theorem j_Tb.b {s : State} {b : Nat} (t : j_Tb s b) : ∀ w ∈ TB, w.before #[Value.ref b] s = true := fun w hw => t w (List.mem_filter.mp hw).1
theorem j_Tb.t {s : State} {b : Nat} (t : j_Tb s b) {w : Cond} (hw : w ∈ tables_1) : w.before #[Value.ref b] s = true := t w (List.mem_append_right _ hw)
theorem j_ins : ∀ (c : Nat) (r : vw_C), vwCl[c]? = some r → ∃ n, Cond.instantiable r.1 n ∈ TB := by
  intro c r h
  match c, h with
  | 0, h => have e := Option.some.inj h; subst e; exact ⟨_, tw_4_238⟩
  | 1, h => have e := Option.some.inj h; subst e; exact ⟨_, tw_4_91⟩
  | 2, h => have e := Option.some.inj h; subst e; exact ⟨_, tw_5_225⟩
  | 3, h => have e := Option.some.inj h; subst e; exact ⟨_, tw_1_43⟩
  | 4, h => have e := Option.some.inj h; subst e; exact ⟨_, tw_2_184⟩
  | 5, h => have e := Option.some.inj h; subst e; exact ⟨_, tw_2_186⟩
  | 6, h => have e := Option.some.inj h; subst e; exact ⟨_, tw_4_17⟩
  | 7, h => have e := Option.some.inj h; subst e; exact ⟨_, tw_3_176⟩
  | 8, h => have e := Option.some.inj h; subst e; exact ⟨_, tw_1_35⟩
  | 9, h => have e := Option.some.inj h; subst e; exact ⟨_, tw_2_76⟩
  | 10, h => have e := Option.some.inj h; subst e; exact ⟨_, tw_5_184⟩
  | 11, h => have e := Option.some.inj h; subst e; exact ⟨_, tw_6_62⟩
  | 12, h => have e := Option.some.inj h; subst e; exact ⟨_, tw_5_138⟩
  | _ + 13, h => exact nomatch h
theorem j_cso : ∀ (c : Nat) (r : vw_C), vwCl[c]? = some r → Cond.castable r.1 "java/lang/Object" ∈ tables_1 := by
  intro c r h
  match c, h with
  | 0, h => have e := Option.some.inj h; subst e; exact tw_7_80
  | 1, h => have e := Option.some.inj h; subst e; exact tw_7_79
  | 2, h => have e := Option.some.inj h; subst e; exact tw_7_74
  | 3, h => have e := Option.some.inj h; subst e; exact tw_7_66
  | 4, h => have e := Option.some.inj h; subst e; exact tw_7_71
  | 5, h => have e := Option.some.inj h; subst e; exact tw_7_72
  | 6, h => have e := Option.some.inj h; subst e; exact tw_7_78
  | 7, h => have e := Option.some.inj h; subst e; exact tw_7_76
  | 8, h => have e := Option.some.inj h; subst e; exact tw_7_65
  | 9, h => have e := Option.some.inj h; subst e; exact tw_7_68
  | 10, h => have e := Option.some.inj h; subst e; exact tw_7_73
  | 11, h => have e := Option.some.inj h; subst e; exact tw_7_77
  | 12, h => have e := Option.some.inj h; subst e; exact tw_7_67
  | _ + 13, h => exact nomatch h
theorem j_kn {s : State} {b : Nat} (t : j_Tb s b) : ∃ D : va_G, ∀ (c : Nat) (r : vw_C), vwCl[c]? = some r → u_Kn s r.1 r.2.1 r.2.2 (D.1 c) (D.2 c) := by
  have h0 : ∀ c : Nat, ∃ q : ClassId × (Nat → Nat), ∀ r, vwCl[c]? = some r → u_Kn s r.1 r.2.1 r.2.2 q.1 q.2 := by
    intro c
    cases hc : vwCl[c]? with
    | none => exact ⟨(0, fun _ => 0), fun r hr => nomatch hr⟩
    | some r =>
      obtain ⟨n, hn⟩ := j_ins c r hc
      obtain ⟨cC, iS, h⟩ := u_known t.b (j_cls c r hc).1 (t.b _ hn)
      exact ⟨(cC, iS), fun r' hr => by cases hr; exact h⟩
  obtain ⟨f, hf⟩ := Classical.axiomOfChoice h0
  exact ⟨(fun c => (f c).1, fun c => (f c).2), fun c r hr => hf c r hr⟩
theorem j_tyk {s : State} {b : Nat} (t : j_Tb s b) : ∃ T : List (ClassId × FieldType), T.map Prod.snd = j_tys ∧ ∀ (k : Nat) (q : ClassId × FieldType), T[k]? = some q → ArrOfT s q.1 q.2 ∧ va_RA s q.1 q.2 := by
  obtain ⟨c0, k0, m0, a1, a2, a3⟩ := Cond.arrayClass_spec (args := #[Value.ref b]) (first := s) (o := none) (s := s) (idx := []) (type := .int) (t.b _ tw_5_170)
  obtain ⟨c1, k1, m1, b1, b2, b3⟩ := Cond.arrayClass_spec (args := #[Value.ref b]) (first := s) (o := none) (s := s) (idx := []) (type := .byte) (t.b _ tw_2_167)
  obtain ⟨m2, c2, k2, d1, -, d2, d3, d4⟩ := Cond.arrayOver_spec (args := #[Value.ref b]) (first := s) (o := none) (s := s) (idx := []) (n := "java/lang/Object") (t.t tw_3_60)
  refine ⟨[(c0, .int), (c1, .byte), (c2, .object "java/lang/Object")], rfl, fun k q hk => ?_⟩
  match k, hk with
  | 0, hk => have e := Option.some.inj hk; subst e; exact ⟨fun n z => ⟨(fun _ h => nomatch h), k0, a2, m0, a3⟩, a1⟩
  | 1, hk => have e := Option.some.inj hk; subst e; exact ⟨fun n z => ⟨(fun _ h => nomatch h), k1, b2, m1, b3⟩, b1⟩
  | 2, hk => have e := Option.some.inj hk; subst e; exact ⟨fun n z => ⟨(fun _ h => nomatch h), k2, d2, m2, d3⟩, k2, m2, d2, d3, d1, d4⟩
  | _ + 3, hk => exact nomatch hk
theorem j_nst {s : State} {b : Nat} (t : j_Tb s b) : ∀ w ∈ j_nest, w.before #[] s = true :=
  List.forall_mem_cons.mpr ⟨va_any rfl (t.t tw_1_58), List.forall_mem_cons.mpr ⟨va_any rfl (t.t tw_2_77), List.forall_mem_cons.mpr ⟨va_any rfl (t.t tw_2_81), List.forall_mem_cons.mpr ⟨va_any rfl (t.t tw_2_82), List.forall_mem_cons.mpr ⟨va_any rfl (t.t tw_5_185), List.forall_mem_cons.mpr ⟨va_any rfl (t.t tw_5_190), List.forall_mem_cons.mpr ⟨va_any rfl (t.t tw_5_192), List.forall_mem_cons.mpr ⟨va_any rfl (t.t tw_5_194), List.forall_mem_cons.mpr ⟨va_any rfl (t.t tw_5_196), List.forall_mem_cons.mpr ⟨va_any rfl (t.t tw_5_197), List.forall_mem_cons.mpr ⟨va_any rfl (t.t tw_5_198), List.forall_mem_cons.mpr ⟨va_any rfl (t.t tw_5_199), List.forall_mem_cons.mpr ⟨va_any rfl (t.t tw_6_63), List.forall_mem_cons.mpr ⟨va_any rfl (t.t tw_6_67), List.forall_mem_cons.mpr ⟨va_any rfl (t.t tw_6_68), List.forall_mem_cons.mpr ⟨va_any rfl (t.t tw_6_69), List.forall_mem_cons.mpr ⟨va_any rfl (t.t tw_6_70), List.forall_mem_cons.mpr ⟨va_any rfl (t.t tw_6_71), List.forall_mem_cons.mpr ⟨va_any rfl (t.t tw_6_72), List.forall_mem_cons.mpr ⟨va_any rfl (t.t tw_6_73), fun _ h => nomatch h⟩⟩⟩⟩⟩⟩⟩⟩⟩⟩⟩⟩⟩⟩⟩⟩⟩⟩⟩⟩
theorem j_str1 {s : State} {b : Nat} {own tx : String} {k : Nat} (h1 : (Cond.stringRef own k tx).before #[Value.ref b] s = true) (h2 : (Cond.exactly (.string own k) "java/lang/String").before #[Value.ref b] s = true) : ∃ sa, vk_R own k tx sa s := by
  obtain ⟨a, c, cA, kA, q1, -⟩ := Cond.exactly_spec (args := #[Value.ref b]) (first := s) (o := none) (s := s) (idx := []) (t := .string own k) (cls := "java/lang/String") h2
  exact ⟨a, vk_R.of h1 q1⟩
def j_gv1 : Cond := Jvm.Cond.and given_1 narrow_1
theorem j_strX : j_strs.all (fun q => decide (Cond.exactly (.string q.1 q.2.1) "java/lang/String" ∈ flatC j_gv1)) = true := by decide +kernel
theorem j_strT {s : State} {b : Nat} (t : j_Tb s b) : ∀ q ∈ j_strs, (Cond.stringRef q.1 q.2.1 q.2.2).before #[Value.ref b] s = true :=
  List.forall_mem_cons.mpr ⟨(t.t tw_2_141), List.forall_mem_cons.mpr ⟨(t.t tw_2_177), List.forall_mem_cons.mpr ⟨(t.t tw_3_75), List.forall_mem_cons.mpr ⟨(t.t tw_3_76), List.forall_mem_cons.mpr ⟨(t.t tw_3_108), List.forall_mem_cons.mpr ⟨(t.t tw_3_115), List.forall_mem_cons.mpr ⟨(t.t tw_3_141), List.forall_mem_cons.mpr ⟨(t.t tw_3_142), List.forall_mem_cons.mpr ⟨(t.t tw_3_161), List.forall_mem_cons.mpr ⟨(t.t tw_3_169), List.forall_mem_cons.mpr ⟨(t.t tw_3_170), List.forall_mem_cons.mpr ⟨(t.t tw_3_171), List.forall_mem_cons.mpr ⟨(t.t tw_3_234), List.forall_mem_cons.mpr ⟨(t.t tw_3_235), List.forall_mem_cons.mpr ⟨(t.t tw_4_3), List.forall_mem_cons.mpr ⟨(t.t tw_4_15), List.forall_mem_cons.mpr ⟨(t.t tw_4_16), List.forall_mem_cons.mpr ⟨(t.t tw_4_46), List.forall_mem_cons.mpr ⟨(t.t tw_4_75), List.forall_mem_cons.mpr ⟨(t.t tw_5_33), List.forall_mem_cons.mpr ⟨(t.t tw_5_105), List.forall_mem_cons.mpr ⟨(t.t tw_5_114), List.forall_mem_cons.mpr ⟨(t.t tw_5_135), List.forall_mem_cons.mpr ⟨(t.t tw_5_136), List.forall_mem_cons.mpr ⟨(t.t tw_6_238), fun _ h => nomatch h⟩⟩⟩⟩⟩⟩⟩⟩⟩⟩⟩⟩⟩⟩⟩⟩⟩⟩⟩⟩⟩⟩⟩⟩⟩
theorem j_ncX : j_ncs.all (fun q => decide (Cond.not (.castable q.1 q.2) ∈ flatC j_gv1)) = true := by decide +kernel
theorem j_selp {C : String} {x y z : MethodName} {s : State} {args : Array Value} (hy : y.cls ≠ "java/lang/invoke/MethodHandle" ∧ y.cls ≠ "java/lang/invoke/VarHandle") (hz : y.cls = z.cls) (hs : (Cond.selects C x z).before args s = true) (hpriv : (Cond.privateMethod y).before args s = true) (hinst : (Cond.instanceMethod y).before args s = true) : (Cond.selects C y y).before args s = true := by
  obtain ⟨c, r, m, hc, -, hm, -, k, hk, hni⟩ := Cond.selects_spec hs
  obtain ⟨mk, methM, hnamed, hmethM, -, -⟩ := Cond.instanceMethod_spec hinst
  have hfound : s.methodFound? y.cls y.name y.desc = some mk := State.methodFound?_of_named hnamed hy
  have hcls : mk.cls = m.cls := Option.some.inj ((findClass_of_methodNamed hnamed).symm.trans (hz ▸ findClass_of_methodNamed hm))
  have hsel : selectMethod {} s.vm c mk = .method mk := selectMethod_private hmethM (Cond.privateMethod_at hpriv mk methM hnamed hmethM)
  rw [← hcls] at hk
  simp only [Cond.before, Cond.holds, Cond.value, hc, hfound, hnamed, hsel, hk]
  simp; exact hni
theorem j_Xs {s : State} {b : Nat} {D : va_G} (t : j_Tb s b) (hs : ∀ w ∈ flatC j_gv1, w.before #[Value.ref b] s = true) (hO : j_O D s) : j_X D (fun q => s.heap.size ≤ q) s s.heap := by
  have hA : ∀ a : Nat, a < s.heap.size → ¬ (fun q : Nat => s.heap.size ≤ q) a := fun a h => Nat.not_le.mpr h
  refine ⟨fun c r h => j_cs.of (t.t (j_cso c r h)), j_nst t, fun q hq => j_str1 (j_strT t q hq) (hs _ (of_decide_eq_true (List.all_eq_true.mp j_strX q hq))), ?_, ?_, va_AO.of (t.t tw_3_60), ?_, ?_, ?_, fun q hq => va_Nc.of (hs _ (of_decide_eq_true (List.all_eq_true.mp j_ncX q hq))), j_cs.of (t.t tw_7_87), j_cs.of (t.t tw_4_149), ?_, hO⟩
  · exact vx_Zqof (t.t tw_2_127) (t.b _ tw_1_7) (hs _ (by decide +kernel)) hA
  · exact vx_Zqof (t.t tw_2_129) (t.b _ tw_1_7) (hs _ (by decide +kernel)) hA
  · exact List.forall_mem_cons.mpr ⟨j_cs.of (t.t tw_2_102), List.forall_mem_cons.mpr ⟨j_cs.of (t.t tw_2_170), List.forall_mem_cons.mpr ⟨j_cs.of (t.t tw_3_101), fun _ h => nomatch h⟩⟩⟩
  · exact List.forall_mem_cons.mpr ⟨va_any rfl (t.t tw_2_104), List.forall_mem_cons.mpr ⟨va_any rfl (t.t tw_2_106), List.forall_mem_cons.mpr ⟨va_any rfl (t.t tw_2_108), List.forall_mem_cons.mpr ⟨va_any rfl (t.t tw_7_84), fun _ h => nomatch h⟩⟩⟩⟩
  · exact List.forall_mem_cons.mpr ⟨va_Fw.of (t.t tw_6_6) (t.t tw_6_5) (t.t tw_6_11) (t.t tw_6_9) (t.t tw_6_7), List.forall_mem_cons.mpr ⟨va_Fw.of (t.t tw_6_16) (t.t tw_6_15) (t.t tw_6_20) (t.t tw_6_18) (t.t tw_6_7), fun _ h => nomatch h⟩⟩
  · exact List.forall_mem_cons.mpr ⟨va_any rfl (j_selp (z := ⟨"java/lang/AbstractStringBuilder", "isLatin1", "()Z"⟩) ⟨by decide, by decide⟩ rfl (t.b _ tw_4_154) (t.t (show Cond.privateMethod ⟨"java/lang/AbstractStringBuilder", "ensureCapacityInternal", "(I)V"⟩ ∈ tables_1 by decide +kernel)) (t.b _ tw_4_133)), List.forall_mem_cons.mpr ⟨va_any rfl (j_selp (z := ⟨"java/lang/AbstractStringBuilder", "isLatin1", "()Z"⟩) ⟨by decide, by decide⟩ rfl (t.b _ tw_4_154) (t.t (show Cond.privateMethod ⟨"java/lang/AbstractStringBuilder", "newCapacity", "(I)I"⟩ ∈ tables_1 by decide +kernel)) (t.b _ tw_4_137)), fun _ h => nomatch h⟩⟩
