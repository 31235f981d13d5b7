/-! instructions that read or write the heap -/
def j_cs (C t : String) (U : State) : Prop := ∃ c k : ClassId, U.vm.findClass C = some c ∧ U.vm.findClass t = some k ∧ U.vm.assignable c k = true
theorem j_cs.moved {C t : String} {u U : State} (hvm : u.vm.Alike U.vm) (h : j_cs C t u) : j_cs C t U := by
  obtain ⟨c, k, h1, h2, h3⟩ := h
  exact ⟨c, k, by rw [hvm.findClass]; exact h1, by rw [hvm.findClass]; exact h2, by rw [hvm.assignable]; exact h3⟩
theorem j_cs.of {args : Array Value} {s : State} {C t : String} (h : (Cond.castable C t).before args s = true) : j_cs C t s := by
  obtain ⟨c, k, h1, h2, h3⟩ := Cond.castable_spec h
  exact ⟨c, k, h1, h2, h3⟩
theorem j_cs.to {args : Array Value} {s : State} {C t : String} (h : j_cs C t s) : (Cond.castable C t).before args s = true := by
  obtain ⟨c, k, h1, h2, h3⟩ := h
  simp [Cond.before, Cond.holds, Cond.value, h1, h2, h3]
def j_ex : List String := ["java/lang/IllegalArgumentException", "java/lang/IllegalStateException", "java/lang/IndexOutOfBoundsException"]
def j_dcl : List MethodName := [⟨"java/lang/RuntimeException", "<init>", "(Ljava/lang/String;)V"⟩, ⟨"java/lang/Exception", "<init>", "(Ljava/lang/String;)V"⟩, ⟨"java/lang/Throwable", "<init>", "(Ljava/lang/String;)V"⟩, ⟨"java/lang/Object", "getClass", "()Ljava/lang/Class;"⟩]
def j_fw : List (String × MethodName × MethodName) := [("java/util/ArrayList$Itr", ⟨"java/util/Iterator", "hasNext", "()Z"⟩, ⟨"java/util/ArrayList$Itr", "hasNext", "()Z"⟩), ("java/util/ArrayList$Itr", ⟨"java/util/Iterator", "next", "()Ljava/lang/Object;"⟩, ⟨"java/util/ArrayList$Itr", "next", "()Ljava/lang/Object;"⟩)]
def j_ncs : List (String × String) := [("java/lang/IllegalArgumentException", "java/lang/IllegalStateException"), ("java/lang/IllegalArgumentException", "java/lang/IndexOutOfBoundsException"), ("java/lang/IllegalStateException", "java/lang/IllegalArgumentException"), ("java/lang/IllegalStateException", "java/lang/IndexOutOfBoundsException"), ("java/lang/IndexOutOfBoundsException", "java/lang/IllegalArgumentException"), ("java/lang/IndexOutOfBoundsException", "java/lang/IllegalStateException")]
/-- private methods of StringBuilder's super class that are called on it -/
def j_pvs : List MethodName := [⟨"java/lang/AbstractStringBuilder", "ensureCapacityInternal", "(I)V"⟩, ⟨"java/lang/AbstractStringBuilder", "newCapacity", "(I)I"⟩]
theorem j_dec_moved {y : MethodName} {u U : State} (hvm : u.vm.Alike U.vm) (h : (Cond.declares y).before #[] u = true) : (Cond.declares y).before #[] U = true := by
  have h1 : (Cond.declares y).before #[] (u.setVm U.vm) = true := by
    rw [Cond.declares_setVm hvm]
    exact h
  have e := Cond.onTables_vm (A := #[]) (A' := #[]) (U := u) (U' := U) U.vm (Cond.declares y) rfl
  have hU : U.setVm U.vm = U := rfl
  rw [hU] at e
  rw [← e]
  exact h1
/-- the arrays that were there: the rows of ints told, of digits, the empty one -/
def j_O (D : va_G) (U : State) : Prop := ArrOfT U (D.1 110) .int ∧ ArrOfT U (D.1 111) .byte ∧ ArrOfT U (D.1 112) (.object "java/lang/Object")
def j_X (D : va_G) (A : Nat → Prop) (U : State) (H : Heap) : Prop :=
  (∀ (c : Nat) (r : vw_C), vwCl[c]? = some r → j_cs r.1 "java/lang/Object" U) ∧ (∀ w ∈ j_nest, w.before #[] U = true) ∧ (∀ q ∈ j_strs, ∃ sa, vk_R q.1 q.2.1 q.2.2 sa U) ∧
  vx_Zq Bundle.tN "UNASSIGNED_STACK" Bundle.steD A U H ∧ vx_Zq Bundle.tN "SUPPRESSED_SENTINEL" Bundle.listD A U H ∧ va_AO "java/lang/Object" U ∧ (∀ E ∈ j_ex, j_cs E E U) ∧ (∀ y ∈ j_dcl, (Cond.declares y).before #[] U = true) ∧ (∀ q ∈ j_fw, va_Fw q.1 q.2.1 q.2.2 U) ∧ (∀ q ∈ j_ncs, va_Nc q.1 q.2 U) ∧ j_cs "[I" "java/lang/Object" U ∧ j_cs "[B" "java/lang/Cloneable" U ∧ (∀ y ∈ j_pvs, (Cond.selects "java/lang/StringBuilder" y y).before #[] U = true) ∧ j_O D U
/-- static references, static ints -/
def j_Y (zr : List (String × String × String)) (zi : List (String × String × String × Int32)) (A : Nat → Prop) (st : Nat → Option Nat) (U : State) (H : Heap) : Prop :=
  (∀ (k : Nat) (q : String × String × String), zr[k]? = some q → va_Z q.1 q.2.1 q.2.2 (va_rf (st k)) A U H) ∧ (∀ (k : Nat) (q : String × String × String × Int32), zi[k]? = some q → va_Z q.1 q.2.1 q.2.2.1 (.int q.2.2.2) A U H) ∧ ∃ mi, st 9 = some mi ∧ va_Mi "[Ljava/lang/Object;" mi U
def j_zr : List (String × String × String) := [("java/util/ArrayList", "DEFAULTCAPACITY_EMPTY_ELEMENTDATA", "[Ljava/lang/Object;"), ("java/lang/Integer", "DigitTens", "[B"), ("java/lang/Integer", "DigitOnes", "[B")]
def j_zi : List (String × String × String × Int32) := [("java/lang/String", "COMPACT_STRINGS", "Z", 1)]
def j_isN : Cond → Bool
  | .fieldLinkNest .. => true
  | .methodLinkNest .. => true
  | _ => false
theorem j_nest_n : j_nest.all j_isN = true := by decide +kernel
theorem j_X.kept {D : va_G} {A : Nat → Prop} {s U : State} {H H1 : Heap} (hW : s.WarmedH U.vm) (h : j_X D A s H) (hq : ∀ a : Nat, a < H.size → ¬ A a → H1[a]? = H[a]?) : j_X D A U H1 := by
  obtain ⟨h1, h2, h3, h4, h5, h6, h7, h8, h9, h10, h11, h12, h13, h14⟩ := h
  refine ⟨fun c r hc => (h1 c r hc).moved hW.alike, fun w hw => ?_, fun q hq => ?_, vx_Zq.moved hW.alike (h4.kept hq), vx_Zq.moved hW.alike (h5.kept hq), h6.moved hW.alike, fun E hE => (h7 E hE).moved hW.alike, fun y hy => j_dec_moved hW.alike (h8 y hy), fun q hq => (h9 q hq).moved ?_ hW.alike, fun q hq => (h10 q hq).moved hW.alike, h11.moved hW.alike, h12.moved hW.alike, fun y hy => word_at hW (good_of_word rfl) (h13 y hy), arrOfT_moved hW.alike h14.1, arrOfT_moved hW.alike h14.2.1, arrOfT_moved hW.alike h14.2.2⟩
  · have h9 := h2 w hw
    have hn := List.all_eq_true.mp j_nest_n w hw
    cases w <;> first | exact va_Nw.warmF hW h9 | exact va_Nw.warmM hW h9 | exact nomatch hn
  · obtain ⟨sa, h⟩ := h3 q hq
    exact ⟨sa, h.warm hW⟩
  · simp only [j_fw, List.mem_cons, List.not_mem_nil, or_false] at hq
    rcases hq with rfl | rfl <;> exact ⟨by decide, by decide⟩
theorem j_Y.kept {zr : List (String × String × String)} {zi : List (String × String × String × Int32)} {A : Nat → Prop} {st : Nat → Option Nat} {s U : State} {H H1 : Heap} (hW : s.WarmedH U.vm) (h : j_Y zr zi A st s H) (hq : ∀ a : Nat, a < H.size → ¬ A a → H1[a]? = H[a]?) : j_Y zr zi A st U H1 :=
  ⟨fun k q hk => (va_Z.moved hW.alike (h.1 k q hk)).kept hq, fun k q hk => (va_Z.moved hW.alike (h.2.1 k q hk)).kept hq, by obtain ⟨mi, h1, h2⟩ := h.2.2; exact ⟨mi, h1, h2.moved hW.alike⟩⟩

/-- a cell written: its object holds the new value, all else as it was -/
theorem j_R.put {D : va_G} {T : List (ClassId × FieldType)} {A : Nat → Prop} {h h1 : j_H} {H H1 : Heap} {a : Nat} (hR : j_R D j_fty T A h H) (e1 : h1.1 = h.1) (e5 : j_ln h1 = j_ln h)
    (es : ∀ b, b ≠ a → ∀ k, j_it h1 b k = j_it h b k ∧ j_lg h1 b k = j_lg h b k ∧ j_rf h1 b k = j_rf h b k) (ha : j_hold D j_fty T h1 a H1) (oq : ∀ q : Nat, q ≠ a → H1[q]? = H[q]?) : j_R D j_fty T A h1 H1 := by
  intro q
  refine ⟨?_, (hR q).2.same (by rw [show j_kd h1 = j_kd h from e1])⟩
  by_cases hq : q = a
  · subst hq; exact ha
  · exact ((hR q).1.same (h1 := h1) (by rw [show j_kd h1 = j_kd h from e1]) (fun k => (es q hq k).1) (fun k => (es q hq k).2.1) (fun k => (es q hq k).2.2) (by rw [e5])).kept (oq q hq)
theorem j_u_ne {α : Type} {f : Nat → Nat → α} {q k b j : Nat} {x : α} (h : b ≠ q) : j_u f q k x b j = f b j := by
  unfold j_u
  by_cases hj : j = k
  · rw [if_pos hj, if_neg h]
  · rw [if_neg hj]
theorem j_u_at {α : Type} {f : Nat → Nat → α} {q k : Nat} {x : α} : j_u f q k x q k = x := by
  unfold j_u
  rw [if_pos rfl, if_pos rfl]
theorem j_u_nk {α : Type} {f : Nat → Nat → α} {q k b j : Nat} {x : α} (h : j ≠ k) : j_u f q k x b j = f b j := by
  unfold j_u
  rw [if_neg h]
/-- one field's value changed -/
def j_up (h : j_H) (q k : Nat) (v : j_V) : j_H := match v with
  | .inl x => j_ui h q k x
  | .inr (.inl x) => j_ul h q k x
  | .inr (.inr o) => j_ur h q k o
/-- a value of a type -/
def j_vt (ty : FieldType) (v : j_V) : Prop := match ty with
  | .long => ∃ x, v = .inr (.inl x)
  | .object _ => ∃ o, v = .inr (.inr o)
  | .array _ => ∃ o, v = .inr (.inr o)
  | .boolean => ∃ x, v = .inl x ∧ (x = 0 ∨ x = 1)
  | .byte => ∃ x, v = .inl x ∧ x.toInt8.toInt32 = x
  | .int => ∃ x, v = .inl x
  | _ => False
theorem j_vt.fit {ty : FieldType} {v : j_V} (h : j_vt ty v) : narrow ty (j_m v) = j_m v ∧ fits ty (j_m v) = true := by
  cases ty <;> simp only [j_vt] at h
  case byte =>
    obtain ⟨x, rfl, hx⟩ := h
    refine ⟨by show Value.int x.toInt8.toInt32 = _; rw [hx]; rfl, ?_⟩
    rw [← hx]
    exact pk_fb x
  case int => obtain ⟨x, rfl⟩ := h; exact ⟨rfl, rfl⟩
  case long => obtain ⟨x, rfl⟩ := h; exact ⟨rfl, rfl⟩
  case boolean =>
    obtain ⟨x, rfl, rfl | rfl⟩ := h
    · exact ⟨by decide, by decide⟩
    · exact ⟨by decide, by decide⟩
  case object => obtain ⟨o, rfl⟩ := h; cases o <;> exact ⟨rfl, rfl⟩
  case array => obtain ⟨o, rfl⟩ := h; cases o <;> exact ⟨rfl, rfl⟩
theorem j_up_kd (h : j_H) (q k : Nat) (v : j_V) : (j_up h q k v).1 = h.1 ∧ j_ln (j_up h q k v) = j_ln h ∧ j_st (j_up h q k v) = j_st h := by
  rcases v with x | x | o <;> exact ⟨rfl, rfl, rfl⟩
theorem j_up_ne (h : j_H) {q k : Nat} (v : j_V) {b : Nat} (hb : b ≠ q) (j : Nat) : j_it (j_up h q k v) b j = j_it h b j ∧ j_lg (j_up h q k v) b j = j_lg h b j ∧ j_rf (j_up h q k v) b j = j_rf h b j := by
  rcases v with x | x | o
  · exact ⟨j_u_ne hb, rfl, rfl⟩
  · exact ⟨rfl, j_u_ne hb, rfl⟩
  · exact ⟨rfl, rfl, j_u_ne hb⟩
theorem j_up_at {h : j_H} {q k : Nat} {v : j_V} {ty : FieldType} (hv : j_vt ty v) : j_vv ty (j_up h q k v) q k = v := by
  cases ty <;> simp only [j_vt] at hv
  case byte => obtain ⟨x, rfl, -⟩ := hv; show j_i (j_u _ q k x q k) = _; rw [j_u_at]
  case int => obtain ⟨x, rfl⟩ := hv; show j_i (j_u _ q k x q k) = _; rw [j_u_at]
  case long => obtain ⟨x, rfl⟩ := hv; show j_l (j_u _ q k x q k) = _; rw [j_u_at]
  case boolean => obtain ⟨x, rfl, -⟩ := hv; show j_i (j_u _ q k x q k) = _; rw [j_u_at]
  case object => obtain ⟨x, rfl⟩ := hv; show j_r (j_u _ q k x q k) = _; rw [j_u_at]
  case array => obtain ⟨x, rfl⟩ := hv; show j_r (j_u _ q k x q k) = _; rw [j_u_at]
theorem j_up_nk {h : j_H} {q k j b : Nat} (v : j_V) {ty : FieldType} (hj : j ≠ k) : j_vv ty (j_up h q k v) b j = j_vv ty h b j := by
  rcases v with x | x | o <;> cases ty <;> first | rfl | exact congrArg j_i (j_u_nk hj) | exact congrArg j_l (j_u_nk hj) | exact congrArg j_r (j_u_nk hj)
