/-! what the little heap says of the real one; one row an instruction -/
def j_tys : List FieldType := [.int, .byte, .object "java/lang/Object"]
/-- what a cell holds as an array: one of ours exactly, one that was there before in its values, its class named by D -/
def j_arc (D : va_G) (t : Nat) (y : ClassId × FieldType) (n : Nat) (F : Nat → Value) (o : Option Cell) : Prop := (t < 10 ∧ o = some (arrV y.1 n F)) ∨
  ((10 ≤ t ∧ t < 13) ∧ ∃ cell : Cell, o = some cell ∧ cell.cls = D.1 (100 + t) ∧ (∀ k, cell.vm ≠ .statics k) ∧ cell.vm ≠ .unknown ∧ (n ≤ cell.slots.size ∧ cell.slots.size.toInt32 = Int32.ofNat n) ∧ ∀ k : Nat, k < n → cell.slots[k]? = some (F k))
theorem j_arc.cell {D : va_G} {t : Nat} {y : ClassId × FieldType} {n : Nat} {F : Nat → Value} {o : Option Cell} (a : j_arc D t y n F o) : ∃ cell : Cell, o = some cell := by
  rcases a with ⟨-, h⟩ | ⟨-, cell, h, -⟩
  · exact ⟨_, h⟩
  · exact ⟨cell, h⟩
theorem j_arc.own {D : va_G} {t : Nat} {y : ClassId × FieldType} {n : Nat} {F : Nat → Value} {o : Option Cell} (a : j_arc D t y n F o) (ht : t < 10) : o = some (arrV y.1 n F) := by
  rcases a with ⟨-, h⟩ | ⟨⟨h, -⟩, -⟩
  · exact h
  · omega
def j_hold (D : va_G) (fty : Nat → Nat → FieldType) (T : List (ClassId × FieldType)) (h : j_H) (q : Nat) (H : Heap) : Prop := match j_kd h q with
  | none => True
  | some (.inl c) => ∃ r : vw_C, vwCl[c]? = some r ∧ t_OB q (D.1 c) r.2.2 (D.2 c) H (fun k => j_m (j_vv (fty c k) h q k))
  | some (.inr t) => ∃ y : ClassId × FieldType, T[t % 10]? = some y ∧ j_arc D t y (j_ln h q) (fun k => j_m (j_vv y.2 h q k)) H[q]?
def j_own (A : Nat → Prop) (h : j_H) (q : Nat) : Prop := match j_kd h q with
  | none => True
  | some (.inl _) => A q
  | some (.inr t) => t < 10 → A q
def j_R (D : va_G) (fty : Nat → Nat → FieldType) (T : List (ClassId × FieldType)) (A : Nat → Prop) (h : j_H) (H : Heap) : Prop := ∀ q, j_hold D fty T h q H ∧ j_own A h q
theorem j_hold.kept {D : va_G} {fty : Nat → Nat → FieldType} {T : List (ClassId × FieldType)} {h : j_H} {q : Nat} {H H1 : Heap} (a : j_hold D fty T h q H) (e : H1[q]? = H[q]?) : j_hold D fty T h q H1 := by
  unfold j_hold at a ⊢
  split
  · trivial
  · rename_i c hc
    rw [hc] at a
    obtain ⟨r, h1, h2⟩ := a
    exact ⟨r, h1, h2.kept e⟩
  · rename_i t ht
    rw [ht] at a
    obtain ⟨y, h1, h2⟩ := a
    exact ⟨y, h1, by rw [e]; exact h2⟩
theorem j_hold.obj {D : va_G} {fty : Nat → Nat → FieldType} {T : List (ClassId × FieldType)} {h : j_H} {q c : Nat} {H : Heap} (a : j_hold D fty T h q H) (k : j_kd h q = some (.inl c)) : ∃ r : vw_C, vwCl[c]? = some r ∧ t_OB q (D.1 c) r.2.2 (D.2 c) H (fun k => j_m (j_vv (fty c k) h q k)) := by
  unfold j_hold at a
  rw [k] at a
  exact a
theorem j_hold.arr {D : va_G} {fty : Nat → Nat → FieldType} {T : List (ClassId × FieldType)} {h : j_H} {q t : Nat} {H : Heap} (a : j_hold D fty T h q H) (k : j_kd h q = some (.inr t)) : ∃ y : ClassId × FieldType, T[t % 10]? = some y ∧ j_arc D t y (j_ln h q) (fun k => j_m (j_vv y.2 h q k)) H[q]? := by
  unfold j_hold at a
  rw [k] at a
  exact a
/-- the same kinds, the same contents at q: still held -/
theorem j_hold.same {D : va_G} {fty : Nat → Nat → FieldType} {T : List (ClassId × FieldType)} {h h1 : j_H} {q : Nat} {H : Heap} (a : j_hold D fty T h q H) (e1 : j_kd h1 q = j_kd h q) (e2 : ∀ k, j_it h1 q k = j_it h q k) (e3 : ∀ k, j_lg h1 q k = j_lg h q k) (e4 : ∀ k, j_rf h1 q k = j_rf h q k) (e5 : j_ln h1 q = j_ln h q) : j_hold D fty T h1 q H := by
  have ev : ∀ ty k, j_vv ty h1 q k = j_vv ty h q k := by
    intro ty k
    cases ty <;> simp only [j_vv, e2, e3, e4]
  unfold j_hold at a ⊢
  rw [e1]
  split
  · trivial
  · rename_i c hc
    rw [hc] at a
    obtain ⟨r, h1, h2⟩ := a
    exact ⟨r, h1, h2.to (fun k _ => by rw [ev])⟩
  · rename_i t ht
    rw [ht] at a
    obtain ⟨y, hy, h2⟩ := a
    refine ⟨y, hy, ?_⟩
    rw [e5, show (fun k => j_m (j_vv y.2 h1 q k)) = fun k => j_m (j_vv y.2 h q k) from funext fun k => by rw [ev]]
    exact h2
theorem j_own.same {A : Nat → Prop} {h h1 : j_H} {q : Nat} (a : j_own A h q) (e1 : j_kd h1 q = j_kd h q) : j_own A h1 q := by
  unfold j_own at a ⊢
  rw [e1]
  exact a
theorem j_R.lt {D : va_G} {fty : Nat → Nat → FieldType} {T : List (ClassId × FieldType)} {A : Nat → Prop} {h : j_H} {H : Heap} (a : j_R D fty T A h H) {q : Nat} {k : Nat ⊕ Nat} (hk : j_kd h q = some k) : q < H.size := by
  rcases k with c | t
  · obtain ⟨r, -, cell, h2, -⟩ := (a q).1.obj hk
    exact (Array.getElem?_eq_some_iff.mp h2).1
  · obtain ⟨y, -, h2⟩ := (a q).1.arr hk
    obtain ⟨cell, h3⟩ := h2.cell
    exact (Array.getElem?_eq_some_iff.mp h3).1
theorem j_R.fresh {D : va_G} {fty : Nat → Nat → FieldType} {T : List (ClassId × FieldType)} {A : Nat → Prop} {h : j_H} {H : Heap} (a : j_R D fty T A h H) : j_kd h H.size = none := by
  cases hk : j_kd h H.size with
  | none => rfl
  | some k => exact absurd (a.lt hk) (Nat.lt_irrefl _)
theorem j_R.kept {D : va_G} {fty : Nat → Nat → FieldType} {T : List (ClassId × FieldType)} {A : Nat → Prop} {h : j_H} {H H1 : Heap} (a : j_R D fty T A h H) (e : ∀ q, q < H.size → H1[q]? = H[q]?) : j_R D fty T A h H1 := by
  intro q
  refine ⟨?_, (a q).2⟩
  cases hk : j_kd h q with
  | none => unfold j_hold; rw [hk]; trivial
  | some k => exact (a q).1.kept (e q (a.lt hk))
section JW
variable {p : Program} {l : Launch} {e : Env} {R : Room} {s : State} {m : MethodId} {args : Array Value} {below : List Frame} {meth : Method} {c : Code} {H : Heap} {locs : List Loc} {cells slots : Nat} {Q : State → Prop}
variable {cc : ByteArray} {pc : Nat} {ls : Array Slot} {rest : List Value}
theorem j_store1 (hexec : p.tables.exec = Jvm.exec) (hb : c.code = cc) {ins : Instr} {i n nL : Nat} {lo : j_L} {v : j_V} (hdg : decode cc pc = .ok (ins, n)) (hi : (ins = .istore i ∧ n = 2 ∧ ∃ x, v = .inl x) ∨ (∃ k : Fin 4, ins = .istore_n k ∧ n = 1 ∧ (k : Nat) = i ∧ ∃ x, v = .inl x) ∨ (ins = .astore i ∧ n = 2 ∧ ∃ x, v = .inr (.inr x)) ∨ (∃ k : Fin 4, ins = .astore_n k ∧ n = 1 ∧ (k : Nat) = i ∧ ∃ x, v = .inr (.inr x)))
    (h : j_LR nL lo ls) (hn : i < nL) (kk : ∀ ls' : Array Slot, j_LR nL (j_s1 lo i v) ls' → W p l e R s m args below meth c H locs cells slots Q (F0 m (pc + n) ls' rest)) : W p l e R s m args below meth c H locs cells slots Q (F0 m pc ls (j_m v :: rest)) := by
  rcases hi with ⟨rfl, rfl, x, rfl⟩ | ⟨k, rfl, rfl, rfl, x, rfl⟩ | ⟨rfl, rfl, x, rfl⟩ | ⟨k, rfl, rfl, rfl, x, rfl⟩
  · obtain ⟨ls', e', h'⟩ := h.s1 (v := .inl x) hn rfl
    intro T hT X
    obtain ⟨t, a, b⟩ := kk ls' h' T hT X
    refine ⟨t, ?_, b⟩
    simp only [j_m] at e' ⊢
    jvm_step X.here [X.here.top, ↓top_set X.here.top, hexec, hb, hdg, e']
    exact a
  · obtain ⟨ls', e', h'⟩ := h.s1 (v := .inl x) hn rfl
    intro T hT X
    obtain ⟨t, a, b⟩ := kk ls' h' T hT X
    refine ⟨t, ?_, b⟩
    simp only [j_m] at e' ⊢
    jvm_step X.here [X.here.top, ↓top_set X.here.top, hexec, hb, hdg, e']
    exact a
  · obtain ⟨ls', e', h'⟩ := h.s1 (v := .inr (.inr x)) hn rfl
    intro T hT X
    obtain ⟨t, a, b⟩ := kk ls' h' T hT X
    refine ⟨t, ?_, b⟩
    cases x with
    | none =>
      simp only [j_m, va_rf] at e' ⊢
      jvm_step X.here [X.here.top, ↓top_set X.here.top, hexec, hb, hdg, e', Value.isRef]
      exact a
    | some x =>
      simp only [j_m, va_rf] at e' ⊢
      jvm_step X.here [X.here.top, ↓top_set X.here.top, hexec, hb, hdg, e', Value.isRef]
      exact a
  · obtain ⟨ls', e', h'⟩ := h.s1 (v := .inr (.inr x)) hn rfl
    intro T hT X
    obtain ⟨t, a, b⟩ := kk ls' h' T hT X
    refine ⟨t, ?_, b⟩
    cases x with
    | none =>
      simp only [j_m, va_rf] at e' ⊢
      jvm_step X.here [X.here.top, ↓top_set X.here.top, hexec, hb, hdg, e', Value.isRef]
      exact a
    | some x =>
      simp only [j_m, va_rf] at e' ⊢
      jvm_step X.here [X.here.top, ↓top_set X.here.top, hexec, hb, hdg, e', Value.isRef]
      exact a
theorem j_store2 (hexec : p.tables.exec = Jvm.exec) (hb : c.code = cc) {ins : Instr} {i n nL : Nat} {lo : j_L} {x : Int64} (hdg : decode cc pc = .ok (ins, n)) (hi : (ins = .lstore i ∧ n = 2) ∨ (∃ k : Fin 4, ins = .lstore_n k ∧ n = 1 ∧ (k : Nat) = i))
    (h : j_LR nL lo ls) (hn : i + 1 < nL) (kk : ∀ ls' : Array Slot, j_LR nL (j_s2 lo i (.inr (.inl x))) ls' → W p l e R s m args below meth c H locs cells slots Q (F0 m (pc + n) ls' rest)) : W p l e R s m args below meth c H locs cells slots Q (F0 m pc ls (.long x :: rest)) := by
  rcases hi with ⟨rfl, rfl⟩ | ⟨k, rfl, rfl, rfl⟩
  · obtain ⟨ls', e', h'⟩ := h.s2 (v := .inr (.inl x)) hn rfl
    intro T hT X
    obtain ⟨t, a, b⟩ := kk ls' h' T hT X
    refine ⟨t, ?_, b⟩
    simp only [j_m] at e'
    jvm_step X.here [X.here.top, ↓top_set X.here.top, hexec, hb, hdg, e']
    exact a
  · obtain ⟨ls', e', h'⟩ := h.s2 (v := .inr (.inl x)) hn rfl
    intro T hT X
    obtain ⟨t, a, b⟩ := kk ls' h' T hT X
    refine ⟨t, ?_, b⟩
    simp only [j_m] at e'
    jvm_step X.here [X.here.top, ↓top_set X.here.top, hexec, hb, hdg, e']
    exact a
theorem j_inc (hexec : p.tables.exec = Jvm.exec) (hb : c.code = cc) {i nL : Nat} {n : Int} {lo : j_L} {x : Int32} (hdg : decode cc pc = .ok (.iinc i n, 3)) (h : j_LR nL lo ls) (hx : lo[i]? = some (some (.inl x))) (hn : i < nL)
    (kk : ∀ ls' : Array Slot, j_LR nL (j_s1 lo i (.inl (x + Int32.ofInt n))) ls' → W p l e R s m args below meth c H locs cells slots Q (F0 m (pc + 3) ls' rest)) : W p l e R s m args below meth c H locs cells slots Q (F0 m pc ls rest) := by
  have hg : ls[i]? = some (.val (.int x)) := h.2.2 i _ hx
  obtain ⟨ls', e', h'⟩ := h.s1 (v := .inl (x + Int32.ofInt n)) hn rfl
  intro T hT X
  obtain ⟨t, a, b⟩ := kk ls' h' T hT X
  refine ⟨t, ?_, b⟩
  simp only [j_m] at e'
  jvm_step X.here [X.here.top, ↓top_set X.here.top, hexec, hb, hdg, hg, e']
  exact a
theorem j_aload (hexec : p.tables.exec = Jvm.exec) (hb : c.code = cc) {ins : Instr} {i n : Nat} {o : Option Nat} (hdg : decode cc pc = .ok (ins, n)) (hi : (ins = .aload i ∧ n = 2) ∨ (∃ k : Fin 4, ins = .aload_n k ∧ n = 1 ∧ (k : Nat) = i)) (hl : ls[i]? = some (.val (va_rf o)))
    (kk : W p l e R s m args below meth c H locs cells slots Q (F0 m (pc + n) ls (va_rf o :: rest))) : W p l e R s m args below meth c H locs cells slots Q (F0 m pc ls rest) := by
  rcases hi with ⟨rfl, rfl⟩ | ⟨k, rfl, rfl, hk⟩
  · cases o with
    | none => exact lv_aloadN hexec hb hdg hl kk
    | some x => exact lv_aload hexec hb hdg hl kk
  · cases o with
    | none => exact lv_aload_nN hexec hb hdg hk hl kk
    | some x => exact lv_aload_n hexec hb hdg hk hl kk
end JW
