/-! arrays of bytes: copied, cloned -/
section JB
variable {p : Program} {l : Launch} {e : Env} {R : Room} {s : State} {m : MethodId} {args : Array Value} {below : List Frame} {meth : Method} {c : Code} {H H0 : Heap} {locs : List Loc} {cells slots : Nat} {Q : State → Prop}
variable {cc : ByteArray} {pc : Nat} {ls : Array Slot} {rest : List Value} {D : va_G} {T : List (ClassId × FieldType)} {A : Nat → Prop} {h : j_H} {own : String}
def j_cpi (h : j_H) (a1 : Nat) (f : Nat → Int32) : j_H := (h.1, fun b j => if b = a1 then f j else h.2.1 b j, h.2.2)
def j_cln (h : j_H) (b a : Nat) : j_H := j_cpi (j_nw h b (.inr 1) (j_ln h a)) b (j_it h a)
theorem j_copyb (hexec : p.tables.exec = Jvm.exec) (hb : c.code = cc) (hml : c.maxLocals = ls.size) (hts : ∀ w ∈ TB, w.before args s = true) (hown : s.vm.findClass own = some m.cls) {i : Nat} (w1 : Cond.methodLink own i arraycopyName ∈ TB) (w2 : Cond.native arraycopyName ∈ TB) (w3 : Cond.static arraycopyName ∈ TB) (w4 : Cond.initialized "java/lang/System" ∈ TB)
    (hK : va_K D vwCl T s) (hT : T.map Prod.snd = j_tys) (hR : j_R D j_fty T A h H) (hS : va_S A H0 H locs) {a0 a1 t0 : Nat} (h0 : j_kd h a0 = some (.inr t0)) (ht0 : t0 = 1) (h1 : j_kd h a1 = some (.inr 1))
    {sp dp n : Int32} (g1 : 0 ≤ sp.toInt) (g2 : 0 ≤ dp.toInt) (g3 : 0 ≤ n.toInt) (g4 : sp.toInt + n.toInt ≤ (j_ln h a0 : Int)) (g5 : dp.toInt + n.toInt ≤ (j_ln h a1 : Int)) (hel : ∀ k : Nat, (j_it h a0 k).toInt8.toInt32 = j_it h a0 k)
    (hframes : 1 ≤ R.frames) (hlocals : (rest.map fun v => v.category).sum + 18 ≤ R.locals) (hdg : decode cc pc = .ok (.invokestatic i, 3))
    (kk : ∀ (H1 : Heap) (locs1 : List Loc), j_R D j_fty T A (j_cpi h a1 (va_cpy (j_it h a0) (j_it h a1) sp.toNatClampNeg dp.toNatClampNeg n.toNatClampNeg)) H1 → va_S A H0 H1 locs1 → W p l e R s m args below meth c H1 locs1 cells slots Q (F0 m (pc + 3) ls rest)) :
    W p l e R s m args below meth c H locs cells slots Q (F0 m pc ls (.int n :: .int dp :: .ref a1 :: .int sp :: .ref a0 :: rest)) := by
  have nn : ∀ z : Int32, 0 ≤ z.toInt → z.toInt = (z.toNatClampNeg : Int) := by
    intro z hz
    show z.toInt = ((z.toInt.toNat : Nat) : Int)
    omega
  have nl : ∀ z : Int32, 0 ≤ z.toInt → ¬ z < 0 := fun z hz q => by
    rw [Int32.lt_iff_toInt_lt, Int32.toInt_zero] at q
    omega
  subst ht0
  obtain ⟨c0, ht, hc0⟩ := j_arrAt hT hR h0 (by omega) (ty := .byte) rfl
  obtain ⟨c1, ht1, hc1⟩ := j_arrAt hT hR h1 (by omega) (ty := .byte) rfl
  cases ht.symm.trans ht1
  have f1 := nn sp g1
  have f2 := nn dp g2
  have f3 := nn n g3
  intro T1 hT1 X
  obtain ⟨-, k0, hk0, cm0, hkk0⟩ := (hK.2 _ _ ht).1 (j_ln h a0) (fun j => .int (j_it h a0 j))
  obtain ⟨-, k1, hk1, cm1, hkk1⟩ := (hK.2 _ _ ht1).1 (j_ln h a1) (fun j => .int (j_it h a1 j))
  obtain ⟨vm', X', step⟩ := X.arraycopy hexec hown (hts _ w1) (hts _ w2) (hts _ w3) (hts _ w4) (src := a0) (dst := a1) (cs := vp_cell c0 (j_ln h a0, .inl (j_it h a0))) (cd := vp_cell c0 (j_ln h a1, .inl (j_it h a1))) (srcPos := sp) (destPos := dp) (n := n) (by rw [hT1]; exact hc0) (by rw [hT1]; exact hc1)
    (fun _ h => by cases h) (fun _ h => by cases h) (fun h => by cases h) (fun h => by cases h) hk0 hk1 hkk0 hkk1 rfl (nl _ g1) (nl _ g2) (nl _ g3)
    (by show ¬ _ > ((arrV c0 (j_ln h a0) (fun j => .int (j_it h a0 j))).slots.size : Int); rw [arrV_size]; omega)
    (by show ¬ _ > ((arrV c0 (j_ln h a1) (fun j => .int (j_it h a1 j))).slots.size : Int); rw [arrV_size]; omega)
    (fun vm₁ _ k hk => by
      have e : (vp_cell c0 (j_ln h a0, .inl (j_it h a0))).slots.getD (sp.toNatClampNeg + k) .null = .int (j_it h a0 (sp.toNatClampNeg + k)) := by
        show (arrV c0 (j_ln h a0) (fun j => .int (j_it h a0 j))).slots.getD _ _ = _
        rw [Array.getD_eq_getD_getElem?, arrV_read _ _ (by omega)]
        rfl
      refine ⟨?_, ?_⟩
      · rw [e]
        exact (j_vt.fit (ty := .byte) (v := .inl (j_it h a0 (sp.toNatClampNeg + k))) ⟨_, rfl, hel _⟩).2
      · rw [e]
        exact trivial)
    (g := F0 m pc ls (.int n :: .int dp :: .ref a1 :: .int sp :: .ref a0 :: rest)) rfl (by rw [hml]) (rest := rest) rfl (by rw [hb]; exact hdg) hframes (by
      show 2 * 0 + _ + _ ≤ _
      have hw : nativeFrameWords "java/lang/System" "arraycopy" 5 = 7 := (by decide)
      omega)
  have e1 : copied (vp_cell c0 (j_ln h a0, .inl (j_it h a0))) (vp_cell c0 (j_ln h a1, .inl (j_it h a1))) sp dp n = vp_cell c0 (j_ln h a1, .inl (va_cpy (j_it h a0) (j_it h a1) sp.toNatClampNeg dp.toNatClampNeg n.toNatClampNeg)) := va_copied (fun z => .int z) c0 c0 (j_it h a0) (j_it h a1) (by omega)
  rw [e1] at X' step
  have hl : a1 < H.size := (Array.getElem?_eq_some_iff.mp hc1).1
  have hA1 : A a1 := j_ownA hR h1 (by omega)
  generalize hF : va_cpy (j_it h a0) (j_it h a1) sp.toNatClampNeg dp.toNatClampNeg n.toNatClampNeg = F at X' step kk
  have oq : ∀ q : Nat, q ≠ a1 → (H.setIfInBounds a1 (vp_cell c0 (j_ln h a1, .inl F)))[q]? = H[q]? := fun q hq => by simp [Array.getElem?_setIfInBounds, Ne.symm hq]
  have hR1 : j_R D j_fty T A (j_cpi h a1 F) (H.setIfInBounds a1 (vp_cell c0 (j_ln h a1, .inl F))) := by
    refine hR.put rfl rfl (fun b hb k => ⟨if_neg hb, rfl, rfl⟩) ?_ oq
    unfold j_hold
    rw [show j_kd (j_cpi h a1 F) = j_kd h from rfl, h1]
    refine ⟨_, ht1, Or.inl ⟨by omega, ?_⟩⟩
    refine (show (H.setIfInBounds a1 (vp_cell c0 (j_ln h a1, .inl F)))[a1]? = some (vp_cell c0 (j_ln h a1, .inl F)) by simp [Array.getElem?_setIfInBounds, hl]).trans ?_
    show some (arrV c0 (j_ln h a1) (fun j => .int (F j))) = _
    congr 2
    funext k
    show Value.int (F k) = Value.int (if a1 = a1 then F k else _)
    rw [if_pos rfl]
  obtain ⟨t, b1, b2⟩ := kk _ _ hR1 ⟨by simp; exact hS.1, fun q g1 g2 => by
      rw [oq q (fun e => g2 (by rw [e]; exact hA1))]
      exact hS.2.1 q g1 g2, fun q hq => by
      rcases List.mem_append.mp hq with h | h
      · exact hS.2.2 q h
      · obtain ⟨z, -, hz⟩ := List.mem_map.mp h
        rw [← hz]
        exact hA1⟩ _ (by rw [← hT1]; rfl) X'
  exact ⟨t, step t b1, b2⟩
theorem j_clone (hexec : p.tables.exec = Jvm.exec) (hb : c.code = cc) (hml : c.maxLocals = ls.size) (hts : ∀ w ∈ TB, w.before args s = true) (hown : s.vm.findClass own = some m.cls) {i : Nat}
    (w1 : Cond.methodLink own i ⟨"[B", "clone", "()Ljava/lang/Object;"⟩ ∈ TB) (w2 : Cond.sameMethod "[B" "java/lang/Object" "clone" "()Ljava/lang/Object;" ∈ TB) (w3 : Cond.native ⟨"java/lang/Object", "clone", "()Ljava/lang/Object;"⟩ ∈ TB) (w4 : Cond.instanceMethod ⟨"java/lang/Object", "clone", "()Ljava/lang/Object;"⟩ ∈ TB) (w5 : Cond.selects "[B" ⟨"[B", "clone", "()Ljava/lang/Object;"⟩ ⟨"java/lang/Object", "clone", "()Ljava/lang/Object;"⟩ ∈ TB) (hcl : j_cs "[B" "java/lang/Cloneable" s)
    (hK : va_K D vwCl T s) (hT : T.map Prod.snd = j_tys) (hR : j_R D j_fty T A h H) (hS : va_S A H0 H locs) (hA : ∀ q, H0.size ≤ q → A q) {a t : Nat} (ha : j_kd h a = some (.inr t)) (ht : t = 1) (hel : ∀ k : Nat, (j_it h a k).toInt8.toInt32 = j_it h a k)
    (hframes : 1 ≤ R.frames) (hlocals : (rest.map fun v => v.category).sum + 14 ≤ R.locals) (hcells : cells + 1 ≤ R.cells) (hslots : slots + j_ln h a ≤ R.slots) (hdg : decode cc pc = .ok (.invokevirtual i, 3))
    (kk : ∀ (q : Nat) (H1 : Heap), j_kd h q = none → j_R D j_fty T A (j_cln h q a) H1 → va_S A H0 H1 locs → W p l e R s m args below meth c H1 locs (cells + 1) (slots + j_ln h a) Q (F0 m (pc + 3) ls (.ref q :: rest))) : W p l e R s m args below meth c H locs cells slots Q (F0 m pc ls (.ref a :: rest)) := by
  subst ht
  obtain ⟨cA, h1, h2⟩ := j_arrAt hT hR ha (by omega) (ty := .byte) rfl
  have hnm : s.vm.findClass "[B" = some cA := va_nm_byte (hK.2 _ _ h1).2
  have h2 : H[a]? = some (arrV cA (j_ln h a) (fun k => .int (j_it h a k))) := h2
  obtain ⟨c0, t0', f1, f2, f3⟩ := hcl
  cases hnm.symm.trans f1
  intro T1 hT1 X
  obtain ⟨-, kA, hkA, comp, hkind⟩ := State.isArrayOf_alike X.warmed.alike ((hK.2 _ _ h1).1 0 (fun _ => .null))
  obtain ⟨-, kS, hkS, compS, hkindS⟩ := (hK.2 _ _ h1).1 0 (fun _ => .null)
  obtain ⟨vm', X', st⟩ := X.cloneArray hexec hown (hts _ w1) (hts _ w2) (hts _ w3) (hts _ w4) (hts _ w5) (a := a) (cell := arrV cA (j_ln h a) (fun k => .int (j_it h a k))) (by rw [hT1]; exact h2) (fun k h => by cases h) (fun h => by cases h) hnm f2 f3
    (fun i v hv => by
      have hk' : T1.vm.classes[cA]? = some kA := hkA
      have hf := va_fit (cA := cA) (n := j_ln h a) (F := fun k => .int (j_it h a k)) (ty := .byte) (fun i _ => (j_vt.fit (ty := .byte) (v := .inl (j_it h a i)) ⟨_, rfl, hel _⟩).2) i v hv
      simpa [State.fitsSlot, State.slotType?, arrV, hk', hkind] using hf)
    (g := F0 m pc ls (.ref a :: rest)) rfl (by rw [hml]) rfl (by rw [hb]; exact hdg) hframes (by show 2 * 0 + _ + 14 ≤ _; omega) hcells (by rw [arrV_size]; exact hslots) (hloader := Vm.clonesLoader_of_array hkS hkindS)
  rw [arrV_size] at X'
  generalize hC : ({ cls := (arrV cA (j_ln h a) (fun k => .int (j_it h a k))).cls, slots := (arrV cA (j_ln h a) (fun k => .int (j_it h a k))).slots } : Cell) = C at X' st
  have hC2 : C = arrV cA (j_ln h a) (fun k => .int (j_it h a k)) := hC.symm
  generalize hH1 : H.push C = H1
  have z1 : H1.size = H.size + 1 := by rw [← hH1, Array.size_push]
  have e1 : H1[H.size]? = some C := by rw [← hH1, Array.getElem?_push_size]
  have o1 : ∀ q : Nat, q < H.size → H1[q]? = H[q]? := fun q hq => by rw [← hH1, Array.getElem?_push, if_neg (Nat.ne_of_lt hq)]
  have hR1 : j_R D j_fty T A (j_cln h H.size a) H1 := by
    intro b
    by_cases hb : b = H.size
    · subst hb
      have k1 : j_kd (j_cln h H.size a) H.size = some (.inr 1) := if_pos rfl
      refine ⟨?_, ?_⟩
      · unfold j_hold
        rw [k1]
        refine ⟨_, h1, Or.inl ⟨by omega, e1.trans ?_⟩⟩
        rw [hC2, show j_ln (j_cln h H.size a) H.size = j_ln h a from if_pos rfl]
        congr 2
        funext k
        show Value.int (j_it h a k) = Value.int (if H.size = H.size then j_it h a k else _)
        rw [if_pos rfl]
      · unfold j_own
        rw [k1]
        exact fun _ => hA _ hS.1
    · obtain ⟨q1, q2, q3, q4, q5⟩ := j_nw_ne (h := h) (kd := .inr 1) (n := j_ln h a) hb
      have q2' : ∀ k, j_it (j_cln h H.size a) b k = j_it h b k := fun k => (if_neg hb).trans (q2 k)
      refine ⟨?_, (hR b).2.same q1⟩
      cases hk : j_kd h b with
      | none => unfold j_hold; rw [show j_kd (j_cln h H.size a) b = none from q1.trans hk]; trivial
      | some k => exact ((hR b).1.same (h1 := j_cln h H.size a) q1 q2' q3 q4 q5).kept (o1 b (hR.lt hk))
  obtain ⟨t, b1, b2⟩ := kk H.size H1 hR.fresh hR1 (j_S_new hS (by omega) o1) ((T1.setVm vm').pushCell C) (by rw [← hH1, ← hT1]; rfl) X'
  refine ⟨t, st t ?_, b2⟩
  rw [hT1]
  exact b1
end JB
