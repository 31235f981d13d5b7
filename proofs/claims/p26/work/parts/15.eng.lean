/-! rows, arrays: read, written; casts; constants; the ends -/
section JA
variable {p : Program} {l : Launch} {e : Env} {R : Room} {s : State} {m : MethodId} {args : Array Value} {below : List Frame} {meth : Method} {c : Code} {H : Heap} {locs : List Loc} {cells slots : Nat} {Q : State → Prop}
variable {cc : ByteArray} {pc : Nat} {ls : Array Slot} {rest : List Value} {D : va_G} {T : List (ClassId × FieldType)} {A : Nat → Prop} {h : j_H} {own : String} {H0 : Heap}
theorem j_arrAt (hT : T.map Prod.snd = j_tys) (hR : j_R D j_fty T A h H) {a t : Nat} {ty : FieldType} (ha : j_kd h a = some (.inr t)) (ht10 : t < 10) (ht : j_tys[t % 10]? = some ty) : ∃ cA, T[t % 10]? = some (cA, ty) ∧ H[a]? = some (arrV cA (j_ln h a) (fun k => j_m (j_vv ty h a k))) := by
  obtain ⟨y, h1, h2⟩ := (hR a).1.arr ha
  obtain ⟨cA, h3⟩ := j_tyat hT ht
  cases h1.symm.trans h3
  exact ⟨cA, h3, h2.own ht10⟩
/-- of any array: its class, its length, its values -/
theorem j_arrW (hK : va_K D vwCl T s) (hT : T.map Prod.snd = j_tys) (hO : j_O D s) (hR : j_R D j_fty T A h H) {a t : Nat} (ha : j_kd h a = some (.inr t)) : ∃ (ty : FieldType) (cell : Cell), j_tys[t % 10]? = some ty ∧ H[a]? = some cell ∧ s.isArrayOf cell ty ∧ cell.vm ≠ .unknown ∧ (j_ln h a ≤ cell.slots.size ∧ cell.slots.size.toInt32 = Int32.ofNat (j_ln h a)) ∧ ∀ k : Nat, k < j_ln h a → cell.slots[k]? = some (j_m (j_vv ty h a k)) := by
  obtain ⟨⟨y1, y2⟩, h1, h2⟩ := (hR a).1.arr ha
  have hy : j_tys[t % 10]? = some y2 := by rw [← hT, List.getElem?_map, h1]; rfl
  rcases h2 with ⟨-, h3⟩ | ⟨⟨g1, g2⟩, cell, g3, g4, g5, g6, g7, g8⟩
  · exact ⟨y2, _, hy, h3, (hK.2 _ _ h1).1 _ _, (fun q => by cases q), ⟨by rw [arrV_size]; exact Nat.le_refl _, by rw [arrV_size] <;> rfl⟩, fun k hk => arrV_read _ _ hk⟩
  · refine ⟨y2, cell, hy, g3, ⟨g5, ?_⟩, g6, g7, g8⟩
    rw [g4]
    obtain ht | ht | ht : t = 10 ∨ t = 11 ∨ t = 12 := by omega
    · subst ht; cases hy; exact (hO.1 0 (fun _ => .null)).2
    · subst ht; cases hy; exact (hO.2.1 0 (fun _ => .null)).2
    · subst ht; cases hy; exact (hO.2.2 0 (fun _ => .null)).2
theorem j_alen (hexec : p.tables.exec = Jvm.exec) (hb : c.code = cc) (hK : va_K D vwCl T s) (hT : T.map Prod.snd = j_tys) (hO : j_O D s) (hR : j_R D j_fty T A h H) {a t : Nat} (ha : j_kd h a = some (.inr t)) (hdg : decode cc pc = .ok (.arraylength, 1))
    (kk : W p l e R s m args below meth c H locs cells slots Q (F0 m (pc + 1) ls (.int (nI (j_ln h a)) :: rest))) : W p l e R s m args below meth c H locs cells slots Q (F0 m pc ls (.ref a :: rest)) := by
  obtain ⟨ty, cell, -, h2, h3, h4, h5, h6⟩ := j_arrW hK hT hO hR ha
  exact W.alen (n := nI (j_ln h a)) hexec hb h2 h3 h5.2 rfl rfl hdg kk
theorem j_iald (hexec : p.tables.exec = Jvm.exec) (hb : c.code = cc) (hK : va_K D vwCl T s) (hT : T.map Prod.snd = j_tys) (hO : j_O D s) (hR : j_R D j_fty T A h H) {a t : Nat} {ty : FieldType} {ins : Instr} (ha : j_kd h a = some (.inr t)) (hi : (ins = .iaload ∧ j_tys[t % 10]? = some ty ∧ ty = .int) ∨ (ins = .baload ∧ j_tys[t % 10]? = some ty ∧ ty = .byte)) {i : Int32} (hin : vp_in i (j_ln h a)) (hdg : decode cc pc = .ok (ins, 1))
    (kk : W p l e R s m args below meth c H locs cells slots Q (F0 m (pc + 1) ls (.int (j_it h a i.toNatClampNeg) :: rest))) : W p l e R s m args below meth c H locs cells slots Q (F0 m pc ls (.int i :: .ref a :: rest)) := by
  have hlt : i.toNatClampNeg < j_ln h a := Nat.not_le.mp fun q => hin (Or.inr q)
  rcases hi with ⟨rfl, ht, rfl⟩ | ⟨rfl, ht, rfl⟩
  · obtain ⟨ty, cell, q1, h2, h3, h4, h5, h6⟩ := j_arrW hK hT hO hR ha
    cases q1.symm.trans ht
    exact W.iald (v := .int (j_it h a i.toNatClampNeg)) hexec hb h2 h3 h4 (fun q => q.elim (fun z => hin (Or.inl z)) fun z => by have := h5.1; omega) (h6 _ hlt) rfl rfl hdg kk
  · obtain ⟨ty, cell, q1, h2, h3, h4, h5, h6⟩ := j_arrW hK hT hO hR ha
    cases q1.symm.trans ht
    exact W.bald (v := .int (j_it h a i.toNatClampNeg)) hexec hb h2 h3 h4 (fun q => q.elim (fun z => hin (Or.inl z)) fun z => by have := h5.1; omega) (h6 _ hlt) rfl rfl hdg kk
theorem j_aald (hexec : p.tables.exec = Jvm.exec) (hb : c.code = cc) (hK : va_K D vwCl T s) (hT : T.map Prod.snd = j_tys) (hO : j_O D s) (hR : j_R D j_fty T A h H) {a t : Nat} (ha : j_kd h a = some (.inr t)) (ht : t % 10 = 2) {i : Int32} (hin : vp_in i (j_ln h a)) (hdg : decode cc pc = .ok (.aaload, 1))
    (kk : W p l e R s m args below meth c H locs cells slots Q (F0 m (pc + 1) ls (va_rf (j_rf h a i.toNatClampNeg) :: rest))) : W p l e R s m args below meth c H locs cells slots Q (F0 m pc ls (.int i :: .ref a :: rest)) := by
  have hlt : i.toNatClampNeg < j_ln h a := Nat.not_le.mp fun q => hin (Or.inr q)
  obtain ⟨ty, cell, q1, h2, h3, h4, h5, h6⟩ := j_arrW hK hT hO hR ha
  rw [ht] at q1
  cases q1
  exact W.aald (v := va_rf (j_rf h a i.toNatClampNeg)) (ty := .object "java/lang/Object") hexec hb h2 h3 rfl h4 (fun q => q.elim (fun z => hin (Or.inl z)) fun z => by have := h5.1; omega) (h6 _ hlt) rfl rfl hdg kk
/-- a row's element written -/
theorem j_R.ast {H1 : Heap} {a t k : Nat} {ty : FieldType} {cA : ClassId} {v : j_V} (hT : T.map Prod.snd = j_tys) (hR : j_R D j_fty T A h H) (ha : j_kd h a = some (.inr t)) (ht10 : t < 10) (ht : j_tys[t % 10]? = some ty) (h1 : T[t % 10]? = some (cA, ty)) (hv : j_vt ty v) (e : H1[a]? = some (arrV cA (j_ln h a) (updV (fun k => j_m (j_vv ty h a k)) k (j_m v)))) (oq : ∀ q : Nat, q ≠ a → H1[q]? = H[q]?) : j_R D j_fty T A (j_up h a k v) H1 := by
  refine hR.put (j_up_kd h a k v).1 (j_up_kd h a k v).2.1 (fun b hb j => j_up_ne h v hb j) ?_ oq
  unfold j_hold
  rw [show j_kd (j_up h a k v) = j_kd h from (j_up_kd h a k v).1, ha]
  refine ⟨(cA, ty), h1, Or.inl ⟨ht10, e.trans ?_⟩⟩
  rw [(j_up_kd h a k v).2.1]
  congr 2
  funext j
  unfold updV
  by_cases hj : j = k
  · subst hj
    rw [if_pos rfl, j_up_at hv]
  · rw [if_neg hj, j_up_nk v hj]
theorem j_ownA {a t : Nat} (hR : j_R D j_fty T A h H) (ha : j_kd h a = some (.inr t)) (ht : t < 10) : A a := by
  have := (hR a).2
  unfold j_own at this
  rw [ha] at this
  exact this ht
theorem j_iast (hexec : p.tables.exec = Jvm.exec) (hb : c.code = cc) (hK : va_K D vwCl T s) (hT : T.map Prod.snd = j_tys) (hR : j_R D j_fty T A h H) (hS : va_S A H0 H locs) {a : Nat} (ha : j_kd h a = some (.inr 0)) {i x : Int32} (hin : vp_in i (j_ln h a)) (hdg : decode cc pc = .ok (.iastore, 1))
    (kk : ∀ (H1 : Heap) (locs1 : List Loc), j_R D j_fty T A (j_ui h a i.toNatClampNeg x) H1 → va_S A H0 H1 locs1 → W p l e R s m args below meth c H1 locs1 cells slots Q (F0 m (pc + 1) ls rest)) : W p l e R s m args below meth c H locs cells slots Q (F0 m pc ls (.int x :: .int i :: .ref a :: rest)) := by
  obtain ⟨cA, h1, h2⟩ := j_arrAt hT hR ha (by omega) (ty := .int) rfl
  refine W.iast hexec hb h2 ((hK.2 _ _ h1).1 _ _) (fun q => by cases q) (by show ¬ (i < 0 ∨ (arrV _ _ _).slots.size ≤ _); rw [arrV_size]; exact hin) rfl rfl hdg fun H1 e z oq => ?_
  rw [arrV_store] at e
  exact kk H1 _ (hR.ast (v := .inl x) hT ha (by omega) rfl h1 ⟨x, rfl⟩ e oq) (hS.put z oq (j_ownA hR ha (by omega)))
theorem j_bast (hexec : p.tables.exec = Jvm.exec) (hb : c.code = cc) (hK : va_K D vwCl T s) (hT : T.map Prod.snd = j_tys) (hR : j_R D j_fty T A h H) (hS : va_S A H0 H locs) {a : Nat} (ha : j_kd h a = some (.inr 1)) {i x : Int32} (hin : vp_in i (j_ln h a)) (hdg : decode cc pc = .ok (.bastore, 1))
    (kk : ∀ (H1 : Heap) (locs1 : List Loc), j_R D j_fty T A (j_ui h a i.toNatClampNeg x.toInt8.toInt32) H1 → va_S A H0 H1 locs1 → W p l e R s m args below meth c H1 locs1 cells slots Q (F0 m (pc + 1) ls rest)) : W p l e R s m args below meth c H locs cells slots Q (F0 m pc ls (.int x :: .int i :: .ref a :: rest)) := by
  obtain ⟨cA, h1, h2⟩ := j_arrAt hT hR ha (by omega) (ty := .byte) rfl
  refine W.bast hexec hb h2 ((hK.2 _ _ h1).1 _ _) (fun q => by cases q) (by show ¬ (i < 0 ∨ (arrV _ _ _).slots.size ≤ _); rw [arrV_size]; exact hin) rfl rfl hdg fun H1 e z oq => ?_
  rw [arrV_store] at e
  exact kk H1 _ (hR.ast (v := .inl x.toInt8.toInt32) hT ha (by omega) rfl h1 ⟨_, rfl, by have := pk_nb x; simpa [narrow] using this⟩ e oq) (hS.put z oq (j_ownA hR ha (by omega)))
theorem j_recv (hK : va_K D vwCl T s) (hR : j_R D j_fty T A h H) {a ci : Nat} {r : vw_C} (ha : j_kd h a = some (.inl ci)) (hc : vwCl[ci]? = some r) : ∃ cell : Cell, H[a]? = some cell ∧ cell.vm = .none ∧ s.vm.findClass r.1 = some cell.cls := by
  obtain ⟨r', hc', cell, g1, g2, g3, -⟩ := (hR a).1.obj ha
  cases hc.symm.trans hc'
  exact ⟨cell, g1, g3, by rw [g2]; exact (hK.1 ci _ hc).2.1⟩
/-- what may stand in an array of objects: an object, or an array of ints -/
def j_ok (h : j_H) (y : Nat) : Prop := (∃ c, j_kd h y = some (.inl c)) ∨ j_kd h y = some (.inr 0)
theorem j_ok.mv {h h1 : j_H} {y : Nat} (o : j_ok h y) (k : j_kd h1 y = j_kd h y) : j_ok h1 y := by
  unfold j_ok
  rw [k]
  exact o
theorem j_ok.nn {h : j_H} {y : Nat} (o : j_ok h y) : j_kd h y ≠ none := by
  rcases o with ⟨c, h⟩ | h <;> rw [h] <;> exact fun z => nomatch z
theorem j_okc (hK : va_K D vwCl T s) (hT : T.map Prod.snd = j_tys) (hX : ∀ (c : Nat) (r : vw_C), vwCl[c]? = some r → j_cs r.1 "java/lang/Object" s) (hXi : j_cs "[I" "java/lang/Object" s) (hR : j_R D j_fty T A h H) {v : Nat} (o : j_ok h v) : ∃ (cellV : Cell) (nm : String), H[v]? = some cellV ∧ cellV.vm = .none ∧ s.vm.findClass nm = some cellV.cls ∧ j_cs nm "java/lang/Object" s := by
  rcases o with ⟨c, hv⟩ | hv
  · obtain ⟨r, hc, -⟩ := (hR v).1.obj hv
    obtain ⟨cellV, g1, g2, g3⟩ := j_recv hK hR hv hc
    exact ⟨cellV, r.1, g1, g2, g3, hX c r hc⟩
  · obtain ⟨cA, h1, h2⟩ := j_arrAt hT hR hv (by omega) (ty := .int) rfl
    exact ⟨_, "[I", h2, rfl, (hK.2 _ _ h1).2, hXi⟩
theorem j_aast (hexec : p.tables.exec = Jvm.exec) (hb : c.code = cc) (hK : va_K D vwCl T s) (hT : T.map Prod.snd = j_tys) (hX : ∀ (c : Nat) (r : vw_C), vwCl[c]? = some r → j_cs r.1 "java/lang/Object" s) (hXi : j_cs "[I" "java/lang/Object" s) (hR : j_R D j_fty T A h H) (hS : va_S A H0 H locs) {a v : Nat} (ha : j_kd h a = some (.inr 2)) (hv : j_ok h v) {i : Int32} (hin : vp_in i (j_ln h a)) (hdg : decode cc pc = .ok (.aastore, 1))
    (kk : ∀ (H1 : Heap) (locs1 : List Loc), j_R D j_fty T A (j_ur h a i.toNatClampNeg (some v)) H1 → va_S A H0 H1 locs1 → W p l e R s m args below meth c H1 locs1 cells slots Q (F0 m (pc + 1) ls rest)) : W p l e R s m args below meth c H locs cells slots Q (F0 m pc ls (.ref v :: .int i :: .ref a :: rest)) := by
  obtain ⟨cA, h1, h2⟩ := j_arrAt hT hR ha (by omega) (ty := .object "java/lang/Object") rfl
  obtain ⟨kA, comp, k1, k2, k3, -⟩ := (hK.2 _ _ h1).2
  obtain ⟨cellV, nm, g1, g2, g3, c0, c1, x1, x2, x3⟩ := j_okc hK hT hX hXi hR hv
  obtain ⟨kC, hkC, -⟩ := Vm.findClass_spec k3
  obtain ⟨kV, hkV, -⟩ := Vm.findClass_spec g3
  have e0 : cellV.cls = c0 := Option.some.inj (g3.symm.trans x1)
  have e1 : comp = c1 := Option.some.inj (k3.symm.trans x2)
  have hlt : i.toNatClampNeg < j_ln h a := Nat.not_le.mp fun q => hin (Or.inr q)
  have h0 : ¬ i < 0 := fun q => hin (Or.inl q)
  refine W.aast hexec hb h2 (fun q h => by cases h) (fun h => by cases h) k1 k2 rfl hkC ⟨h0, by show _ < (arrV _ _ _).slots.size; rw [arrV_size]; exact hlt⟩ g1 (fun q h => by rw [g2] at h; cases h) hkV (by rw [e0, e1]; exact x3) rfl rfl hdg fun H1 e z oq => ?_
  rw [arrV_store] at e
  exact kk H1 _ (hR.ast (v := .inr (.inr (some v))) hT ha (by omega) rfl h1 ⟨_, rfl⟩ e oq) (hS.put z oq (j_ownA hR ha (by omega)))
theorem j_cast (hexec : p.tables.exec = Jvm.exec) (hb : c.code = cc) (hts : ∀ w ∈ TB, w.before args s = true) (hown : s.vm.findClass own = some m.cls) (hK : va_K D vwCl T s) (hR : j_R D j_fty T A h H) {a ci i : Nat} {r : vw_C} (ha : j_kd h a = some (.inl ci)) (hc : vwCl[ci]? = some r) (hw : Cond.classLink own i r.1 ∈ TB) (hdg : decode cc pc = .ok (.checkcast i, 3))
    (kk : W p l e R s m args below meth c H locs cells slots Q (F0 m (pc + 3) ls (.ref a :: rest))) : W p l e R s m args below meth c H locs cells slots Q (F0 m pc ls (.ref a :: rest)) := by
  obtain ⟨cell, g1, g2, g3⟩ := j_recv hK hR ha hc
  exact va_castS hexec hb hown (hts _ hw) (hK.1 ci r hc).2 ⟨cell, g1, by rw [g2]; rfl, g3⟩ hdg kk
theorem j_castA (hexec : p.tables.exec = Jvm.exec) (hb : c.code = cc) (hts : ∀ w ∈ TB, w.before args s = true) (hown : s.vm.findClass own = some m.cls) (hK : va_K D vwCl T s) (hT : T.map Prod.snd = j_tys) (hR : j_R D j_fty T A h H) {a t i : Nat} (ha : j_kd h a = some (.inr t)) (hw : (t = 0 ∧ Cond.classLink own i "[I" ∈ TB) ∨ (t = 1 ∧ Cond.classLink own i "[B" ∈ TB)) (hdg : decode cc pc = .ok (.checkcast i, 3))
    (kk : W p l e R s m args below meth c H locs cells slots Q (F0 m (pc + 3) ls (.ref a :: rest))) : W p l e R s m args below meth c H locs cells slots Q (F0 m pc ls (.ref a :: rest)) := by
  rcases hw with ⟨rfl, hw⟩ | ⟨rfl, hw⟩
  · obtain ⟨cA, h1, h2⟩ := j_arrAt hT hR ha (by omega) (ty := .int) rfl
    intro T0 hT0 X
    obtain ⟨vm', X', st⟩ := X.checkcastYes hexec hown (hts _ hw) (by rw [hT0]; exact h2) rfl (show s.vm.findClass "[I" = some cA from (hK.2 _ _ h1).2) (va_asg _ _) (g := F0 m pc ls (.ref a :: rest)) rfl rfl (by rw [hb]; exact hdg)
    obtain ⟨t, a1, b1⟩ := kk (T0.setVm vm') hT0 X'
    exact ⟨t, st t a1, b1⟩
  · obtain ⟨cA, h1, h2⟩ := j_arrAt hT hR ha (by omega) (ty := .byte) rfl
    intro T0 hT0 X
    obtain ⟨vm', X', st⟩ := X.checkcastYes hexec hown (hts _ hw) (by rw [hT0]; exact h2) rfl (show s.vm.findClass "[B" = some cA from (hK.2 _ _ h1).2) (va_asg _ _) (g := F0 m pc ls (.ref a :: rest)) rfl rfl (by rw [hb]; exact hdg)
    obtain ⟨t, a1, b1⟩ := kk (T0.setVm vm') hT0 X'
    exact ⟨t, st t a1, b1⟩
/-- System.arraycopy of references -/
def j_cp (h : j_H) (a1 : Nat) (r : Nat → Option Nat) : j_H := (h.1, h.2.1, h.2.2.1, fun b j => if b = a1 then r j else h.2.2.2.1 b j, h.2.2.2.2)
theorem j_copyq (hexec : p.tables.exec = Jvm.exec) (hb : c.code = cc) (hml : c.maxLocals = ls.size) (hts : ∀ w ∈ TB, w.before args s = true) (hown : s.vm.findClass own = some m.cls) {i : Nat} (w1 : Cond.methodLink own i arraycopyName ∈ TB) (w2 : Cond.native arraycopyName ∈ TB) (w3 : Cond.static arraycopyName ∈ TB) (w4 : Cond.initialized "java/lang/System" ∈ TB)
    (hK : va_K D vwCl T s) (hT : T.map Prod.snd = j_tys) (hX : ∀ (c : Nat) (r : vw_C), vwCl[c]? = some r → j_cs r.1 "java/lang/Object" s) (hXi : j_cs "[I" "java/lang/Object" s) (hR : j_R D j_fty T A h H) (hS : va_S A H0 H locs) {a0 a1 t0 : Nat} (h0 : j_kd h a0 = some (.inr t0)) (ht0 : t0 = 2) (h1 : j_kd h a1 = some (.inr 2))
    {sp dp n : Int32} (g1 : 0 ≤ sp.toInt) (g2 : 0 ≤ dp.toInt) (g3 : 0 ≤ n.toInt) (g4 : sp.toInt + n.toInt ≤ (j_ln h a0 : Int)) (g5 : dp.toInt + n.toInt ≤ (j_ln h a1 : Int)) (hel : ∀ (k y : Nat), j_rf h a0 k = some y → (k : Int) < sp.toInt + n.toInt → j_ok h y)
    (hframes : 1 ≤ R.frames) (hlocals : (rest.map fun v => v.category).sum + 18 ≤ R.locals) (hdg : decode cc pc = .ok (.invokestatic i, 3))
    (kk : ∀ (H1 : Heap) (locs1 : List Loc), j_R D j_fty T A (j_cp h a1 (va_cpy (j_rf h a0) (j_rf h a1) sp.toNatClampNeg dp.toNatClampNeg n.toNatClampNeg)) H1 → va_S A H0 H1 locs1 → W p l e R s m args below meth c H1 locs1 cells slots Q (F0 m (pc + 3) ls rest)) :
    W p l e R s m args below meth c H locs cells slots Q (F0 m pc ls (.int n :: .int dp :: .ref a1 :: .int sp :: .ref a0 :: rest)) := by
  have nn : ∀ z : Int32, 0 ≤ z.toInt → z.toInt = (z.toNatClampNeg : Int) := by
    intro z hz
    show z.toInt = ((z.toInt.toNat : Nat) : Int)
    omega
  have nl : ∀ z : Int32, 0 ≤ z.toInt → ¬ z < 0 := fun z hz q => by
    rw [Int32.lt_iff_toInt_lt, Int32.toInt_zero] at q
    omega
  subst ht0
  obtain ⟨c0, ht, hc0⟩ := j_arrAt hT hR h0 (by omega) (ty := .object "java/lang/Object") rfl
  obtain ⟨c1, ht1, hc1⟩ := j_arrAt hT hR h1 (by omega) (ty := .object "java/lang/Object") rfl
  cases ht.symm.trans ht1
  have f1 := nn sp g1
  have f2 := nn dp g2
  have f3 := nn n g3
  intro T1 hT1 X
  obtain ⟨-, k0, hk0, cm0, hkk0⟩ := (hK.2 _ _ ht).1 (j_ln h a0) (fun j => va_rf (j_rf h a0 j))
  obtain ⟨-, k1, hk1, cm1, hkk1⟩ := (hK.2 _ _ ht1).1 (j_ln h a1) (fun j => va_rf (j_rf h a1 j))
  obtain ⟨vm', X', step⟩ := X.arraycopy hexec hown (hts _ w1) (hts _ w2) (hts _ w3) (hts _ w4) (src := a0) (dst := a1) (cs := vp_cell c0 (j_ln h a0, .inr (.inr (.inr (.inr (j_rf h a0)))))) (cd := vp_cell c0 (j_ln h a1, .inr (.inr (.inr (.inr (j_rf h a1)))))) (srcPos := sp) (destPos := dp) (n := n) (by rw [hT1]; exact hc0) (by rw [hT1]; exact hc1)
    (fun _ h => by cases h) (fun _ h => by cases h) (fun h => by cases h) (fun h => by cases h) hk0 hk1 hkk0 hkk1 rfl (nl _ g1) (nl _ g2) (nl _ g3)
    (by show ¬ _ > ((arrV c0 (j_ln h a0) (fun j => va_rf (j_rf h a0 j))).slots.size : Int); rw [arrV_size]; omega)
    (by show ¬ _ > ((arrV c0 (j_ln h a1) (fun j => va_rf (j_rf h a1 j))).slots.size : Int); rw [arrV_size]; omega)
    (fun vm₁ hal k hk => by
      have e : (vp_cell c0 (j_ln h a0, .inr (.inr (.inr (.inr (j_rf h a0)))))).slots.getD (sp.toNatClampNeg + k) .null = va_rf (j_rf h a0 (sp.toNatClampNeg + k)) := by
        show (arrV c0 (j_ln h a0) (fun j => va_rf (j_rf h a0 j))).slots.getD _ _ = _
        rw [Array.getD_eq_getD_getElem?, arrV_read _ _ (by omega)]
        rfl
      rw [e]
      cases hy : j_rf h a0 (sp.toNatClampNeg + k) with
      | none => exact ⟨rfl, trivial⟩
      | some y =>
        obtain ⟨cellV, nm, q1, q2, q3, d0, d1, x1, x2, x3⟩ := j_okc hK hT hX hXi hR (hel _ y hy (by omega))
        obtain ⟨kA, comp, r1, r2, r3, -⟩ := (hK.2 _ _ ht1).2
        cases hk1.symm.trans r1
        cases hkk1.symm.trans r2
        obtain ⟨kC, hkC, -⟩ := Vm.findClass_spec q3
        obtain ⟨kE, hkE, -⟩ := Vm.findClass_spec r3
        obtain ⟨kC', hkC', -⟩ := hal.2.2 _ _ hkC
        obtain ⟨kE', hkE', -⟩ := hal.2.2 _ _ hkE
        refine ⟨rfl, cellV, (show T1.heap[y]? = some cellV by rw [hT1]; exact q1), (fun q h => by rw [q2] at h; cases h), ⟨kC', hkC'⟩, ?_, ?_⟩
        · exact ⟨kE', hkE'⟩
        · show vm₁.assignable _ _ = true
          rw [hal.assignable, show cellV.cls = d0 from Option.some.inj (q3.symm.trans x1), show cm1 = d1 from Option.some.inj (r3.symm.trans x2)]
          exact x3)
    (g := F0 m pc ls (.int n :: .int dp :: .ref a1 :: .int sp :: .ref a0 :: rest)) rfl (by rw [hml]) (rest := rest) rfl (by rw [hb]; exact hdg) hframes (by
      show 2 * 0 + _ + _ ≤ _
      have hw : nativeFrameWords "java/lang/System" "arraycopy" 5 = 7 := (by decide)
      omega)
  have e1 : copied (vp_cell c0 (j_ln h a0, .inr (.inr (.inr (.inr (j_rf h a0)))))) (vp_cell c0 (j_ln h a1, .inr (.inr (.inr (.inr (j_rf h a1)))))) sp dp n = vp_cell c0 (j_ln h a1, .inr (.inr (.inr (.inr (va_cpy (j_rf h a0) (j_rf h a1) sp.toNatClampNeg dp.toNatClampNeg n.toNatClampNeg))))) := by
    rw [vp_cell_q, vp_cell_q, vp_cell_q]
    exact va_copied (fun z => va_rf z) c0 c0 (j_rf h a0) (j_rf h a1) (by omega)
  rw [e1] at X' step
  have hl : a1 < H.size := (Array.getElem?_eq_some_iff.mp hc1).1
  have hA1 : A a1 := j_ownA hR h1 (by omega)
  have oq : ∀ q : Nat, q ≠ a1 → (H.setIfInBounds a1 (vp_cell c0 (j_ln h a1, .inr (.inr (.inr (.inr (va_cpy (j_rf h a0) (j_rf h a1) sp.toNatClampNeg dp.toNatClampNeg n.toNatClampNeg)))))))[q]? = H[q]? := fun q hq => by simp [Array.getElem?_setIfInBounds, Ne.symm hq]
  have hR1 : j_R D j_fty T A (j_cp h a1 (va_cpy (j_rf h a0) (j_rf h a1) sp.toNatClampNeg dp.toNatClampNeg n.toNatClampNeg)) (H.setIfInBounds a1 (vp_cell c0 (j_ln h a1, .inr (.inr (.inr (.inr (va_cpy (j_rf h a0) (j_rf h a1) sp.toNatClampNeg dp.toNatClampNeg n.toNatClampNeg))))))) := by
    refine hR.put rfl rfl (fun b hb k => ⟨rfl, rfl, if_neg hb⟩) ?_ oq
    unfold j_hold
    rw [show j_kd (j_cp h a1 (va_cpy (j_rf h a0) (j_rf h a1) sp.toNatClampNeg dp.toNatClampNeg n.toNatClampNeg)) = j_kd h from rfl, h1]
    refine ⟨_, ht1, Or.inl ⟨by omega, ?_⟩⟩
    refine (show (H.setIfInBounds a1 (vp_cell c0 (j_ln h a1, .inr (.inr (.inr (.inr (va_cpy (j_rf h a0) (j_rf h a1) sp.toNatClampNeg dp.toNatClampNeg n.toNatClampNeg)))))))[a1]? = some (vp_cell c0 (j_ln h a1, .inr (.inr (.inr (.inr (va_cpy (j_rf h a0) (j_rf h a1) sp.toNatClampNeg dp.toNatClampNeg n.toNatClampNeg)))))) by simp [Array.getElem?_setIfInBounds, hl]).trans ?_
    rw [vp_cell_q]
    congr 2
    funext k
    show va_rf _ = va_rf (if a1 = a1 then _ else _)
    rw [if_pos rfl]
  obtain ⟨t, b1, b2⟩ := kk _ _ hR1 ⟨by simp; exact hS.1, fun q g1 g2 => by
      rw [oq q (fun e => g2 (by rw [e]; exact hA1))]
      exact hS.2.1 q g1 g2, fun q hq => by
      rcases List.mem_append.mp hq with h | h
      · exact hS.2.2 q h
      · obtain ⟨z, -, hz⟩ := List.mem_map.mp h
        rw [← hz]
        exact hA1⟩ _ (by rw [← hT1]; rfl) X'
  exact ⟨t, step t b1, b2⟩
theorem j_getC (hexec : p.tables.exec = Jvm.exec) (hb : c.code = cc) (hml : c.maxLocals = ls.size) (hts : ∀ w ∈ TB, w.before args s = true) (hown : s.vm.findClass own = some m.cls) (hK : va_K D vwCl T s) (hT : T.map Prod.snd = j_tys) (hR : j_R D j_fty T A h H) {i a t mi : Nat} (w1 : Cond.methodLink own i ⟨"java/lang/Object", "getClass", "()Ljava/lang/Class;"⟩ ∈ TB) (w2 : (Cond.declares ⟨"java/lang/Object", "getClass", "()Ljava/lang/Class;"⟩).before #[] s = true)
    (w3 : Cond.selects "[Ljava/lang/Object;" ⟨"java/lang/Object", "getClass", "()Ljava/lang/Class;"⟩ ⟨"java/lang/Object", "getClass", "()Ljava/lang/Class;"⟩ ∈ TB) (w4 : Cond.instanceMethod ⟨"java/lang/Object", "getClass", "()Ljava/lang/Class;"⟩ ∈ TB) (w5 : Cond.native ⟨"java/lang/Object", "getClass", "()Ljava/lang/Class;"⟩ ∈ TB) (hM : va_Mi "[Ljava/lang/Object;" mi s)
    (ha : j_kd h a = some (.inr t)) (ht : t = 2) (hframes : 1 ≤ R.frames) (hlocals : (rest.map fun v => v.category).sum + 14 ≤ R.locals) (hdg : decode cc pc = .ok (.invokevirtual i, 3))
    (kk : W p l e R s m args below meth c H locs cells slots Q (F0 m (pc + 3) ls (.ref mi :: rest))) : W p l e R s m args below meth c H locs cells slots Q (F0 m pc ls (.ref a :: rest)) := by
  subst ht
  obtain ⟨cA, h1, h2⟩ := j_arrAt hT hR ha (by omega) (ty := .object "java/lang/Object") rfl
  exact va_getC hexec hb hml hown (hts _ w1) (va_any rfl w2) (hts _ w3) (hts _ w4) (hts _ w5) hM ⟨_, h2, rfl, va_nmO (hK.2 _ _ h1).2 (by decide)⟩ hframes hlocals hdg kk
/-- the ends -/
theorem j_iret {Qc : Array Value → State → Outcome → State → Prop} {XC : String → State → State → Prop} {free : Addr → Prop} {mc ms : Nat} {v : Int32} {ret : Option FieldType} (hexec : p.tables.exec = Jvm.exec) (hb : c.code = cc) (hr : meth.sig.returnType = ret) (hlocks : meth.locks = false) (hv : ∃ ty, ret = some ty ∧ j_vt ty (.inl v))
    (hc : cells ≤ mc) (hs : slots ≤ ms) (hq : ∀ t : State, t.heap = H → s.WarmedH t.vm → Qc args s (.returned (some (.int v))) t) (hf : ∀ q ∈ locs, free q.base) (hdg : decode cc pc = .ok (.ireturn, 1)) : W p l e R s m args below meth c H locs cells slots (vx_MQ below Qc XC args s mc ms free) (F0 m pc ls [.int v]) := by
  obtain ⟨ty, rfl, hv⟩ := hv
  exact vx_ret (W.widen hc hs (W.zret hexec hb hr hv.fit.1 hq hf hdg hlocks))
theorem j_lret {Qc : Array Value → State → Outcome → State → Prop} {XC : String → State → State → Prop} {free : Addr → Prop} {mc ms : Nat} {v : Int64} (hexec : p.tables.exec = Jvm.exec) (hb : c.code = cc) (hr : meth.sig.returnType = some .long) (hlocks : meth.locks = false)
    (hc : cells ≤ mc) (hs : slots ≤ ms) (hq : ∀ t : State, t.heap = H → s.WarmedH t.vm → Qc args s (.returned (some (.long v))) t) (hf : ∀ q ∈ locs, free q.base) (hdg : decode cc pc = .ok (.lreturn, 1)) : W p l e R s m args below meth c H locs cells slots (vx_MQ below Qc XC args s mc ms free) (F0 m pc ls [.long v]) :=
  vx_ret (W.widen hc hs (W.lret hexec hb hr hq hf hdg hlocks))
theorem j_vret {Qc : Array Value → State → Outcome → State → Prop} {XC : String → State → State → Prop} {free : Addr → Prop} {mc ms : Nat} (hexec : p.tables.exec = Jvm.exec) (hb : c.code = cc) (hr : meth.sig.returnType = none) (hlocks : meth.locks = false)
    (hc : cells ≤ mc) (hs : slots ≤ ms) (hq : ∀ t : State, t.heap = H → s.WarmedH t.vm → Qc args s (.returned none) t) (hf : ∀ q ∈ locs, free q.base) (hdg : decode cc pc = .ok (.return_, 1)) : W p l e R s m args below meth c H locs cells slots (vx_MQ below Qc XC args s mc ms free) (F0 m pc ls []) :=
  vx_ret (W.widen hc hs (W.vret hexec hb hr hq hf hdg hlocks))
theorem j_aret {Qc : Array Value → State → Outcome → State → Prop} {XC : String → State → State → Prop} {free : Addr → Prop} {mc ms : Nat} {o : Option Nat} {ret : Option FieldType} (hexec : p.tables.exec = Jvm.exec) (hb : c.code = cc) (hr : meth.sig.returnType = ret) (hlocks : meth.locks = false) (hv : ∃ ty, ret = some ty ∧ ((∃ n, ty = .object n) ∨ ∃ t, ty = .array t))
    (hc : cells ≤ mc) (hs : slots ≤ ms) (hq : ∀ t : State, t.heap = H → s.WarmedH t.vm → Qc args s (.returned (some (va_rf o))) t) (hf : ∀ q ∈ locs, free q.base) (hdg : decode cc pc = .ok (.areturn, 1)) : W p l e R s m args below meth c H locs cells slots (vx_MQ below Qc XC args s mc ms free) (F0 m pc ls [va_rf o]) := by
  obtain ⟨ty, rfl, hv⟩ := hv
  exact vx_ret (W.widen hc hs (W.aret hexec hb hr hv (by cases o <;> simp [va_rf]) hq hf hdg hlocks))
end JA
