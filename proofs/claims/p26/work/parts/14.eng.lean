/-! the rows of the heap over the little heap -/
section JH
variable {p : Program} {l : Launch} {e : Env} {R : Room} {s : State} {m : MethodId} {args : Array Value} {below : List Frame} {meth : Method} {c : Code} {H : Heap} {locs : List Loc} {cells slots : Nat} {Q : State → Prop}
variable {cc : ByteArray} {pc : Nat} {ls : Array Slot} {rest : List Value} {D : va_G} {T : List (ClassId × FieldType)} {A : Nat → Prop} {h : j_H} {own : String} {H0 : Heap}
/-- a field's place in the pool: by the class's own link, or a nest mate's -/
def j_fl (own : String) (i c k : Nat) : Prop := ∃ (r : vw_C) (ref : String), vwCl[c]? = some r ∧ k < r.2.2 ∧
  (Cond.fieldLink own i ref (r.2.1 k).2.1 (r.2.1 k).2.2.1 ∈ TB ∨ ∃ host, Cond.fieldLinkNest own i ref (r.2.1 k).2.1 (r.2.1 k).2.2.1 host ∈ j_nest) ∧
  (ref = (r.2.1 k).1 ∨ Cond.sameField ref (r.2.1 k).1 (r.2.1 k).2.1 (r.2.1 k).2.2.1 ∈ TB)
theorem j_get (hexec : p.tables.exec = Jvm.exec) (hb : c.code = cc) (hts : ∀ w ∈ TB, w.before args s = true) (hnw : ∀ w ∈ j_nest, w.before #[] s = true) (hown : s.vm.findClass own = some m.cls) (hK : va_K D vwCl T s) (hR : j_R D j_fty T A h H)
    {i k a ci : Nat} (hl : j_fl own i ci k) (ha : j_kd h a = some (.inl ci)) (hdg : decode cc pc = .ok (.getfield i, 3))
    (kk : W p l e R s m args below meth c H locs cells slots Q (F0 m (pc + 3) ls (j_m (j_vv (j_fty ci k) h a k) :: rest))) : W p l e R s m args below meth c H locs cells slots Q (F0 m pc ls (.ref a :: rest)) := by
  obtain ⟨r, ref, hc, hk, hlk, hsm⟩ := hl
  obtain ⟨hin, -, -, -⟩ := j_cls ci r hc
  obtain ⟨r', hc', ob⟩ := (hR a).1.obj ha
  cases hc.symm.trans hc'
  obtain ⟨fs, hfs⟩ : ∃ fs : List Value, fs = (List.range r.2.2).map (fun k => j_m (j_vv (j_fty ci k) h a k)) := ⟨_, rfl⟩
  have hv : fs[k]? = some (j_m (j_vv (j_fty ci k) h a k)) := by rw [hfs]; simp [hk]
  have hP : va_P D vwCl [(a, .inr (ci, fs))] H := by
    intro n q hn
    cases n with
    | zero =>
      cases hn
      refine ⟨r, hc, ob.to (fun j hj => ?_)⟩
      rw [hfs]
      simp [vp_V, hj]
    | succ n => cases hn
  have hsame : ∀ x, s.fieldFound? (r.2.1 k).1 (r.2.1 k).2.1 (r.2.1 k).2.2.1 = some x → s.fieldFound? ref (r.2.1 k).2.1 (r.2.1 k).2.2.1 = some x := by
    intro x hx
    rcases hsm with rfl | hw
    · exact hx
    · exact u_same (hts _ hw) x hx
  rcases hlk with hw | ⟨host, hw⟩
  · exact va_get hexec hb hts hin hown hK hP 0 rfl hc k hk (hts _ hw) hsame hv hdg kk
  · exact va_getN hexec hb hts hin hown hK hP 0 rfl hc k hk (va_Nw.use rfl (hnw _ hw)) hsame hv hdg kk
theorem j_put (hexec : p.tables.exec = Jvm.exec) (hb : c.code = cc) (hts : ∀ w ∈ TB, w.before args s = true) (hnw : ∀ w ∈ j_nest, w.before #[] s = true) (hown : s.vm.findClass own = some m.cls) (hK : va_K D vwCl T s) (hR : j_R D j_fty T A h H) (hS : va_S A H0 H locs)
    {i k a ci : Nat} {v : j_V} (hl : j_fl own i ci k) (hfin : ∀ r : vw_C, vwCl[ci]? = some r → (r.2.1 k).2.2.2 = true → meth.name = "<init>" ∧ (r.2.1 k).1 = own) (ha : j_kd h a = some (.inl ci)) (hv : j_vt (j_fty ci k) v) (hdg : decode cc pc = .ok (.putfield i, 3))
    (kk : ∀ (H1 : Heap) (locs1 : List Loc), j_R D j_fty T A (j_up h a k v) H1 → va_S A H0 H1 locs1 → W p l e R s m args below meth c H1 locs1 cells slots Q (F0 m (pc + 3) ls rest)) : W p l e R s m args below meth c H locs cells slots Q (F0 m pc ls (j_m v :: .ref a :: rest)) := by
  obtain ⟨r, ref, hc, hk, hlk, hsm⟩ := hl
  obtain ⟨hin, hnm, hty, -⟩ := j_cls ci r hc
  obtain ⟨r', hc', ob⟩ := (hR a).1.obj ha
  cases hc.symm.trans hc'
  have hAa : A a := by
    have := (hR a).2
    unfold j_own at this
    rw [ha] at this
    exact this
  obtain ⟨hn, hfit⟩ := hv.fit
  have hd := hty k hk
  have hsame : ∀ x, s.fieldFound? (r.2.1 k).1 (r.2.1 k).2.1 (r.2.1 k).2.2.1 = some x → s.fieldFound? ref (r.2.1 k).2.1 (r.2.1 k).2.2.1 = some x := by
    intro x hx
    rcases hsm with rfl | hw
    · exact hx
    · exact u_same (hts _ hw) x hx
  have hap := va_apart (own := own) (C := r.1) (T := r.2.1) (N := r.2.2) hts hin (j_fty ci) hty hnm hK hc
  obtain ⟨cell, q1, q2, q3, q4⟩ := ob
  obtain ⟨hSl, hfc, kC, hkC, hkind⟩ := hK.1 ci _ hc
  obtain ⟨cf, kf, fi, f, hi, hsl⟩ := hSl k hk
  have hst := (u_facts hfc hkC (u_lays hts hin hk) hi).1
  have fin : ∀ (H1 : Heap), H1[a]? = some (cell.setSlot (D.2 ci k) (j_m v)) → H1.size = H.size → (∀ q : Nat, q ≠ a → H1[q]? = H[q]?) → W p l e R s m args below meth c H1 (locs ++ [⟨a, D.2 ci k⟩]) cells slots Q (F0 m (pc + 3) ls rest) := by
    intro H1 e1 e2 e3
    refine kk H1 _ (hR.put (j_up_kd h a k v).1 (j_up_kd h a k v).2.1 (fun b hb j => j_up_ne h v hb j) ?_ e3) (hS.put e2 e3 hAa)
    unfold j_hold
    rw [show j_kd (j_up h a k v) = j_kd h from (j_up_kd h a k v).1, ha]
    refine ⟨r, hc, t_OB.to (V := updV (fun j => j_m (j_vv (j_fty ci j) h a j)) k (j_m v)) ⟨_, e1, q2, q3, t_set q4 hap hk (j_m v)⟩ (fun j _ => ?_)⟩
    unfold updV
    by_cases hj : j = k
    · subst hj
      rw [if_pos rfl, j_up_at hv]
    · rw [if_neg hj, j_up_nk v hj]
  by_cases hf : (r.2.1 k).2.2.2 = true
  · obtain ⟨hin2, hdecl⟩ := hfin r hc hf
    have hlay := hts _ (hin _ (u_in_lay hk))
    unfold u_lay at hlay
    rw [if_pos hf] at hlay
    have hcf : m.cls = cf := by
      obtain ⟨_, _, c', _, _, _, -, -, hf', -, -, -, hown2, -⟩ := Cond.laysFinal_spec hlay
      have e1 : c' = cf := by have := hi.symm.trans hf'; simp at this; exact this.1.symm
      rw [hdecl] at hown2
      rw [← e1]; exact Option.some.inj (hown.symm.trans hown2)
    have h6 := u_fits hfc hkC hkind (Or.inr hlay) hi hd hn hfit
    rcases hlk with hw | ⟨host, hw⟩
    · refine W.putFinK hexec hb hown (hts _ hw) (hsame _ hi) hst hcf hin2 (by rw [q2]; exact h6) q1 q3 (by rw [hsl]; exact k2_hasslot (q4 k hk)) rfl rfl hdg fun H' e1 e2 e3 => ?_
      rw [hsl] at e1 ⊢
      exact fin H' e1 e2 e3
    · refine va_Wputf hexec hb hown (va_Nw.use rfl (hnw _ hw)) (hsame _ hi) hst (Or.inr ⟨hcf, hin2⟩) q1 (by rw [q3]; exact fun z => by cases z) (by rw [hsl]; exact k2_hasslot (q4 k hk)) h6.1 (by rw [q3, q2]; exact h6.2) rfl rfl hdg ?_
      have hlt : a < H.size := (Array.getElem?_eq_some_iff.mp q1).1
      rw [hsl]
      exact fin _ (by simp [Array.getElem?_setIfInBounds, hlt]) (by simp) (fun q hq => by simp [Array.getElem?_setIfInBounds, Ne.symm hq])
  · have hf : (r.2.1 k).2.2.2 = false := by simpa using hf
    have hlay := hts _ (hin _ (u_in_lay hk))
    unfold u_lay at hlay
    rw [if_neg (by rw [hf]; decide)] at hlay
    have h6 := u_store hfc hkC hkind hlay hi hd hn hfit
    rcases hlk with hw | ⟨host, hw⟩
    · refine W.putK hexec hb (f := f) ⟨hown, hts _ hw, ⟨_, _, _, hsame _ hi⟩, hst⟩ (by rw [q2]; exact h6) q1 q3 (by rw [hsl]; exact k2_hasslot (q4 k hk)) rfl rfl hdg fun H' e1 e2 e3 => ?_
      rw [hsl] at e1 ⊢
      exact fin H' e1 e2 e3
    · refine va_WputK hexec hb hown (va_Nw.use rfl (hnw _ hw)) (hsame _ hi) hst (by rw [q2]; exact h6) q1 q3 (by rw [hsl]; exact k2_hasslot (q4 k hk)) rfl rfl hdg fun H' e1 e2 e3 => ?_
      rw [hsl] at e1 ⊢
      exact fin H' e1 e2 e3
theorem j_S_new {H1 : Heap} (hS : va_S A H0 H locs) (z : H.size ≤ H1.size) (o : ∀ q : Nat, q < H.size → H1[q]? = H[q]?) : va_S A H0 H1 locs := ⟨Nat.le_trans hS.1 z, fun x h1 h2 => (o x (Nat.lt_of_lt_of_le h1 hS.1)).trans (hS.2.1 x h1 h2), hS.2.2⟩
theorem j_nw_ne {q : Nat} {kd : Nat ⊕ Nat} {n b : Nat} (hb : b ≠ q) : j_kd (j_nw h q kd n) b = j_kd h b ∧ (∀ k, j_it (j_nw h q kd n) b k = j_it h b k) ∧ (∀ k, j_lg (j_nw h q kd n) b k = j_lg h b k) ∧ (∀ k, j_rf (j_nw h q kd n) b k = j_rf h b k) ∧ j_ln (j_nw h q kd n) b = j_ln h b :=
  ⟨if_neg hb, fun _ => if_neg hb, fun _ => if_neg hb, fun _ => if_neg hb, if_neg hb⟩
theorem j_nw_vv {q : Nat} {kd : Nat ⊕ Nat} {n k : Nat} {ty : FieldType} (hf : j_fok ty = true) : j_m (j_vv ty (j_nw h q kd n) q k) = defaultValue ty := by
  have a1 : j_it (j_nw h q kd n) q k = 0 := if_pos rfl
  have a2 : j_lg (j_nw h q kd n) q k = 0 := if_pos rfl
  have a3 : j_rf (j_nw h q kd n) q k = none := if_pos rfl
  cases ty <;> simp only [j_vv, j_m, a1, a2, a3, defaultValue, va_rf, j_i, j_l, j_r] <;> first | rfl | cases hf
theorem j_R.new {H1 : Heap} {q : Nat} {kd : Nat ⊕ Nat} {n : Nat} (hR : j_R D j_fty T A h H) (hq : q = H.size) (o : ∀ b : Nat, b < H.size → H1[b]? = H[b]?) (ha : j_hold D j_fty T (j_nw h q kd n) q H1) (hA : j_own A (j_nw h q kd n) q) : j_R D j_fty T A (j_nw h q kd n) H1 := by
  intro b
  by_cases hb : b = q
  · subst hb; exact ⟨ha, hA⟩
  · obtain ⟨e1, e2, e3, e4, e5⟩ := j_nw_ne (h := h) (kd := kd) (n := n) hb
    refine ⟨?_, (hR b).2.same e1⟩
    cases hk : j_kd h b with
    | none => unfold j_hold; rw [e1, hk]; trivial
    | some k => exact ((hR b).1.same e1 e2 e3 e4 e5).kept (o b (hR.lt hk))
theorem j_new (hexec : p.tables.exec = Jvm.exec) (hb : c.code = cc) (hts : ∀ w ∈ TB, w.before args s = true) (hown : s.vm.findClass own = some m.cls) (hK : va_K D vwCl T s) (hR : j_R D j_fty T A h H) (hS : va_S A H0 H locs) (hA : ∀ q, H0.size ≤ q → A q)
    {i ci N : Nat} (hl : ∃ r : vw_C, vwCl[ci]? = some r ∧ r.2.2 = N ∧ Cond.classLink own i r.1 ∈ TB ∧ Cond.instantiable r.1 N ∈ TB ∧ Cond.initialized r.1 ∈ TB) (hcells : cells + 1 ≤ R.cells) (hslots : slots + N ≤ R.slots) (hdg : decode cc pc = .ok (.new i, 3))
    (kk : ∀ (q : Nat) (H1 : Heap), j_kd h q = none → j_R D j_fty T A (j_nw h q (.inl ci) 0) H1 → va_S A H0 H1 locs → W p l e R s m args below meth c H1 locs (cells + 1) (slots + N) Q (F0 m (pc + 3) ls (.ref q :: rest))) : W p l e R s m args below meth c H locs cells slots Q (F0 m pc ls rest) := by
  obtain ⟨r, hc, rfl, w1, w2, w3⟩ := hl
  obtain ⟨hin, hnm, hty, hfo⟩ := j_cls ci r hc
  have hKn := hK.1 ci _ hc
  refine W.newcK hexec hb hown (hts _ w1) (hts _ w2) (hts _ w3) rfl hdg hcells hslots hKn.2.1 rfl fun H1 kC hkC e1 z1 o1 => ?_
  refine kk H.size H1 hR.fresh (hR.new rfl o1 ?_ ?_) (j_S_new hS (by omega) o1)
  · unfold j_hold
    rw [show j_kd (j_nw h H.size (.inl ci) 0) H.size = some (.inl ci) from if_pos rfl]
    exact ⟨r, hc, (u_born (C := r.1) (T := r.2.1) (N := r.2.2) (j_fty ci) hts hin hKn hkC e1 hty).to (fun k hk => (j_nw_vv (hfo k hk)).symm)⟩
  · unfold j_own
    rw [show j_kd (j_nw h H.size (.inl ci) 0) H.size = some (.inl ci) from if_pos rfl]
    exact hA _ hS.1
theorem j_tyat (hT : T.map Prod.snd = j_tys) {t : Nat} {ty : FieldType} (ht : j_tys[t]? = some ty) : ∃ cA, T[t]? = some (cA, ty) := by
  rw [← hT, List.getElem?_map, Option.map_eq_some_iff] at ht
  obtain ⟨y, h1, rfl⟩ := ht
  exact ⟨y.1, h1⟩
theorem j_newa (hexec : p.tables.exec = Jvm.exec) (hb : c.code = cc) (hts : ∀ w ∈ TB, w.before args s = true) (hK : va_K D vwCl T s) (hT : T.map Prod.snd = j_tys) (hR : j_R D j_fty T A h H) (hS : va_S A H0 H locs) (hA : ∀ q, H0.size ≤ q → A q)
    {at0 : ArrayType} {t : Nat} (ht10 : t < 10) (hat : (at0 = .int ∧ t = 0) ∨ (at0 = .byte ∧ t = 1)) (hw : Cond.arrayClass (newarray.typeOf at0) ∈ TB) {n : Int32} (hn : ¬ n < 0) (hbytes : n.toNatClampNeg * 4 ≤ 536870912) (hcells : cells + 1 ≤ R.cells) (hslots : slots + n.toNatClampNeg ≤ R.slots) (hdg : decode cc pc = .ok (.newarray at0, 2))
    (kk : ∀ (q : Nat) (H1 : Heap), j_kd h q = none → j_R D j_fty T A (j_nw h q (.inr t) n.toNatClampNeg) H1 → va_S A H0 H1 locs → W p l e R s m args below meth c H1 locs (cells + 1) (slots + n.toNatClampNeg) Q (F0 m (pc + 2) ls (.ref q :: rest))) : W p l e R s m args below meth c H locs cells slots Q (F0 m pc ls (.int n :: rest)) := by
  have hbt : n.toNatClampNeg * componentBytes (newarray.typeOf at0) ≤ 536870912 := by
    rcases hat with ⟨rfl, -⟩ | ⟨rfl, -⟩
    · exact hbytes
    · show n.toNatClampNeg * 1 ≤ _
      omega
  refine va_newaK (atype := at0) hexec hb (hts _ hw) rfl hdg rfl hn rfl hbt hcells hslots rfl fun H1 cA e1 z1 o1 hAr hNm => ?_
  obtain ⟨ty, hty, hty2, hnf⟩ : ∃ ty, newarray.typeOf at0 = ty ∧ j_tys[t % 10]? = some ty ∧ (ty = .int ∨ ty = .byte) := by
    rcases hat with ⟨rfl, rfl⟩ | ⟨rfl, rfl⟩
    · exact ⟨_, rfl, rfl, Or.inl rfl⟩
    · exact ⟨_, rfl, rfl, Or.inr rfl⟩
  obtain ⟨cT, hcT⟩ := j_tyat hT hty2
  have hcc : cT = cA := by
    have h2 := (hK.2 _ _ hcT).2
    rw [hty] at hNm
    rcases hnf with rfl | rfl
    · exact Option.some.inj (h2.symm.trans hNm)
    · exact Option.some.inj (h2.symm.trans hNm)
  refine kk H.size H1 hR.fresh (hR.new rfl o1 ?_ ?_) (j_S_new hS (by omega) o1)
  · unfold j_hold
    rw [show j_kd (j_nw h H.size (.inr t) n.toNatClampNeg) H.size = some (.inr t) from if_pos rfl]
    refine ⟨(cT, ty), hcT, Or.inl ⟨ht10, ?_⟩⟩
    rw [e1, hcc, show j_ln (j_nw h H.size (.inr t) n.toNatClampNeg) H.size = n.toNatClampNeg from if_pos rfl, hty]
    congr 2
    funext k
    rw [j_nw_vv (by rcases hnf with rfl | rfl <;> rfl)]
  · unfold j_own
    rw [show j_kd (j_nw h H.size (.inr t) n.toNatClampNeg) H.size = some (.inr t) from if_pos rfl]
    exact fun _ => hA _ hS.1
theorem j_newq (hexec : p.tables.exec = Jvm.exec) (hb : c.code = cc) (hown : s.vm.findClass own = some m.cls) (hts : ∀ w ∈ TB, w.before args s = true) (hAO : va_AO "java/lang/Object" s) (hK : va_K D vwCl T s) (hT : T.map Prod.snd = j_tys) (hR : j_R D j_fty T A h H) (hS : va_S A H0 H locs) (hA : ∀ q, H0.size ≤ q → A q)
    {i : Nat} (hw : Cond.classLink own i "java/lang/Object" ∈ TB) {n : Int32} (hn : ¬ n < 0) (hbytes : n.toNatClampNeg * 4 ≤ 536870912) (hcells : cells + 1 ≤ R.cells) (hslots : slots + n.toNatClampNeg ≤ R.slots) (hdg : decode cc pc = .ok (.anewarray i, 3))
    (kk : ∀ (q : Nat) (H1 : Heap), j_kd h q = none → j_R D j_fty T A (j_nw h q (.inr 2) n.toNatClampNeg) H1 → va_S A H0 H1 locs → W p l e R s m args below meth c H1 locs (cells + 1) (slots + n.toNatClampNeg) Q (F0 m (pc + 3) ls (.ref q :: rest))) : W p l e R s m args below meth c H locs cells slots Q (F0 m pc ls (.int n :: rest)) := by
  refine W.anew hexec hb hown (hts _ hw) (va_AO.use hAO) rfl hdg rfl hn hbytes hcells hslots fun cA kA comp f1 f2 f3 f4 => ?_
  generalize hH1 : H.push ({ cls := cA, slots := Array.replicate n.toNatClampNeg .null, vm := .none } : Cell) = H1
  have z1 : H1.size = H.size + 1 := by rw [← hH1, Array.size_push]
  have e1 : H1[H.size]? = some (arrV cA n.toNatClampNeg (fun _ => .null)) := by rw [← hH1, Array.getElem?_push_size, ← arrV_new]
  have o1 : ∀ q : Nat, q < H.size → H1[q]? = H[q]? := fun q hq => by rw [← hH1, Array.getElem?_push, if_neg (Nat.ne_of_lt hq)]
  obtain ⟨cT, hcT⟩ := j_tyat hT (show j_tys[2 % 10]? = some (.object "java/lang/Object") from rfl)
  have hcc : cT = cA := by
    obtain ⟨kA', comp', -, -, -, h4⟩ := (hK.2 _ _ hcT).2
    exact Option.some.inj (h4.symm.trans f1)
  refine kk H.size H1 hR.fresh (hR.new rfl o1 ?_ ?_) (j_S_new hS (by omega) o1)
  · unfold j_hold
    rw [show j_kd (j_nw h H.size (.inr 2) n.toNatClampNeg) H.size = some (.inr 2) from if_pos rfl]
    refine ⟨(cT, .object "java/lang/Object"), hcT, Or.inl ⟨by omega, ?_⟩⟩
    rw [e1, hcc, show j_ln (j_nw h H.size (.inr 2) n.toNatClampNeg) H.size = n.toNatClampNeg from if_pos rfl]
    congr 2
    funext k
    rw [j_nw_vv rfl]
    rfl
  · unfold j_own
    rw [show j_kd (j_nw h H.size (.inr 2) n.toNatClampNeg) H.size = some (.inr 2) from if_pos rfl]
    exact fun _ => hA _ hS.1
end JH
