/-! contracts; the calls; what a throw needs -/
def j_w0 (n : Nat) : Cond := match j_hh n with
  | [] => .code (j_y n) (j_b n) (j_ml n) (j_rt n)
  | x :: l => .codeWith (j_y n) (j_b n) (j_ml n) (j_rt n) (x :: l)
def j_ws (n : Nat) : List Cond := j_w0 n :: TB
def j_Wd (D : va_G) (T : List (ClassId × FieldType)) (A : Nat → Prop) (h : j_H) (U : State) : Prop :=
  va_K D vwCl T U ∧ T.map Prod.snd = j_tys ∧ j_X D A U U.heap ∧ j_Y j_zr j_zi A (j_st h) U U.heap ∧ j_R D j_fty T A h U.heap ∧ ∀ q, U.heap.size ≤ q → A q
def j_Pc (D : va_G) (T : List (ClassId × FieldType)) (A : Nat → Prop) (as : j_S) (h : j_H) : Array Value → State → Prop := fun av U => av = (as.map j_m).toArray ∧ j_Wd D T A h U
def j_Qc (D : va_G) (T : List (ClassId × FieldType)) (A : Nat → Prop) (P : Option j_V → j_H → Prop) (st : Nat → Option Nat) : Array Value → State → Outcome → State → Prop := fun _ u o t =>
  (∃ (v : Option j_V) (h' : j_H), o = .returned (v.map j_m) ∧ P v h' ∧ j_st h' = st ∧ j_R D j_fty T A h' t.heap) ∧ va_F A u t
def j_XC (D : va_G) (T : List (ClassId × FieldType)) (A : Nat → Prop) (X : Nat → j_H → Prop) (st : Nat → Option Nat) : String → State → State → Prop := fun E u t =>
  ∃ (k : Nat) (h' : j_H), j_ex[k]? = some E ∧ X k h' ∧ j_st h' = st ∧ j_R D j_fty T A h' t.heap ∧ va_F A u t
def j_Ct (n fr lo mc ms : Nat) (as : j_S) (h : j_H) (P : Option j_V → j_H → Prop) (X : Nat → j_H → Prop) : Prop :=
  ∀ (l : Launch), l.stackTraces = false → ∀ (D : va_G) (T : List (ClassId × FieldType)) (A : Nat → Prop),
    vx_Met l (j_y n) (j_ws n) { frames := fr, cells := mc, slots := ms, locals := lo } (j_Pc D T A as h) (j_Qc D T A P (j_st h)) (j_XC D T A X (j_st h)) mc ms A
def j_no : Nat → j_H → Prop := fun _ _ => False
theorem j_blind {D : va_G} {T : List (ClassId × FieldType)} {A : Nat → Prop} {as : j_S} {h : j_H} : FrameBlind (j_Pc D T A as h) := fun a U g mk q => by
  obtain ⟨h0, h1, h2, h3, h4, h5, h6⟩ := q
  have hW : U.WarmedH (U.calling g mk a).vm := State.WarmedH.refl U
  exact ⟨h0, h1.moved hW.alike, h2, h3.kept hW (fun _ _ _ => rfl), h4.kept hW (fun _ _ _ => rfl), h5, h6⟩
theorem j_met {l : Launch} {y : MethodName} {ws : List Cond} {rm : Room} {Pc : Array Value → State → Prop} {Qc : Array Value → State → Outcome → State → Prop} {XC : String → State → State → Prop} {mc ms : Nat} {free : Addr → Prop}
    (h : vx_Met l y ws rm Pc Qc XC mc ms free) (hx : ∀ E st t, ¬ XC E st t) : Met l y ws rm Pc Qc mc ms free := by
  intro p e ha hc hk s m args below hf happ hP hK
  obtain ⟨n, o, h1, h2, h3, hq⟩ := h p e ha hc hk s m args below hf happ hP hK
  refine ⟨n, o, h1, h2, h3, ?_⟩
  rcases hq with hq | ⟨q, rfl, E, ce, L, hx9, -⟩
  · exact hq
  · exact absurd hx9 (hx _ _ _)
def j_cats (r : j_S) : Nat := match r with
  | [] => 0
  | v :: r => j_cat v + j_cats r
theorem j_cats_eq (r : j_S) : ((r.map j_m).map fun v => v.category).sum = j_cats r := by
  induction r with
  | nil => rfl
  | cons v r ih =>
    simp only [List.map_cons, List.sum_cons, ih, j_m_cat]
    rfl
def j_tk : Nat → j_S → j_S → (j_S → j_S → Prop) → Prop
  | 0, acc, st, k => k acc st
  | n + 1, acc, v :: st, k => j_tk n (v :: acc) st k
  | _ + 1, _, [], _ => False
theorem j_tk_of {k : j_S → j_S → Prop} : ∀ {n : Nat} {acc st : j_S}, j_tk n acc st k → ∃ as rest, st = as.reverse ++ rest ∧ as.length = n ∧ k (as ++ acc) rest := by
  intro n
  induction n with
  | zero => intro acc st h; exact ⟨[], st, rfl, rfl, h⟩
  | succ n ih =>
    intro acc st h
    cases st with
    | nil => exact h.elim
    | cons v st =>
      obtain ⟨as, rest, h1, h2, h3⟩ := ih (acc := v :: acc) h
      refine ⟨as ++ [v], rest, by simp [h1], by simp [h2], by simpa using h3⟩
section JC
variable {p : Program} {l : Launch} {e : Env} {R : Room} {s : State} {m : MethodId} {args : Array Value} {below : List Frame} {meth : Method} {c : Code} {H : Heap} {locs : List Loc} {cells slots : Nat} {Q : State → Prop}
variable {cc : ByteArray} {pc : Nat} {ls : Array Slot} {rest : j_S} {D : va_G} {T : List (ClassId × FieldType)} {A : Nat → Prop} {h : j_H} {own : String}
theorem j_goodIn {ws : List Cond} (hw : ∀ w ∈ ws, w ∈ TB) : GoodIn TB ws := fun w h => ⟨hw w h, good_of_word (TB_good w (hw w h))⟩
/-- the state that a callee sees -/
theorem j_Wd_of {U : State} (hK : va_K D vwCl T s) (hT : T.map Prod.snd = j_tys) (hX : j_X D A s s.heap) (hY : j_Y j_zr j_zi A (j_st h) s s.heap) (hS : va_S A s.heap H locs) (hR : j_R D j_fty T A h H) (hA : ∀ q, s.heap.size ≤ q → A q) (hU : U.heap = H) (hW : s.WarmedH U.vm) : j_Wd D T A h U := by
  refine ⟨hK.moved hW.alike, hT, ?_, ?_, by rw [hU]; exact hR, fun q hq => hA q (Nat.le_trans hS.1 (by rw [← hU]; exact hq))⟩
  · rw [hU]; exact hX.kept hW hS.2.1
  · rw [hU]; exact hY.kept hW hS.2.1
theorem j_back {k : Nat} {mc ms : Nat} {a : Array Value} {P : Option j_V → j_H → Prop} {st : Nat → Option Nat} {st0 : List Value} {Qa : State → Outcome → State → Prop} (hQ : Qa = j_Qc D T A P st a)
    (hr : ∀ T : State, T.heap = H → Stand p l e R s m args below meth c T locs cells slots → ∃ (v : Option Value) (st₀ t T' : State) (L : List Loc), st₀.heap = H ∧ Stand p l e R s m args below meth c T' (locs ++ L) (cells + mc) (slots + ms) ∧ (∀ q ∈ L, A q.base) ∧ T'.heap = t.heap ∧ T'.vm = t.vm ∧ Qa st₀ (.returned v) t ∧
      Goes p e below T (F0 m pc ls st0) T' { F0 m pc ls st0 with pc := pc + k, stack := v.toList ++ rest.map j_m }) (hS : va_S A s.heap H locs)
    (kk : ∀ (v : Option j_V) (h' : j_H) (H1 : Heap) (locs1 : List Loc), P v h' → j_st h' = st → j_R D j_fty T A h' H1 → va_S A s.heap H1 locs1 → W p l e R s m args below meth c H1 locs1 (cells + mc) (slots + ms) Q (F0 m (pc + k) ls ((v.toList ++ rest).map j_m))) : W p l e R s m args below meth c H locs cells slots Q (F0 m pc ls st0) := by
  subst hQ
  intro T0 hT X
  obtain ⟨v, st₀, t, T', L, h0, X', hL, e1, e2, ⟨⟨v', h', hv, hp, hs, hb⟩, hz, hk⟩, st⟩ := hr T0 hT X
  cases hv
  rw [h0] at hz hk
  obtain ⟨t2, a1, b1⟩ := kk v' h' T'.heap (locs ++ L) hp hs (by rw [e1]; exact hb)
    ⟨Nat.le_trans hS.1 (by rw [e1]; exact hz), fun q h1 h2 => by rw [e1, hk q (Nat.lt_of_lt_of_le h1 hS.1) h2]; exact hS.2.1 q h1 h2, fun q hq => by
      rcases List.mem_append.mp hq with h | h
      · exact hS.2.2 q h
      · exact hL q h⟩ T' rfl X'
  refine ⟨t2, st t2 ?_, b1⟩
  have e9 : (v'.map j_m).toList ++ rest.map j_m = (v'.toList ++ rest).map j_m := by cases v' <;> simp
  rw [e9]
  exact a1
def j_notMH (y : MethodName) (n : Nat) : Prop := y.cls ≠ "java/lang/invoke/MethodHandle" ∧ y.cls ≠ "java/lang/invoke/VarHandle" ∧ (parseMethodDescriptor y.desc).map (fun d => d.parameters.length) = some n
/-- what the tables say of a callee -/
def j_MkV (n cl : Nat) : Prop := j_hh n = [] ∧ (∃ r : vw_C, vwCl[cl]? = some r ∧ r.1 = (j_y n).cls) ∧ Cond.instanceMethod (j_y n) ∈ TB ∧ Cond.selects (j_y n).cls (j_y n) (j_y n) ∈ TB ∧ Cond.initialized (j_y n).cls ∈ TB ∧ j_w0 n ∈ TB
def j_MkS (n : Nat) : Prop := Cond.static (j_y n) ∈ TB ∧ Cond.initialized (j_y n).cls ∈ TB ∧ j_w0 n ∈ TB
def j_MkI (n : Nat) : Prop := j_hh n = [] ∧ j_rt n = none ∧ (j_y n).name = "<init>" ∧ Cond.instanceMethod (j_y n) ∈ TB ∧ Cond.initialized (j_y n).cls ∈ TB ∧ j_w0 n ∈ TB
/-- a method that is inherited, or overrides, or is private in the class above: x is what the call names -/
def j_MkU (own : String) (i n cl np : Nat) : Prop := ∃ (r : vw_C) (x : MethodName) (b0 : ByteArray) (m0 : Nat) (r0 : Option FieldType), vwCl[cl]? = some r ∧ j_hh n = [] ∧ j_notMH x np ∧ Cond.methodLink own i x ∈ TB ∧ Cond.sameMethod x.cls x.cls x.name x.desc ∈ TB ∧ Cond.instanceMethod x ∈ TB ∧ Cond.code x b0 m0 r0 ∈ TB ∧
  (Cond.selects r.1 x (j_y n) ∈ TB ∨ (r.1 = "java/lang/StringBuilder" ∧ x = j_y n ∧ x ∈ j_pvs)) ∧ Cond.instanceMethod (j_y n) ∈ TB ∧ Cond.initialized (j_y n).cls ∈ TB ∧ j_w0 n ∈ TB
/-- a call by 'super' -/
def j_MkS9 (own : String) (i n cl np : Nat) : Prop := ∃ r : vw_C, vwCl[cl]? = some r ∧ j_hh n = [] ∧ (j_y n).name ≠ "<init>" ∧ j_notMH (j_y n) np ∧ Cond.methodLink own i (j_y n) ∈ TB ∧ Cond.sameMethod (j_y n).cls (j_y n).cls (j_y n).name (j_y n).desc ∈ TB ∧ Cond.superclass own (j_y n).cls ∈ TB ∧ Cond.instanceMethod (j_y n) ∈ TB ∧ Cond.initialized (j_y n).cls ∈ TB ∧ j_w0 n ∈ TB
theorem j_w0c {n : Nat} (h : j_hh n = []) : j_w0 n = .code (j_y n) (j_b n) (j_ml n) (j_rt n) := by
  unfold j_w0
  rw [h]
theorem j_cVX (hexec : p.tables.exec = Jvm.exec) (hb : c.code = cc) (hml : c.maxLocals = ls.size) (hts : ∀ w ∈ TB, w.before args s = true) (hown : s.vm.findClass own = some m.cls) (hK : va_K D vwCl T s) (hT : T.map Prod.snd = j_tys) (hX : j_X D A s s.heap) (hY : j_Y j_zr j_zi A (j_st h) s s.heap) (hS : va_S A s.heap H locs) (hR : j_R D j_fty T A h H) (hA : ∀ q, s.heap.size ≤ q → A q) (hl : l.stackTraces = false)
    {n i cl fr lo mc ms b np : Nat} {as : j_S} {P : Option j_V → j_H → Prop} {X : Nat → j_H → Prop} (hM : j_MkV n cl) (hw : Cond.methodLink own i (j_y n) ∈ TB) (hd : j_notMH (j_y n) np) (hn : as.length = np) (hC : j_Ct n fr lo mc ms (j_r (some b) :: as) h P X) (hkd : j_kd h b = some (.inl cl))
    (hfr : fr + 1 ≤ R.frames) (hlo : 8 + (j_ml n + 11) + lo ≤ R.locals) (hc : cells + mc ≤ R.cells) (hs : slots + ms ≤ R.slots) (hcat : j_cats rest ≤ 8) (hdg : decode cc pc = .ok (.invokevirtual i, 3))
    (kx : ∀ (k : Nat) (E : String) (h' : j_H) (H1 : Heap) (locs1 : List Loc) (q : Addr) (ce : Cell), j_ex[k]? = some E → X k h' → j_st h' = j_st h → j_R D j_fty T A h' H1 → va_S A s.heap H1 locs1 → H1[q]? = some ce → ce.vm = .none → s.vm.findClass E = some ce.cls → vx_W p l e R s m args below meth c H1 locs1 (cells + mc) (slots + ms) Q (F0 m pc ls (rest.map j_m)) q)
    (kk : ∀ (v : Option j_V) (h' : j_H) (H1 : Heap) (locs1 : List Loc), P v h' → j_st h' = j_st h → j_R D j_fty T A h' H1 → va_S A s.heap H1 locs1 → W p l e R s m args below meth c H1 locs1 (cells + mc) (slots + ms) Q (F0 m (pc + 3) ls ((v.toList ++ rest).map j_m))) :
    W p l e R s m args below meth c H locs cells slots Q (F0 m pc ls ((as.map j_m).reverse ++ .ref b :: rest.map j_m)) := by
  obtain ⟨hh, ⟨r, hcl, hrn⟩, w1, w2, w3, w4⟩ := hM
  have hMet := hC l hl D T A
  rw [show j_ws n = Cond.code (j_y n) (j_b n) (j_ml n) (j_rt n) :: TB by unfold j_ws; rw [j_w0c hh]] at hMet
  obtain ⟨cell, g1, g2, g3⟩ := j_recv hK hR hkd hcl
  have cw : CallW R s args own (j_y n).cls i (j_y n) (j_b n) (j_ml n) (j_rt n) (Cond.code (j_y n) (j_b n) (j_ml n) (j_rt n) :: TB) { frames := fr, cells := mc, slots := ms, locals := lo } mc ms np :=
    cwV np hts (j_goodIn (by
      intro w hw9
      simp only [wsV, List.cons_append, List.nil_append, List.mem_cons] at hw9
      rcases hw9 with rfl | rfl | rfl | rfl | rfl | h9
      · exact hw
      · exact w1
      · exact w2
      · exact w3
      · rw [j_w0c hh] at w4; exact w4
      · exact h9)) rfl rfl rfl ⟨rfl, hd⟩ ⟨hfr, hlo⟩
  have hr := vx_runV (locs := locs) (cells := cells) (slots := slots) (e := e) (below := below) (meth := meth) (g := F0 m pc ls ((as.map j_m).reverse ++ .ref b :: rest.map j_m)) (rest := rest.map j_m) (nL := ls.size) ⟨hexec, hb, hml, hown, hts⟩ hMet cw ⟨j_blind, ⟨cell, g1, by rw [g2]; rfl, by rw [← hrn]; exact g3⟩, fun U hU hW => ⟨rfl, j_Wd_of hK hT hX hY hS hR hA hU hW⟩⟩ rfl (by rw [List.length_map]; exact hn) rfl rfl (lv_room (by rw [j_cats_eq]; exact hcat)) hdg ⟨hc, hs⟩
  intro T0 hT0 X0
  rcases hr T0 hT0 X0 with ⟨v, st₀, t, T', L, h0, X', hL, e1, e2, ⟨⟨v', h', hv, hp, hst, hbR⟩, hF⟩, st⟩ | ⟨q, st₀, t, T', L, E, ce, h0, X', hL, e1, e2, ⟨k, h', hE, hx, hst, hbR, hF⟩, hce, hcv, hcc, st⟩
  · cases hv
    obtain ⟨k1, k2, k3⟩ := vx_keep h0 e1 hS (fun _ _ z => z) (fun _ z => z) hL hF
    obtain ⟨t2, a1, b1⟩ := kk v' h' T'.heap (locs ++ L) hp hst (by rw [e1]; exact hbR) k3 T' rfl X'
    refine ⟨t2, st t2 ?_, b1⟩
    have e9 : (v'.map j_m).toList ++ rest.map j_m = (v'.toList ++ rest).map j_m := by cases v' <;> simp
    rw [e9]
    exact a1
  · obtain ⟨k1, k2, k3⟩ := vx_keep h0 e1 hS (fun _ _ z => z) (fun _ z => z) hL hF
    obtain ⟨t2, a1, b1⟩ := kx k E h' T'.heap (locs ++ L) q ce hE hx hst (by rw [e1]; exact hbR) k3 (by rw [e1]; exact hce) hcv hcc T' rfl X'
    exact ⟨t2, st.trans a1, b1⟩
theorem j_cS (hexec : p.tables.exec = Jvm.exec) (hb : c.code = cc) (hml : c.maxLocals = ls.size) (hts : ∀ w ∈ TB, w.before args s = true) (hown : s.vm.findClass own = some m.cls) (hK : va_K D vwCl T s) (hT : T.map Prod.snd = j_tys) (hX : j_X D A s s.heap) (hY : j_Y j_zr j_zi A (j_st h) s s.heap) (hS : va_S A s.heap H locs) (hR : j_R D j_fty T A h H) (hA : ∀ q, s.heap.size ≤ q → A q) (hl : l.stackTraces = false)
    {n i fr lo mc ms np : Nat} {as : j_S} {P : Option j_V → j_H → Prop} {X : Nat → j_H → Prop} (hM : j_MkS n) (hw : Cond.methodLink own i (j_y n) ∈ TB) (hd : j_notMH (j_y n) np) (hn : as.length = np) (hC : j_Ct n fr lo mc ms as h P X) (hnx : ∀ x h', ¬ X x h')
    (hfr : fr + 1 ≤ R.frames) (hlo : 8 + (j_ml n + 11) + lo ≤ R.locals) (hc : cells + mc ≤ R.cells) (hs : slots + ms ≤ R.slots) (hcat : j_cats rest ≤ 8) (hdg : decode cc pc = .ok (.invokestatic i, 3))
    (kk : ∀ (v : Option j_V) (h' : j_H) (H1 : Heap) (locs1 : List Loc), P v h' → j_st h' = j_st h → j_R D j_fty T A h' H1 → va_S A s.heap H1 locs1 → W p l e R s m args below meth c H1 locs1 (cells + mc) (slots + ms) Q (F0 m (pc + 3) ls ((v.toList ++ rest).map j_m))) :
    W p l e R s m args below meth c H locs cells slots Q (F0 m pc ls ((as.map j_m).reverse ++ rest.map j_m)) := by
  obtain ⟨w1, w3, w4⟩ := hM
  have hMet := j_met (hC l hl D T A) (fun E st t hx => by obtain ⟨k, h', -, hx, -⟩ := hx; exact hnx k h' hx)
  have hp : PreS s H (j_Pc D T A as h) (as.map j_m) := ⟨j_blind, fun U hU hW => ⟨rfl, j_Wd_of hK hT hX hY hS hR hA hU hW⟩⟩
  have hin : ∀ w ∈ va_wsS own i (j_y n) (j_w0 n :: TB), w ∈ TB := by
    intro w hw9
    simp only [va_wsS, List.cons_append, List.nil_append, List.mem_cons] at hw9
    rcases hw9 with rfl | rfl | rfl | rfl | h9
    · exact hw
    · exact w1
    · exact w3
    · exact w4
    · exact h9
  cases hh : j_hh n with
  | nil =>
    rw [show j_ws n = Cond.code (j_y n) (j_b n) (j_ml n) (j_rt n) :: TB by unfold j_ws; rw [j_w0c hh]] at hMet
    rw [j_w0c hh] at hin
    exact j_back (k := 3) rfl (va_runS (nL := ls.size) ⟨hexec, hb, hml, hown, hts⟩ hMet (va_cwS np hts (j_goodIn hin) rfl rfl rfl hd ⟨hfr, hlo⟩) hp rfl (by rw [List.length_map]; exact hn) rfl rfl (lv_room (by rw [j_cats_eq]; exact hcat)) hdg ⟨hc, hs⟩) hS kk
  | cons x l9 =>
    have e9 : j_w0 n = .codeWith (j_y n) (j_b n) (j_ml n) (j_rt n) (x :: l9) := by unfold j_w0; rw [hh]
    rw [show j_ws n = Cond.codeWith (j_y n) (j_b n) (j_ml n) (j_rt n) (x :: l9) :: TB by unfold j_ws; rw [e9]] at hMet
    rw [e9] at hin
    exact j_back (k := 3) rfl (vx_runSW (nL := ls.size) ⟨hexec, hb, hml, hown, hts⟩ hMet (vx_cwSW np hts (j_goodIn hin) rfl rfl rfl hd ⟨hfr, hlo⟩) hp rfl (by rw [List.length_map]; exact hn) rfl rfl (lv_room (by rw [j_cats_eq]; exact hcat)) hdg ⟨hc, hs⟩) hS kk
theorem j_cI (hexec : p.tables.exec = Jvm.exec) (hb : c.code = cc) (hml : c.maxLocals = ls.size) (hts : ∀ w ∈ TB, w.before args s = true) (hown : s.vm.findClass own = some m.cls) (hK : va_K D vwCl T s) (hT : T.map Prod.snd = j_tys) (hX : j_X D A s s.heap) (hY : j_Y j_zr j_zi A (j_st h) s s.heap) (hS : va_S A s.heap H locs) (hR : j_R D j_fty T A h H) (hA : ∀ q, s.heap.size ≤ q → A q) (hl : l.stackTraces = false)
    {n i fr lo mc ms b np : Nat} {as : j_S} {P : Option j_V → j_H → Prop} {X : Nat → j_H → Prop} (hM : j_MkI n) (hw : Cond.methodLink own i (j_y n) ∈ TB ∨ ∃ host, Cond.methodLinkNest own i (j_y n) host ∈ j_nest) (hd : j_notMH (j_y n) np) (hn : as.length = np) (hC : j_Ct n fr lo mc ms (j_r (some b) :: as) h P X) (hnx : ∀ x h', ¬ X x h')
    (hfr : fr + 1 ≤ R.frames) (hlo : 8 + (j_ml n + 11) + lo ≤ R.locals) (hc : cells + mc ≤ R.cells) (hs : slots + ms ≤ R.slots) (hcat : j_cats rest ≤ 8) (hdg : decode cc pc = .ok (.invokespecial i, 3))
    (kk : ∀ (v : Option j_V) (h' : j_H) (H1 : Heap) (locs1 : List Loc), P v h' → j_st h' = j_st h → j_R D j_fty T A h' H1 → va_S A s.heap H1 locs1 → W p l e R s m args below meth c H1 locs1 (cells + mc) (slots + ms) Q (F0 m (pc + 3) ls ((v.toList ++ rest).map j_m))) :
    W p l e R s m args below meth c H locs cells slots Q (F0 m pc ls ((as.map j_m).reverse ++ .ref b :: rest.map j_m)) := by
  obtain ⟨hh, hrt, hnm, w1, w3, w4⟩ := hM
  have hMet := j_met (hC l hl D T A) (fun E st t hx => by obtain ⟨k, h', -, hx, -⟩ := hx; exact hnx k h' hx)
  rw [j_w0c hh, hrt] at w4
  rw [show j_ws n = Cond.code (j_y n) (j_b n) (j_ml n) none :: TB by unfold j_ws; rw [j_w0c hh, hrt]] at hMet
  have hp : PreS s H (j_Pc D T A (j_r (some b) :: as) h) (.ref b :: as.map j_m) := ⟨j_blind, fun U hU hW => ⟨rfl, j_Wd_of hK hT hX hY hS hR hA hU hW⟩⟩
  have hG : GoodIn TB (Cond.code (j_y n) (j_b n) (j_ml n) none :: TB) := j_goodIn (fun w h9 => by
    rcases List.mem_cons.mp h9 with rfl | h9
    · exact w4
    · exact h9)
  rcases hw with hw | ⟨host, hw⟩
  · exact j_back (k := 3) rfl (va_runI (nL := ls.size) ⟨hexec, hb, hml, hown, hts⟩ hMet (cwI np hts hG rfl rfl rfl (hts _ w3) (hts _ hw) (hts _ w1) hnm hd ⟨hfr, hlo⟩) hp rfl (by rw [List.length_map]; exact hn) rfl rfl (lv_room (by rw [j_cats_eq]; exact hcat)) hdg ⟨hc, hs⟩) hS kk
  · exact j_back (k := 3) rfl (va_runIN (nL := ls.size) ⟨hexec, hb, hml, hown, hts⟩ hMet ⟨va_cnB np hts hG rfl rfl rfl (hX.2.1 _ hw) (hts _ w3) hd ⟨hfr, hlo⟩, hnm, hts _ w1⟩ hp rfl (by rw [List.length_map]; exact hn) rfl rfl (lv_room (by rw [j_cats_eq]; exact hcat)) hdg ⟨hc, hs⟩) hS kk
theorem j_cU (hexec : p.tables.exec = Jvm.exec) (hb : c.code = cc) (hml : c.maxLocals = ls.size) (hts : ∀ w ∈ TB, w.before args s = true) (hown : s.vm.findClass own = some m.cls) (hK : va_K D vwCl T s) (hT : T.map Prod.snd = j_tys) (hX : j_X D A s s.heap) (hY : j_Y j_zr j_zi A (j_st h) s s.heap) (hS : va_S A s.heap H locs) (hR : j_R D j_fty T A h H) (hA : ∀ q, s.heap.size ≤ q → A q) (hl : l.stackTraces = false)
    {n i cl fr lo mc ms b np : Nat} {as : j_S} {P : Option j_V → j_H → Prop} {X : Nat → j_H → Prop} (hM : j_MkU own i n cl np) (hn : as.length = np) (hC : j_Ct n fr lo mc ms (j_r (some b) :: as) h P X) (hnx : ∀ x h', ¬ X x h') (hkd : j_kd h b = some (.inl cl))
    (hfr : fr + 1 ≤ R.frames) (hlo : 8 + (j_ml n + 11) + lo ≤ R.locals) (hc : cells + mc ≤ R.cells) (hs : slots + ms ≤ R.slots) (hcat : j_cats rest ≤ 8) (hdg : decode cc pc = .ok (.invokevirtual i, 3))
    (kk : ∀ (v : Option j_V) (h' : j_H) (H1 : Heap) (locs1 : List Loc), P v h' → j_st h' = j_st h → j_R D j_fty T A h' H1 → va_S A s.heap H1 locs1 → W p l e R s m args below meth c H1 locs1 (cells + mc) (slots + ms) Q (F0 m (pc + 3) ls ((v.toList ++ rest).map j_m))) :
    W p l e R s m args below meth c H locs cells slots Q (F0 m pc ls ((as.map j_m).reverse ++ .ref b :: rest.map j_m)) := by
  obtain ⟨r, x, b0, m0, r0, hcl, hh, hd, w1, w2, w3, w4, w5, w6, w7, w8⟩ := hM
  have hMet := j_met (hC l hl D T A) (fun E st t hx => by obtain ⟨k, h', -, hx, -⟩ := hx; exact hnx k h' hx)
  rw [show j_ws n = Cond.code (j_y n) (j_b n) (j_ml n) (j_rt n) :: TB by unfold j_ws; rw [j_w0c hh]] at hMet
  rw [j_w0c hh] at w8
  obtain ⟨cell, g1, g2, g3⟩ := j_recv hK hR hkd hcl
  have hG : GoodIn TB (Cond.code (j_y n) (j_b n) (j_ml n) (j_rt n) :: TB) := j_goodIn (fun w h9 => by
    rcases List.mem_cons.mp h9 with rfl | h9
    · exact w8
    · exact h9)
  have hsel : (Cond.selects r.1 x (j_y n)).before args s = true := by
    rcases w5 with w5 | ⟨e1, e2, e3⟩
    · exact hts _ w5
    · rw [e1, ← e2]
      exact va_any rfl (hX.2.2.2.2.2.2.2.2.2.2.2.2.1 x e3)
  have cw : va_CU R s args own r.1 x.cls i x (j_y n) (j_b n) (j_ml n) (j_rt n) (Cond.code (j_y n) (j_b n) (j_ml n) (j_rt n) :: TB) { frames := fr, cells := mc, slots := ms, locals := lo } mc ms np :=
    ⟨⟨rfl, rfl, hfr, hlo, pay_in hts hG, List.mem_cons_self⟩, hts _ w8, hts _ w7, ⟨hd.1, hd.2.1⟩, fun sig h => by
      have h2 := hd.2.2
      rw [h] at h2
      exact (Option.some.inj h2).symm, hts _ w1, hts _ w2, va_Decl.of (hts _ w3) (hts _ w4), hsel, hts _ w6⟩
  exact j_back (k := 3) (st0 := (as.map j_m).reverse ++ .ref b :: rest.map j_m) rfl (va_runU (nL := ls.size) ⟨hexec, hb, hml, hown, hts⟩ hMet cw ⟨j_blind, ⟨cell, g1, by rw [g2]; rfl, g3⟩, fun U hU hW => ⟨rfl, j_Wd_of hK hT hX hY hS hR hA hU hW⟩⟩ rfl (by rw [List.length_map]; exact hn) rfl rfl (lv_room (by rw [j_cats_eq]; exact hcat)) hdg ⟨hc, hs⟩) hS kk
theorem j_cSU (hexec : p.tables.exec = Jvm.exec) (hb : c.code = cc) (hml : c.maxLocals = ls.size) (hts : ∀ w ∈ TB, w.before args s = true) (hown : s.vm.findClass own = some m.cls) (hK : va_K D vwCl T s) (hT : T.map Prod.snd = j_tys) (hX : j_X D A s s.heap) (hY : j_Y j_zr j_zi A (j_st h) s s.heap) (hS : va_S A s.heap H locs) (hR : j_R D j_fty T A h H) (hA : ∀ q, s.heap.size ≤ q → A q) (hl : l.stackTraces = false)
    {n i cl fr lo mc ms b np : Nat} {as : j_S} {P : Option j_V → j_H → Prop} {X : Nat → j_H → Prop} (hM : j_MkS9 own i n cl np) (hn : as.length = np) (hC : j_Ct n fr lo mc ms (j_r (some b) :: as) h P X) (hnx : ∀ x h', ¬ X x h') (hkd : j_kd h b = some (.inl cl))
    (hfr : fr + 1 ≤ R.frames) (hlo : 8 + (j_ml n + 11) + lo ≤ R.locals) (hc : cells + mc ≤ R.cells) (hs : slots + ms ≤ R.slots) (hcat : j_cats rest ≤ 8) (hdg : decode cc pc = .ok (.invokespecial i, 3))
    (kk : ∀ (v : Option j_V) (h' : j_H) (H1 : Heap) (locs1 : List Loc), P v h' → j_st h' = j_st h → j_R D j_fty T A h' H1 → va_S A s.heap H1 locs1 → W p l e R s m args below meth c H1 locs1 (cells + mc) (slots + ms) Q (F0 m (pc + 3) ls ((v.toList ++ rest).map j_m))) :
    W p l e R s m args below meth c H locs cells slots Q (F0 m pc ls ((as.map j_m).reverse ++ .ref b :: rest.map j_m)) := by
  obtain ⟨r, hcl, hh, hno, hd, w1, w2, w3, w4, w5, w6⟩ := hM
  have hMet := j_met (hC l hl D T A) (fun E st t hx => by obtain ⟨k, h', -, hx, -⟩ := hx; exact hnx k h' hx)
  rw [show j_ws n = Cond.code (j_y n) (j_b n) (j_ml n) (j_rt n) :: TB by unfold j_ws; rw [j_w0c hh]] at hMet
  rw [j_w0c hh] at w6
  obtain ⟨cell, g1, g2, g3⟩ := j_recv hK hR hkd hcl
  have hin : ∀ w ∈ va_wsSU own i (j_y n) (Cond.code (j_y n) (j_b n) (j_ml n) (j_rt n) :: TB), w ∈ TB := by
    intro w hw9
    simp only [va_wsSU, List.cons_append, List.nil_append, List.mem_cons] at hw9
    rcases hw9 with rfl | rfl | rfl | rfl | rfl | rfl | h9
    · exact w1
    · exact w2
    · exact w3
    · exact w4
    · exact w5
    · exact w6
    · exact h9
  exact j_back (k := 3) (st0 := (as.map j_m).reverse ++ .ref b :: rest.map j_m) rfl (va_runSU (nL := ls.size) (C := r.1) (hK.1 cl r hcl).2 ⟨hexec, hb, hml, hown, hts⟩ hMet (va_cwSU np hts (j_goodIn hin) rfl rfl rfl ⟨hno, hd.2.2⟩ ⟨hfr, hlo⟩) ⟨j_blind, ⟨cell, g1, by rw [g2]; rfl, g3⟩, fun U hU hW => ⟨rfl, j_Wd_of hK hT hX hY hS hR hA hU hW⟩⟩ rfl (by rw [List.length_map]; exact hn) rfl rfl (lv_room (by rw [j_cats_eq]; exact hcat)) hdg ⟨hc, hs⟩) hS kk
theorem j_cF (hexec : p.tables.exec = Jvm.exec) (hb : c.code = cc) (hml : c.maxLocals = ls.size) (hts : ∀ w ∈ TB, w.before args s = true) (hown : s.vm.findClass own = some m.cls) (hK : va_K D vwCl T s) (hT : T.map Prod.snd = j_tys) (hX : j_X D A s s.heap) (hY : j_Y j_zr j_zi A (j_st h) s s.heap) (hS : va_S A s.heap H locs) (hR : j_R D j_fty T A h H) (hA : ∀ q, s.heap.size ≤ q → A q) (hl : l.stackTraces = false)
    {n i cnt cl fr lo mc ms b np : Nat} {as : j_S} {P : Option j_V → j_H → Prop} {X : Nat → j_H → Prop} {r : vw_C} {x : MethodName} (hcl : vwCl[cl]? = some r) (hfw : va_Fw r.1 x (j_y n) s) (hw : Cond.methodLink own i x ∈ TB) (w1 : Cond.selects r.1 x (j_y n) ∈ TB) (w2 : Cond.instanceMethod (j_y n) ∈ TB) (w3 : Cond.initialized (j_y n).cls ∈ TB) (w4 : j_w0 n ∈ TB) (hh : j_hh n = []) (hd : j_notMH x np) (hn : as.length = np) (hC : j_Ct n fr lo mc ms (j_r (some b) :: as) h P X) (hnx : ∀ x h', ¬ X x h') (hkd : j_kd h b = some (.inl cl))
    (hfr : fr + 1 ≤ R.frames) (hlo : 8 + (j_ml n + 11) + lo ≤ R.locals) (hc : cells + mc ≤ R.cells) (hs : slots + ms ≤ R.slots) (hcat : j_cats rest ≤ 8) (hdg : decode cc pc = .ok (.invokeinterface i cnt, 5))
    (kk : ∀ (v : Option j_V) (h' : j_H) (H1 : Heap) (locs1 : List Loc), P v h' → j_st h' = j_st h → j_R D j_fty T A h' H1 → va_S A s.heap H1 locs1 → W p l e R s m args below meth c H1 locs1 (cells + mc) (slots + ms) Q (F0 m (pc + 5) ls ((v.toList ++ rest).map j_m))) :
    W p l e R s m args below meth c H locs cells slots Q (F0 m pc ls ((as.map j_m).reverse ++ .ref b :: rest.map j_m)) := by
  have hMet := j_met (hC l hl D T A) (fun E st t hx => by obtain ⟨k, h', -, hx, -⟩ := hx; exact hnx k h' hx)
  rw [show j_ws n = Cond.code (j_y n) (j_b n) (j_ml n) (j_rt n) :: TB by unfold j_ws; rw [j_w0c hh]] at hMet
  rw [j_w0c hh] at w4
  obtain ⟨cell, g1, g2, g3⟩ := j_recv hK hR hkd hcl
  have hin : ∀ w ∈ va_wsF own i r.1 x (j_y n) (Cond.code (j_y n) (j_b n) (j_ml n) (j_rt n) :: TB), w ∈ TB := by
    intro w hw9
    simp only [va_wsF, List.cons_append, List.nil_append, List.mem_cons] at hw9
    rcases hw9 with rfl | rfl | rfl | rfl | rfl | h9
    · exact hw
    · exact w1
    · exact w2
    · exact w3
    · exact w4
    · exact h9
  exact j_back (k := 5) rfl (va_runF (nL := ls.size) (hK.1 cl r hcl).2 ⟨hexec, hb, hml, hown, hts⟩ hMet (va_cwF np hts (j_goodIn hin) rfl rfl rfl hfw hd ⟨hfr, hlo⟩) ⟨j_blind, ⟨cell, g1, by rw [g2]; rfl, g3⟩, fun U hU hW => ⟨rfl, j_Wd_of hK hT hX hY hS hR hA hU hW⟩⟩ rfl (by rw [List.length_map]; exact hn) rfl rfl (lv_room (by rw [j_cats_eq]; exact hcat)) hdg ⟨hc, hs⟩) hS kk
end JC
