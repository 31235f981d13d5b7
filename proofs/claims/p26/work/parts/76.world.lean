/-! the little heap at the start -/
theorem j_aty {s : State} {cell : Cell} {t1 t2 : FieldType} (h1 : s.isArrayOf cell t1) (h2 : s.isArrayOf cell t2) : t1 = t2 := by
  obtain ⟨-, k, hk, c, e⟩ := h1
  obtain ⟨-, k', hk', c', e'⟩ := h2
  cases hk.symm.trans hk'
  rw [e] at e'
  cases e'
  rfl
theorem j_tensX : (List.range 100).all (fun j => decide ((flatC j_gv1)[117 + j]? = some (.eq (.elem (.static "java/lang/Integer" "DigitTens" "[B") (.int (Int32.ofNat j))) (.int (Int32.ofNat (48 + j / 10)))))) = true := by decide +kernel
theorem j_onesX : (List.range 100).all (fun j => decide ((flatC j_gv1)[14 + j]? = some (.eq (.elem (.static "java/lang/Integer" "DigitOnes" "[B") (.int (Int32.ofNat j))) (.int (Int32.ofNat (48 + j % 10)))))) = true := by decide +kernel
theorem j_oldA {D : va_G} {T : List (ClassId × FieldType)} {h : j_H} {H : Heap} {q t : Nat} {ty : FieldType} {cA : ClassId} {cell : Cell} (hT : T[t % 10]? = some (cA, ty)) (hk : j_kd h q = some (.inr t)) (ht : 10 ≤ t ∧ t < 13) (h1 : H[q]? = some cell) (h2 : cell.cls = D.1 (100 + t)) (h3 : ∀ k, cell.vm ≠ .statics k) (h4 : cell.vm ≠ .unknown) (h5 : j_ln h q ≤ cell.slots.size ∧ cell.slots.size.toInt32 = Int32.ofNat (j_ln h q)) (h6 : ∀ k : Nat, k < j_ln h q → cell.slots[k]? = some (j_m (j_vv ty h q k))) : j_hold D j_fty T h q H ∧ j_own (fun _ => False) h q := by
  refine ⟨?_, ?_⟩
  · unfold j_hold
    rw [hk]
    exact ⟨(cA, ty), hT, Or.inr ⟨ht, cell, h1, h2, h3, h4, h5, h6⟩⟩
  · unfold j_own
    rw [hk]
    intro z
    omega
theorem j_own.any {A : Nat → Prop} {h : j_H} {q t : Nat} (hk : j_kd h q = some (.inr t)) (ht : 10 ≤ t) : j_own A h q := by
  unfold j_own
  rw [hk]
  intro z
  omega
def j_h0 (b L : Nat) (xs : Nat → Int32) (zE zT zO mi : Nat) : j_H :=
  (fun q => if q = b then some (.inr 10) else if q = zT ∨ q = zO then some (.inr 11) else if q = zE then some (.inr 12) else none,
   fun q k => if q = b then xs k else if q = zT then Int32.ofNat (48 + k / 10) else Int32.ofNat (48 + k % 10),
   fun _ _ => 0, fun _ _ => none,
   fun q => if q = b then L else if q = zT ∨ q = zO then 100 else 0,
   fun k => if k = 0 then some zE else if k = 1 then some zT else if k = 2 then some zO else if k = 9 then some mi else none)
set_option maxHeartbeats 4000000 in
theorem j_begin {s : State} {b L : Nat} {xs : Nat → Int32} (t : j_Tb s b) (hs : ∀ w ∈ flatC j_gv1, w.before #[Value.ref b] s = true) (hX : va_X b L xs s s.heap) : ∃ (D : va_G) (T : List (ClassId × FieldType)) (h0 : j_H), j_Wd D T (fun q => s.heap.size ≤ q) h0 s ∧ j_kd h0 b = some (.inr 10) ∧ j_ln h0 b = L ∧ (∀ q c, j_kd h0 q ≠ some (.inl c)) ∧ (∃ z t, j_st h0 0 = some z ∧ j_kd h0 z = some (.inr t) ∧ t % 10 = 2 ∧ j_ln h0 z = 0) ∧ j_SA h0 := by
  have hA : ∀ a : Nat, a < s.heap.size → ¬ (fun q : Nat => s.heap.size ≤ q) a := fun a h => Nat.not_le.mpr h
  obtain ⟨zE, eE, cE, e1, e2, e3, e4, e5, e6, -⟩ := va_Tof (tm := .static "java/util/ArrayList" "DEFAULTCAPACITY_EMPTY_ELEMENTDATA" "[Ljava/lang/Object;") (ty := .object "java/lang/Object") (N := 0) (f := fun _ => .null) (by decide) (hs _ (by decide +kernel)) (va_eqt (hs _ (by decide +kernel))) (fun j hj => absurd hj (Nat.not_lt_zero j)) hA
  obtain ⟨zT, eT, cT, t1, t2, t3, t4, t5, t6, -⟩ := va_Tof (tm := .static "java/lang/Integer" "DigitTens" "[B") (ty := .byte) (N := 100) (f := fun j => .int (Int32.ofNat (48 + j / 10))) (by decide) (hs _ (by decide +kernel)) (va_eqt (hs _ (by decide +kernel))) (fun j hj => va_eqt (hs _ (List.mem_of_getElem? (of_decide_eq_true (List.all_eq_true.mp j_tensX j (List.mem_range.mpr hj)))))) hA
  obtain ⟨zO, eO, cO, o1, o2, o3, o4, o5, o6, -⟩ := va_Tof (tm := .static "java/lang/Integer" "DigitOnes" "[B") (ty := .byte) (N := 100) (f := fun j => .int (Int32.ofNat (48 + j % 10))) (by decide) (hs _ (by decide +kernel)) (va_eqt (hs _ (by decide +kernel))) (fun j hj => va_eqt (hs _ (List.mem_of_getElem? (of_decide_eq_true (List.all_eq_true.mp j_onesX j (List.mem_range.mpr hj)))))) hA
  obtain ⟨mi, hM⟩ := va_Mi.of (hs (.isRef (.mirror "[Ljava/lang/Object;")) (by decide +kernel))
  obtain ⟨cB, x1, x2⟩ : ∃ cB : ClassId, cT.cls = cB ∧ cO.cls = cB := by
    obtain ⟨a, c, cell, k, q1, q2, q3, q4, q5, q6, -⟩ := Cond.exactly_spec (args := #[Value.ref b]) (first := s) (o := none) (s := s) (idx := []) (t := .static "java/lang/Integer" "DigitTens" "[B") (cls := "[B") (hs _ (by decide +kernel))
    obtain ⟨a', c', cell', k', p1, p2, p3, p4, p5, p6, -⟩ := Cond.exactly_spec (args := #[Value.ref b]) (first := s) (o := none) (s := s) (idx := []) (t := .static "java/lang/Integer" "DigitOnes" "[B") (cls := "[B") (hs _ (by decide +kernel))
    cases eT.symm.trans q1
    cases eO.symm.trans p1
    cases t1.symm.trans q3
    cases o1.symm.trans p3
    cases q2.symm.trans p2
    exact ⟨c, q6, p6⟩
  obtain ⟨scr, s1, s2, s3, s4, s5⟩ := hX
  have nbT : b ≠ zT := fun e => by
    subst e
    cases s1.symm.trans t1
    cases j_aty s2 t2
  have nbO : b ≠ zO := fun e => by
    subst e
    cases s1.symm.trans o1
    cases j_aty s2 o2
  have nbE : b ≠ zE := fun e => by
    subst e
    cases s1.symm.trans e1
    cases j_aty s2 e2
  have nET : zE ≠ zT := fun e => by
    subst e
    cases e1.symm.trans t1
    cases j_aty e2 t2
  have nEO : zE ≠ zO := fun e => by
    subst e
    cases e1.symm.trans o1
    cases j_aty e2 o2
  have nTO : zT ≠ zO := fun e => by
    subst e
    cases t1.symm.trans o1
    have := (t6 1 (by decide)).symm.trans (o6 1 (by decide))
    revert this
    decide
  obtain ⟨D0, hD0⟩ := j_kn t
  obtain ⟨T, hT, hTK⟩ := j_tyk t
  obtain ⟨cI9, hT0⟩ := j_tyat hT (t := 0) rfl
  obtain ⟨cB9, hT1⟩ := j_tyat hT (t := 1) rfl
  obtain ⟨cO9, hT2⟩ := j_tyat hT (t := 2) rfl
  have hlt : ∀ (c : Nat) (r : vw_C), vwCl[c]? = some r → c < 13 := fun c r h => (List.getElem?_eq_some_iff.mp h).1
  have kb : j_kd (j_h0 b L xs zE zT zO mi) b = some (.inr 10) := if_pos rfl
  have lb : j_ln (j_h0 b L xs zE zT zO mi) b = L := if_pos rfl
  have kT : j_kd (j_h0 b L xs zE zT zO mi) zT = some (.inr 11) := (if_neg nbT.symm).trans (if_pos (Or.inl rfl))
  have kO : j_kd (j_h0 b L xs zE zT zO mi) zO = some (.inr 11) := (if_neg nbO.symm).trans (if_pos (Or.inr rfl))
  have kE : j_kd (j_h0 b L xs zE zT zO mi) zE = some (.inr 12) := (if_neg nbE.symm).trans ((if_neg (fun z => z.elim nET nEO)).trans (if_pos rfl))
  have lT : j_ln (j_h0 b L xs zE zT zO mi) zT = 100 := (if_neg nbT.symm).trans (if_pos (Or.inl rfl))
  have lO : j_ln (j_h0 b L xs zE zT zO mi) zO = 100 := (if_neg nbO.symm).trans (if_pos (Or.inr rfl))
  have lE : j_ln (j_h0 b L xs zE zT zO mi) zE = 0 := (if_neg nbE.symm).trans (if_neg (fun z => z.elim nET nEO))
  have ib : ∀ k, j_it (j_h0 b L xs zE zT zO mi) b k = xs k := fun k => if_pos rfl
  have iT : ∀ k, j_it (j_h0 b L xs zE zT zO mi) zT k = Int32.ofNat (48 + k / 10) := fun k => (if_neg nbT.symm).trans (if_pos rfl)
  have iO : ∀ k, j_it (j_h0 b L xs zE zT zO mi) zO k = Int32.ofNat (48 + k % 10) := fun k => (if_neg nbO.symm).trans (if_neg nTO.symm)
  have st0 : j_st (j_h0 b L xs zE zT zO mi) 0 = some zE := rfl
  have st1 : j_st (j_h0 b L xs zE zT zO mi) 1 = some zT := rfl
  have st2 : j_st (j_h0 b L xs zE zT zO mi) 2 = some zO := rfl
  have st9 : j_st (j_h0 b L xs zE zT zO mi) 9 = some mi := rfl
  have kn : ∀ q, q ≠ b → q ≠ zT → q ≠ zO → q ≠ zE → j_kd (j_h0 b L xs zE zT zO mi) q = none := fun q a1 a2 a3 a4 => (if_neg a1).trans ((if_neg (fun z => z.elim a2 a3)).trans (if_neg a4))
  generalize j_h0 b L xs zE zT zO mi = h0 at kb lb kT kO kE lT lO lE ib iT iO st0 st1 st2 st9 kn
  refine ⟨(fun k => if k = 110 then scr.cls else if k = 111 then cB else if k = 112 then cE.cls else D0.1 k, D0.2), T, h0, ⟨⟨fun c r h => ?_, hTK⟩, hT, j_Xs t hs ⟨?_, ?_, ?_⟩, ⟨?_, ?_, mi, st9, hM⟩, fun q => ?_, fun q h => h⟩, kb, lb, fun q c hq => ?_, ⟨zE, 12, st0, kE, rfl, lE⟩, fun k hk => ?_⟩
  · have := hlt c r h
    show u_Kn s _ _ _ (if c = 110 then _ else if c = 111 then _ else if c = 112 then _ else D0.1 c) _
    rw [if_neg (by omega), if_neg (by omega), if_neg (by omega)]
    exact hD0 c r h
  · exact fun n z => ⟨(fun _ h => nomatch h), s2.2⟩
  · intro n z
    have w := t2.2
    rw [x1] at w
    exact ⟨(fun _ h => nomatch h), w⟩
  · exact fun n z => ⟨(fun _ h => nomatch h), e2.2⟩
  · intro k q hk
    match k, hk with
    | 0, hk => have e := Option.some.inj hk; subst e; rw [st0]; exact va_Zref (t.t tw_1_55) (t.b _ tw_1_4) eE hA
    | 1, hk => have e := Option.some.inj hk; subst e; rw [st1]; exact va_Zref (t.t tw_4_162) (t.b _ tw_1_27) eT hA
    | 2, hk => have e := Option.some.inj hk; subst e; rw [st2]; exact va_Zref (t.t tw_4_160) (t.b _ tw_1_27) eO hA
    | _ + 3, hk => exact nomatch hk
  · intro k q hk
    match k, hk with
    | 0, hk => have e := Option.some.inj hk; subst e; exact va_Zof (t.t tw_4_100) (t.b _ tw_1_31) (va_eqi (hs _ (by decide +kernel))) hA
    | _ + 1, hk => exact nomatch hk
  · by_cases qb : q = b
    · subst qb
      exact ⟨(j_oldA hT0 kb (by omega) s1 rfl s2.1 s3 (by rw [lb, s4]; exact ⟨Nat.le_refl _, rfl⟩) (fun k hk => by rw [lb] at hk; rw [s5 k hk]; show _ = some (Value.int (j_it h0 q k)); rw [ib])).1, j_own.any kb (by omega)⟩
    by_cases qT : q = zT
    · subst qT
      exact ⟨(j_oldA hT1 kT (by omega) t1 x1 t2.1 t3 (by rw [lT]; exact ⟨t4, t5⟩) (fun k hk => by rw [lT] at hk; rw [t6 k hk]; show _ = some (Value.int (j_it h0 q k)); rw [iT])).1, j_own.any kT (by omega)⟩
    by_cases qO : q = zO
    · subst qO
      exact ⟨(j_oldA hT1 kO (by omega) o1 x2 o2.1 o3 (by rw [lO]; exact ⟨o4, o5⟩) (fun k hk => by rw [lO] at hk; rw [o6 k hk]; show _ = some (Value.int (j_it h0 q k)); rw [iO])).1, j_own.any kO (by omega)⟩
    by_cases qE : q = zE
    · subst qE
      exact ⟨(j_oldA hT2 kE (by omega) e1 rfl e2.1 e3 (by rw [lE]; exact ⟨e4, e5⟩) (fun k hk => by rw [lE] at hk; exact absurd hk (Nat.not_lt_zero k))).1, j_own.any kE (by omega)⟩
    have hn := kn q qb qT qO qE
    refine ⟨?_, ?_⟩
    · unfold j_hold; rw [hn]; trivial
    · unfold j_own; rw [hn]; trivial
  · by_cases qb : q = b
    · rw [qb, kb] at hq; cases hq
    by_cases qT : q = zT
    · rw [qT, kT] at hq; cases hq
    by_cases qO : q = zO
    · rw [qO, kO] at hq; cases hq
    by_cases qE : q = zE
    · rw [qE, kE] at hq; cases hq
    rw [kn q qb qT qO qE] at hq
    cases hq
  · rcases hk with rfl | rfl
    · exact ⟨zT, st1, kT, lT⟩
    · exact ⟨zO, st2, kO, lO⟩
