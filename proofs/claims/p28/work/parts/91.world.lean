/-! the little heap at the start -/
theorem j_aty {s : State} {cell : Cell} {t1 t2 : FieldType} (h1 : s.isArrayOf cell t1) (h2 : s.isArrayOf cell t2) : t1 = t2 := by
  obtain ⟨-, k, hk, c, e⟩ := h1
  obtain ⟨-, k', hk', c', e'⟩ := h2
  cases hk.symm.trans hk'
  rw [e] at e'
  cases e'
  rfl
theorem j_oldA {D : va_G} {T : List (ClassId × FieldType)} {h : j_H} {H : Heap} {q t : Nat} {ty : FieldType} {cA : ClassId} {cell : Cell} (hT : T[t % 10]? = some (cA, ty)) (hk : j_kd h q = some (.inr t)) (ht : 10 ≤ t ∧ t < 13) (h1 : H[q]? = some cell) (h2 : cell.cls = D.1 (100 + t)) (h3 : ∀ k, cell.vm ≠ .statics k) (h4 : cell.vm ≠ .unknown) (h5 : j_ln h q ≤ cell.slots.size ∧ cell.slots.size.toInt32 = Int32.ofNat (j_ln h q)) (h6 : ∀ k : Nat, k < j_ln h q → cell.slots[k]? = some (j_m (j_vv ty h q k))) : j_hold D j_fty T h q H ∧ j_own (fun _ => False) h q := by
  refine ⟨?_, ?_⟩
  · unfold j_hold
    rw [hk]
    exact ⟨(cA, ty), hT, Or.inr ⟨ht, cell, h1, h2, h3, h4, h5, h6⟩⟩
  · unfold j_own
    rw [hk]
    intro z
    omega
theorem j_own.any {A : Nat → Prop} {h : j_H} {q t : Nat} (hk : j_kd h q = some (.inr t)) (ht : 10 ≤ t) : j_own A h q := by
  unfold j_own
  rw [hk]
  intro z
  omega
def j_h0 (b L : Nat) (xs : Nat → Int32) (zE mi : Nat) : j_H :=
  (fun q => if q = b then some (.inr 10) else if q = zE then some (.inr 12) else none,
   fun q k => xs k, fun _ _ => 0, fun _ _ => none,
   fun q => if q = b then L else 0,
   fun k => if k = 0 then some zE else if k = 9 then some mi else none)
set_option maxHeartbeats 4000000 in
theorem j_begin {s : State} {b L : Nat} {xs : Nat → Int32} (t : j_Tb s b) (hs : ∀ w ∈ flatC j_gv1, w.before #[Value.ref b] s = true) (hX : va_X b L xs s s.heap) : ∃ (D : va_G) (T : List (ClassId × FieldType)) (h0 : j_H), j_Wd D T (fun q => s.heap.size ≤ q) h0 s ∧ j_kd h0 b = some (.inr 10) ∧ j_ln h0 b = L ∧ (∀ q c, j_kd h0 q ≠ some (.inl c)) ∧ (∃ z t, j_st h0 0 = some z ∧ j_kd h0 z = some (.inr t) ∧ t % 10 = 2 ∧ j_ln h0 z = 0) := by
  have hA : ∀ a : Nat, a < s.heap.size → ¬ (fun q : Nat => s.heap.size ≤ q) a := fun a h => Nat.not_le.mpr h
  obtain ⟨zE, eE, cE, e1, e2, e3, e4, e5, e6, -⟩ := va_Tof (tm := .static "java/util/ArrayList" "DEFAULTCAPACITY_EMPTY_ELEMENTDATA" "[Ljava/lang/Object;") (ty := .object "java/lang/Object") (N := 0) (f := fun _ => .null) (by decide) (hs _ (by decide +kernel)) (va_eqt (hs _ (by decide +kernel))) (fun j hj => absurd hj (Nat.not_lt_zero j)) hA
  obtain ⟨mi, hM⟩ := va_Mi.of (hs (.isRef (.mirror "[Ljava/lang/Object;")) (by decide +kernel))
  obtain ⟨scr, s1, s2, s3, s4, s5⟩ := hX
  have nbE : b ≠ zE := fun e => by
    subst e
    cases s1.symm.trans e1
    cases j_aty s2 e2
  obtain ⟨D0, hD0⟩ := j_kn t
  obtain ⟨T, hT, hTK⟩ := j_tyk t
  obtain ⟨cI9, hT0⟩ := j_tyat hT (t := 0) rfl
  obtain ⟨cB9, hT1⟩ := j_tyat hT (t := 1) rfl
  obtain ⟨cO9, hT2⟩ := j_tyat hT (t := 2) rfl
  have hlt : ∀ (c : Nat) (r : vw_C), vwCl[c]? = some r → c < 9 := fun c r h => (List.getElem?_eq_some_iff.mp h).1
  have kb : j_kd (j_h0 b L xs zE mi) b = some (.inr 10) := if_pos rfl
  have lb : j_ln (j_h0 b L xs zE mi) b = L := if_pos rfl
  have kE : j_kd (j_h0 b L xs zE mi) zE = some (.inr 12) := (if_neg nbE.symm).trans (if_pos rfl)
  have lE : j_ln (j_h0 b L xs zE mi) zE = 0 := if_neg nbE.symm
  have ib : ∀ k, j_it (j_h0 b L xs zE mi) b k = xs k := fun k => rfl
  have st0 : j_st (j_h0 b L xs zE mi) 0 = some zE := rfl
  have st9 : j_st (j_h0 b L xs zE mi) 9 = some mi := rfl
  have kn : ∀ q, q ≠ b → q ≠ zE → j_kd (j_h0 b L xs zE mi) q = none := fun q a1 a4 => (if_neg a1).trans (if_neg a4)
  generalize j_h0 b L xs zE mi = h0 at kb lb kE lE ib st0 st9 kn
  refine ⟨(fun k => if k = 110 then scr.cls else if k = 111 then cB9 else if k = 112 then cE.cls else D0.1 k, D0.2), T, h0, ⟨⟨fun c r h => ?_, hTK⟩, hT, j_Xs t hs ⟨?_, ?_, ?_⟩, ⟨?_, ?_, mi, st9, hM⟩, fun q => ?_, fun q h => h⟩, kb, lb, fun q c hq => ?_, ⟨zE, 12, st0, kE, rfl, lE⟩⟩
  · have := hlt c r h
    show u_Kn s _ _ _ (if c = 110 then _ else if c = 111 then _ else if c = 112 then _ else D0.1 c) _
    rw [if_neg (by omega), if_neg (by omega), if_neg (by omega)]
    exact hD0 c r h
  · exact fun n z => ⟨(fun _ h => nomatch h), s2.2⟩
  · exact (hTK 1 (cB9, .byte) hT1).1
  · exact fun n z => ⟨(fun _ h => nomatch h), e2.2⟩
  · intro k q hk
    match k, hk with
    | 0, hk => have e := Option.some.inj hk; subst e; rw [st0]; exact va_Zref (t.t tw_2_131) (t.b _ tw_1_4) eE hA
    | _ + 1, hk => exact nomatch hk
  · intro k q hk
    exact nomatch hk
  · by_cases qb : q = b
    · subst qb
      exact ⟨(j_oldA hT0 kb (by omega) s1 rfl s2.1 s3 (by rw [lb, s4]; exact ⟨Nat.le_refl _, rfl⟩) (fun k hk => by rw [lb] at hk; rw [s5 k hk]; show _ = some (Value.int (j_it h0 q k)); rw [ib])).1, j_own.any kb (by omega)⟩
    by_cases qE : q = zE
    · subst qE
      exact ⟨(j_oldA hT2 kE (by omega) e1 rfl e2.1 e3 (by rw [lE]; exact ⟨e4, e5⟩) (fun k hk => by rw [lE] at hk; exact absurd hk (Nat.not_lt_zero k))).1, j_own.any kE (by omega)⟩
    have hn := kn q qb qE
    refine ⟨?_, ?_⟩
    · unfold j_hold; rw [hn]; trivial
    · unfold j_own; rw [hn]; trivial
  · by_cases qb : q = b
    · rw [qb, kb] at hq; cases hq
    by_cases qE : q = zE
    · rw [qE, kE] at hq; cases hq
    rw [kn q qb qE] at hq
    cases hq
