/-! the law's turns, one by one -/
theorem j_i2 {i : Int32} (h0 : 0 ≤ i.toInt) (h1 : i.toInt ≤ 100000) : (i + Int32.ofInt (2)).toInt = i.toInt + 2 := by
  have e : (Int32.ofInt (2)).toInt = 2 := by decide
  rw [j_addI (by omega) (by omega), e]
theorem j_i3 {i : Int32} (h0 : 0 ≤ i.toInt) (h1 : i.toInt ≤ 100000) : (i + Int32.ofInt (3)).toInt = i.toInt + 3 := by
  have e : (Int32.ofInt (3)).toInt = 3 := by decide
  rw [j_addI (by omega) (by omega), e]
theorem j_i4 {i : Int32} (h0 : 0 ≤ i.toInt) (h1 : i.toInt ≤ 100000) : (i + Int32.ofInt (4)).toInt = i.toInt + 4 := by
  have e : (Int32.ofInt (4)).toInt = 4 := by decide
  rw [j_addI (by omega) (by omega), e]
theorem j_i5 {i : Int32} (h0 : 0 ≤ i.toInt) (h1 : i.toInt ≤ 100000) : (i + Int32.ofInt (5)).toInt = i.toInt + 5 := by
  have e : (Int32.ofInt (5)).toInt = 5 := by decide
  rw [j_addI (by omega) (by omega), e]
abbrev j_lF : j_F := (7, some .boolean, 2048, 84000, 601024, 7293034)
def j_lP : Option j_V → j_H → Prop := fun v _ => v = some (j_i (Int32.ofInt 1))
theorem j_MX.up3 {ρ : Nat → Nat} {h : j_H} {m P G R Q : Nat} {a : Int32} (w : j_MX ρ h m P G R Q) : j_MX ρ (j_up h m 3 (j_i a)) m P G R Q := by
  have ne : ∀ q s, j_kd h q = some s → s ≠ .inl 12 → ∀ k, j_it (j_up h m 3 (j_i a)) q k = j_it h q k := fun q s hq hs k => (j_up_ne h (j_i a) (fun z => by rw [z, w.km] at hq; exact hs (Option.some.inj hq).symm) k).1
  have lk : ∀ L kk M, j_LK h L kk M → j_LK (j_up h m 3 (j_i a)) L kk M := fun L kk M l => by
    obtain ⟨kL, b0, b1, arr, t, f1, f2, f3, f4, f5, f6⟩ := l
    have i2 := ne L _ kL (fun z => nomatch z) 2
    exact ⟨kL, by rw [i2]; exact b0, by rw [i2]; exact b1, arr, t, f1, f2, f3, by rw [i2]; exact f4, f5, fun j hj => f6 j (by rw [i2] at hj; exact hj)⟩
  have el : ∀ {L kk M}, j_LK h L kk M → ∀ arr, j_rf h L 1 = some arr → ∀ j e : Nat, (j : Int) < (j_it h L 2).toInt → j_rf h arr j = some e → j_kd h e = some kk := fun {L kk M} l a ha j e hj he => by
    obtain ⟨kL, b0, b1, arr, t, f1, f2, f3, f4, f5, f6⟩ := l
    obtain rfl : arr = a := Option.some.inj (f1.symm.trans ha)
    obtain ⟨y, y1, y2⟩ := f6 j hj
    obtain rfl : y = e := Option.some.inj (y1.symm.trans he)
    exact y2
  have iG := ne G _ w.lG.1 (fun z => nomatch z) 2
  have iR := ne R _ w.lR.1 (fun z => nomatch z) 2
  have iQ := ne Q _ w.lQ.1 (fun z => nomatch z) 2
  refine ⟨w.km, ⟨w.eP, w.kP, w.nP, w.rP, fun i hi => by rw [ne P _ w.kP (fun z => nomatch z) i]; exact w.zP i hi⟩, ⟨w.eG, lk _ _ _ w.lG⟩, ⟨w.eR, lk _ _ _ w.lR⟩, ⟨w.eQ, lk _ _ _ w.lQ⟩, w.ap, ?_, ?_, ?_, w.rz⟩
  · intro arr a1 j e hj a2
    rw [iG] at hj
    exact w.aG arr a1 j e hj a2
  · intro arr a1 j e hj a2
    rw [iR] at hj
    have ke := el w.lR arr a1 j e hj a2
    unfold j_rA
    rw [ne e _ ke (fun z => nomatch z) 1]
    exact w.aR arr a1 j e hj a2
  · intro arr a1 j e hj a2
    rw [iQ] at hj
    have ke := el w.lQ arr a1 j e hj a2
    obtain ⟨g1, g2, g3, g4, g5⟩ := w.aQ arr a1 j e hj a2
    have n := ne e _ ke (fun z => nomatch z)
    exact ⟨g1, g2, by rw [n 0]; exact g3, by rw [n 0, iR]; exact g4, by rw [n 2]; exact g5⟩
/-- what the class's slip leaves -/
theorem j_L0.slipx {L sc x m out P G R Q : Nat} {h : j_H} {a : Int32} {b : Int64} (l : j_L0 L sc x m out P G R Q h) : j_L0 L sc x m out P G R Q (j_up (j_up h x 5 (j_i a)) out 0 (j_l b)) ∧ (∀ k, j_it (j_up (j_up h x 5 (j_i a)) out 0 (j_l b)) sc k = j_it h sc k) ∧ j_it (j_up (j_up h x 5 (j_i a)) out 0 (j_l b)) m 3 = j_it h m 3 ∧ j_it (j_up (j_up h x 5 (j_i a)) out 0 (j_l b)) x 5 = a ∧ j_lg (j_up (j_up h x 5 (j_i a)) out 0 (j_l b)) out 0 = b := by
  obtain ⟨w, mx, ko, sa, dj, ks, ls⟩ := id l
  have s : j_Sc (fun c k => Nat.beq c 8 && Nat.beq k 5) h (j_u (j_it h) x 5 a) := j_Sc.rf.put w.1 rfl
  have w1 : j_WF (j_up h x 5 (j_i a)) x := w.sc s ⟨fun _ => rfl, rfl⟩
  have w2 := w1.off2 (S := fun q => q = out) (h1 := j_up (j_up h x 5 (j_i a)) out 0 (j_l b)) (j_On.up rfl) (fun q hq ho => by rw [hq] at ho; exact absurd ho (j_now w1 ko (by decide))) (fun q c hq _ _ => hq)
  have o : j_On (fun q => j_ow h x q ∨ q = out) h (j_up (j_up h x 5 (j_i a)) out 0 (j_l b)) := (j_On.up (Or.inl (Or.inl ⟨8, w.1, by decide, by decide⟩))).trans (j_On.up (Or.inr rfl))
  obtain ⟨c1, c2, c3⟩ := l.cls w2.1 o (fun q hq _ => by
    have := w2.2.1 q hq
    rcases this with ⟨c, h1, h2⟩ | ⟨k, L, hk, h1, h2⟩
    · exact Or.inl ⟨c, h1, h2⟩
    · exact Or.inr ⟨k, L, hk, h1, h2⟩)
  refine ⟨c1, c2, c3, ?_, ?_⟩
  · show j_it (j_up h x 5 (j_i a)) x 5 = a
    exact j_upi
  · show j_u _ out 0 b out 0 = b
    exact j_u_at
/-- what the model's slip leaves -/
theorem j_L0.slipm {L sc x m out P G R Q : Nat} {h : j_H} {a b : Int32} (l : j_L0 L sc x m out P G R Q h) : j_L0 L sc x m out P G R Q (j_up (j_up h m 0 (j_i b)) m 3 (j_i a)) ∧ (∀ k, j_it (j_up (j_up h m 0 (j_i b)) m 3 (j_i a)) sc k = j_it h sc k) ∧ j_it (j_up (j_up h m 0 (j_i b)) m 3 (j_i a)) x 5 = j_it h x 5 ∧ ∀ k, j_lg (j_up (j_up h m 0 (j_i b)) m 3 (j_i a)) out k = j_lg h out k := by
  obtain ⟨w, ⟨ρ, mx⟩, ko, sa, dj, ks, ls⟩ := id l
  have f1 : j_Mf ρ m h (j_up h m 0 (j_i b)) := j_Mf.fi mx.km (by decide)
  have hm : j_mi h m := Or.inl ⟨12, mx.km, by decide⟩
  exact l.mod ⟨ρ, (mx.f f1).up3⟩ ((j_On.up (Or.inl hm)).trans (j_On.up (Or.inl hm))) (fun q hq _ => hq) (fun q c hq _ _ => hq)
theorem j_cmp0 (x : Int64) : (lg_cmp x x).toInt = 0 := by
  have e : lg_cmp x x = 0 := by
    unfold lg_cmp
    simp
  rw [e]
  decide
set_option maxHeartbeats 4000000 in
set_option maxRecDepth 20000 in
theorem j_turn0 {J : j_J} {L sc x m out P G R Q cn sn : Nat} {i : Int32} {h : j_H} (hJ : j_Cl k_law j_lF j_lP j_no J) (hF : j_Fg J) (hL : L ≤ 2560) (i0 : 0 ≤ i.toInt) (i1 : i.toInt + 5 ≤ (L : Int)) (hc : cn ≤ 500000) (hs : sn ≤ 6000000) (lw : j_LW L sc x m out P G R Q h) (back : ∀ (h' : j_H) (cn' sn' : Nat), j_LW L sc x m out P G R Q h' → cn' ≤ cn + 200 → sn' ≤ sn + 2000 → J 1161 [some (j_r (some sc)), some (j_r (some x)), some (j_r (some m)), some (j_r (some out)), some (j_i i), none, none] [] h' cn' sn') : J 156 [some (j_r (some sc)), some (j_r (some x)), some (j_r (some m)), some (j_r (some out)), some (j_i i), none, none] [] h cn sn := by
  have q1 : (i + Int32.ofInt (1)).toInt = i.toInt + 1 := j_inc1 (by omega)
  have q2 : (i + Int32.ofInt (2)).toInt = i.toInt + 2 := j_i2 i0 (by omega)
  have q3 : (i + Int32.ofInt (3)).toInt = i.toInt + 3 := j_i3 i0 (by omega)
  have q4 : (i + Int32.ofInt (4)).toInt = i.toInt + 4 := j_i4 i0 (by omega)
  refine hJ [1161] 400 _ _ _ _ _ _ ?_
  conv => whnf
  have lsv1 : j_ln h sc = L := lw.1.2.2.2.2.2.2
  refine ⟨_, _, rfl, lw.1.2.2.2.2.2.1, rfl, j_vp (by omega) (by rw [lsv1]; omega), fun v1 ev1 => ?_⟩
  conv => whnf
  have lsv2 : j_ln h sc = L := lw.1.2.2.2.2.2.2
  refine ⟨_, _, rfl, lw.1.2.2.2.2.2.1, rfl, j_vp (by omega) (by rw [lsv2]; omega), fun v2 ev2 => ?_⟩
  conv => whnf
  have lsv3 : j_ln h sc = L := lw.1.2.2.2.2.2.2
  refine ⟨_, _, rfl, lw.1.2.2.2.2.2.1, rfl, j_vp (by omega) (by rw [lsv3]; omega), fun v3 ev3 => ?_⟩
  conv => whnf
  refine ⟨rfl, _, _, _, _, _, _, c_Lw_grain lw.1.1 lw.1.2.2.1, ⟨Nat.le_of_ble_eq_true rfl, Nat.le_of_ble_eq_true rfl, by (try dsimp only); omega, by (try dsimp only); omega⟩, fun _ _ z => False.elim z, ?_⟩
  rintro v9 H4 ⟨⟨r6, rfl⟩, fo⟩
  have l5 := (lw.fo fo).1
  conv => whnf
  have lsv7 : j_ln H4 sc = L := l5.1.2.2.2.2.2.2
  refine ⟨_, _, rfl, l5.1.2.2.2.2.2.1, rfl, j_vp (by omega) (by rw [lsv7]; omega), fun v7 ev7 => ?_⟩
  conv => whnf
  have lsv8 : j_ln H4 sc = L := l5.1.2.2.2.2.2.2
  refine ⟨_, _, rfl, l5.1.2.2.2.2.2.1, rfl, j_vp (by omega) (by rw [lsv8]; omega), fun v8 ev8 => ?_⟩
  conv => whnf
  have lsv9 : j_ln H4 sc = L := l5.1.2.2.2.2.2.2
  refine ⟨_, _, rfl, l5.1.2.2.2.2.2.1, rfl, j_vp (by omega) (by rw [lsv9]; omega), fun v9 ev9 => ?_⟩
  conv => whnf
  obtain ⟨ρ13, w12⟩ := l5.1.2.1
  refine ⟨w12.km, rfl, _, _, _, _, _, _, c_Mo_grain w12, ⟨Nat.le_of_ble_eq_true rfl, Nat.le_of_ble_eq_true rfl, by (try dsimp only); omega, by (try dsimp only); omega⟩, fun _ _ z => False.elim z, ?_⟩
  rintro v9 H10 ⟨w9, g9, r9, rfl⟩
  have l11 := l5.mg w9 g9
  exact j_use hF (back _ _ _ l11 (by omega) (by omega)) (And.intro rfl (And.intro rfl (And.intro rfl (And.intro rfl (And.intro rfl trivial)))))
set_option maxHeartbeats 4000000 in
set_option maxRecDepth 20000 in
theorem j_turn1 {J : j_J} {L sc x m out P G R Q cn sn : Nat} {i : Int32} {h : j_H} (hJ : j_Cl k_law j_lF j_lP j_no J) (hF : j_Fg J) (hL : L ≤ 2560) (i0 : 0 ≤ i.toInt) (i1 : i.toInt + 5 ≤ (L : Int)) (hc : cn ≤ 500000) (hs : sn ≤ 6000000) (lw : j_LW L sc x m out P G R Q h) (back : ∀ (h' : j_H) (cn' sn' : Nat), j_LW L sc x m out P G R Q h' → cn' ≤ cn + 200 → sn' ≤ sn + 2000 → J 1161 [some (j_r (some sc)), some (j_r (some x)), some (j_r (some m)), some (j_r (some out)), some (j_i i), none, none] [] h' cn' sn') : J 208 [some (j_r (some sc)), some (j_r (some x)), some (j_r (some m)), some (j_r (some out)), some (j_i i), none, none] [] h cn sn := by
  have q1 : (i + Int32.ofInt (1)).toInt = i.toInt + 1 := j_inc1 (by omega)
  have q2 : (i + Int32.ofInt (2)).toInt = i.toInt + 2 := j_i2 i0 (by omega)
  have q3 : (i + Int32.ofInt (3)).toInt = i.toInt + 3 := j_i3 i0 (by omega)
  have q4 : (i + Int32.ofInt (4)).toInt = i.toInt + 4 := j_i4 i0 (by omega)
  refine hJ [1161] 400 _ _ _ _ _ _ ?_
  conv => whnf
  have lsv14 : j_ln h sc = L := lw.1.2.2.2.2.2.2
  refine ⟨_, _, rfl, lw.1.2.2.2.2.2.1, rfl, j_vp (by omega) (by rw [lsv14]; omega), fun v14 ev14 => ?_⟩
  conv => whnf
  refine ⟨rfl, _, _, _, _, _, _, c_Lw_pass lw.1.1 lw.1.2.2.1, ⟨Nat.le_of_ble_eq_true rfl, Nat.le_of_ble_eq_true rfl, by (try dsimp only); omega, by (try dsimp only); omega⟩, fun _ _ z => False.elim z, ?_⟩
  rintro v9 H15 ⟨⟨r17, rfl⟩, fo⟩
  have l16 := (lw.fo fo).1
  conv => whnf
  have lsv18 : j_ln H15 sc = L := l16.1.2.2.2.2.2.2
  refine ⟨_, _, rfl, l16.1.2.2.2.2.2.1, rfl, j_vp (by omega) (by rw [lsv18]; omega), fun v18 ev18 => ?_⟩
  conv => whnf
  obtain ⟨ρ22, w21⟩ := l16.1.2.1
  refine ⟨w21.km, rfl, _, _, _, _, _, _, c_Mo_pass w21, ⟨Nat.le_of_ble_eq_true rfl, Nat.le_of_ble_eq_true rfl, by (try dsimp only); omega, by (try dsimp only); omega⟩, fun _ _ z => False.elim z, ?_⟩
  rintro v9 H19 ⟨st9, r9, rfl⟩
  have l20 := l16.mf w21 st9
  exact j_use hF (back _ _ _ l20 (by omega) (by omega)) (And.intro rfl (And.intro rfl (And.intro rfl (And.intro rfl (And.intro rfl trivial)))))
set_option maxHeartbeats 4000000 in
set_option maxRecDepth 20000 in
theorem j_turn2 {J : j_J} {L sc x m out P G R Q cn sn : Nat} {i : Int32} {h : j_H} (hJ : j_Cl k_law j_lF j_lP j_no J) (hF : j_Fg J) (hL : L ≤ 2560) (i0 : 0 ≤ i.toInt) (i1 : i.toInt + 5 ≤ (L : Int)) (hc : cn ≤ 500000) (hs : sn ≤ 6000000) (lw : j_LW L sc x m out P G R Q h) (back : ∀ (h' : j_H) (cn' sn' : Nat), j_LW L sc x m out P G R Q h' → cn' ≤ cn + 200 → sn' ≤ sn + 2000 → J 1161 [some (j_r (some sc)), some (j_r (some x)), some (j_r (some m)), some (j_r (some out)), some (j_i i), none, none] [] h' cn' sn') : J 236 [some (j_r (some sc)), some (j_r (some x)), some (j_r (some m)), some (j_r (some out)), some (j_i i), none, none] [] h cn sn := by
  have q1 : (i + Int32.ofInt (1)).toInt = i.toInt + 1 := j_inc1 (by omega)
  have q2 : (i + Int32.ofInt (2)).toInt = i.toInt + 2 := j_i2 i0 (by omega)
  have q3 : (i + Int32.ofInt (3)).toInt = i.toInt + 3 := j_i3 i0 (by omega)
  have q4 : (i + Int32.ofInt (4)).toInt = i.toInt + 4 := j_i4 i0 (by omega)
  refine hJ [1161] 400 _ _ _ _ _ _ ?_
  conv => whnf
  have lsv23 : j_ln h sc = L := lw.1.2.2.2.2.2.2
  refine ⟨_, _, rfl, lw.1.2.2.2.2.2.1, rfl, j_vp (by omega) (by rw [lsv23]; omega), fun v23 ev23 => ?_⟩
  conv => whnf
  have lsv24 : j_ln h sc = L := lw.1.2.2.2.2.2.2
  refine ⟨_, _, rfl, lw.1.2.2.2.2.2.1, rfl, j_vp (by omega) (by rw [lsv24]; omega), fun v24 ev24 => ?_⟩
  conv => whnf
  refine ⟨rfl, _, _, _, _, _, _, c_Lw_heat lw.1.1 lw.1.2.2.1, ⟨Nat.le_of_ble_eq_true rfl, Nat.le_of_ble_eq_true rfl, by (try dsimp only); omega, by (try dsimp only); omega⟩, fun _ _ z => False.elim z, ?_⟩
  rintro v9 H25 ⟨⟨r27, rfl⟩, fo⟩
  have l26 := (lw.fo fo).1
  conv => whnf
  have lsv28 : j_ln H25 sc = L := l26.1.2.2.2.2.2.2
  refine ⟨_, _, rfl, l26.1.2.2.2.2.2.1, rfl, j_vp (by omega) (by rw [lsv28]; omega), fun v28 ev28 => ?_⟩
  conv => whnf
  have lsv29 : j_ln H25 sc = L := l26.1.2.2.2.2.2.2
  refine ⟨_, _, rfl, l26.1.2.2.2.2.2.1, rfl, j_vp (by omega) (by rw [lsv29]; omega), fun v29 ev29 => ?_⟩
  conv => whnf
  obtain ⟨ρ33, w32⟩ := l26.1.2.1
  refine ⟨w32.km, rfl, _, _, _, _, _, _, c_Mo_heat w32, ⟨Nat.le_of_ble_eq_true rfl, Nat.le_of_ble_eq_true rfl, by (try dsimp only); omega, by (try dsimp only); omega⟩, fun _ _ z => False.elim z, ?_⟩
  rintro v9 H30 ⟨st9, r9, rfl⟩
  have l31 := l26.mf w32 st9
  exact j_use hF (back _ _ _ l31 (by omega) (by omega)) (And.intro rfl (And.intro rfl (And.intro rfl (And.intro rfl (And.intro rfl trivial)))))
set_option maxHeartbeats 4000000 in
set_option maxRecDepth 20000 in
theorem j_turn3 {J : j_J} {L sc x m out P G R Q cn sn : Nat} {i : Int32} {h : j_H} (hJ : j_Cl k_law j_lF j_lP j_no J) (hF : j_Fg J) (hL : L ≤ 2560) (i0 : 0 ≤ i.toInt) (i1 : i.toInt + 5 ≤ (L : Int)) (hc : cn ≤ 500000) (hs : sn ≤ 6000000) (lw : j_LW L sc x m out P G R Q h) (back : ∀ (h' : j_H) (cn' sn' : Nat), j_LW L sc x m out P G R Q h' → cn' ≤ cn + 200 → sn' ≤ sn + 2000 → J 1161 [some (j_r (some sc)), some (j_r (some x)), some (j_r (some m)), some (j_r (some out)), some (j_i i), none, none] [] h' cn' sn') : J 276 [some (j_r (some sc)), some (j_r (some x)), some (j_r (some m)), some (j_r (some out)), some (j_i i), none, none] [] h cn sn := by
  have q1 : (i + Int32.ofInt (1)).toInt = i.toInt + 1 := j_inc1 (by omega)
  have q2 : (i + Int32.ofInt (2)).toInt = i.toInt + 2 := j_i2 i0 (by omega)
  have q3 : (i + Int32.ofInt (3)).toInt = i.toInt + 3 := j_i3 i0 (by omega)
  have q4 : (i + Int32.ofInt (4)).toInt = i.toInt + 4 := j_i4 i0 (by omega)
  refine hJ [1161] 400 _ _ _ _ _ _ ?_
  conv => whnf
  have lsv34 : j_ln h sc = L := lw.1.2.2.2.2.2.2
  refine ⟨_, _, rfl, lw.1.2.2.2.2.2.1, rfl, j_vp (by omega) (by rw [lsv34]; omega), fun v34 ev34 => ?_⟩
  conv => whnf
  have lsv35 : j_ln h sc = L := lw.1.2.2.2.2.2.2
  refine ⟨_, _, rfl, lw.1.2.2.2.2.2.1, rfl, j_vp (by omega) (by rw [lsv35]; omega), fun v35 ev35 => ?_⟩
  conv => whnf
  refine ⟨rfl, _, _, _, _, _, _, c_Lw_wash lw.1.1 lw.1.2.2.1, ⟨Nat.le_of_ble_eq_true rfl, Nat.le_of_ble_eq_true rfl, by (try dsimp only); omega, by (try dsimp only); omega⟩, fun _ _ z => False.elim z, ?_⟩
  rintro v9 H36 ⟨⟨r38, rfl⟩, fo⟩
  have l37 := (lw.fo fo).1
  conv => whnf
  have lsv39 : j_ln H36 sc = L := l37.1.2.2.2.2.2.2
  refine ⟨_, _, rfl, l37.1.2.2.2.2.2.1, rfl, j_vp (by omega) (by rw [lsv39]; omega), fun v39 ev39 => ?_⟩
  conv => whnf
  have lsv40 : j_ln H36 sc = L := l37.1.2.2.2.2.2.2
  refine ⟨_, _, rfl, l37.1.2.2.2.2.2.1, rfl, j_vp (by omega) (by rw [lsv40]; omega), fun v40 ev40 => ?_⟩
  conv => whnf
  obtain ⟨ρ44, w43⟩ := l37.1.2.1
  refine ⟨w43.km, rfl, _, _, _, _, _, _, c_Mo_wash w43, ⟨Nat.le_of_ble_eq_true rfl, Nat.le_of_ble_eq_true rfl, by (try dsimp only); omega, by (try dsimp only); omega⟩, fun _ _ z => False.elim z, ?_⟩
  rintro v9 H41 ⟨st9, r9, rfl⟩
  have l42 := l37.mf w43 st9
  exact j_use hF (back _ _ _ l42 (by omega) (by omega)) (And.intro rfl (And.intro rfl (And.intro rfl (And.intro rfl (And.intro rfl trivial)))))
set_option maxHeartbeats 4000000 in
set_option maxRecDepth 20000 in
theorem j_turn4 {J : j_J} {L sc x m out P G R Q cn sn : Nat} {i : Int32} {h : j_H} (hJ : j_Cl k_law j_lF j_lP j_no J) (hF : j_Fg J) (hL : L ≤ 2560) (i0 : 0 ≤ i.toInt) (i1 : i.toInt + 5 ≤ (L : Int)) (hc : cn ≤ 500000) (hs : sn ≤ 6000000) (lw : j_LW L sc x m out P G R Q h) (back : ∀ (h' : j_H) (cn' sn' : Nat), j_LW L sc x m out P G R Q h' → cn' ≤ cn + 200 → sn' ≤ sn + 2000 → J 1161 [some (j_r (some sc)), some (j_r (some x)), some (j_r (some m)), some (j_r (some out)), some (j_i i), none, none] [] h' cn' sn') : J 316 [some (j_r (some sc)), some (j_r (some x)), some (j_r (some m)), some (j_r (some out)), some (j_i i), none, none] [] h cn sn := by
  have q1 : (i + Int32.ofInt (1)).toInt = i.toInt + 1 := j_inc1 (by omega)
  have q2 : (i + Int32.ofInt (2)).toInt = i.toInt + 2 := j_i2 i0 (by omega)
  have q3 : (i + Int32.ofInt (3)).toInt = i.toInt + 3 := j_i3 i0 (by omega)
  have q4 : (i + Int32.ofInt (4)).toInt = i.toInt + 4 := j_i4 i0 (by omega)
  refine hJ [1161] 400 _ _ _ _ _ _ ?_
  conv => whnf
  have lsv45 : j_ln h sc = L := lw.1.2.2.2.2.2.2
  refine ⟨_, _, rfl, lw.1.2.2.2.2.2.1, rfl, j_vp (by omega) (by rw [lsv45]; omega), fun v45 ev45 => ?_⟩
  conv => whnf
  have lsv46 : j_ln h sc = L := lw.1.2.2.2.2.2.2
  refine ⟨_, _, rfl, lw.1.2.2.2.2.2.1, rfl, j_vp (by omega) (by rw [lsv46]; omega), fun v46 ev46 => ?_⟩
  conv => whnf
  refine ⟨rfl, _, _, _, _, _, _, c_Lw_pace lw.1.1 lw.1.2.2.1, ⟨Nat.le_of_ble_eq_true rfl, Nat.le_of_ble_eq_true rfl, by (try dsimp only); omega, by (try dsimp only); omega⟩, fun _ _ z => False.elim z, ?_⟩
  rintro v9 H47 ⟨⟨r49, rfl⟩, fo⟩
  have l48 := (lw.fo fo).1
  conv => whnf
  have lsv50 : j_ln H47 sc = L := l48.1.2.2.2.2.2.2
  refine ⟨_, _, rfl, l48.1.2.2.2.2.2.1, rfl, j_vp (by omega) (by rw [lsv50]; omega), fun v50 ev50 => ?_⟩
  conv => whnf
  have lsv51 : j_ln H47 sc = L := l48.1.2.2.2.2.2.2
  refine ⟨_, _, rfl, l48.1.2.2.2.2.2.1, rfl, j_vp (by omega) (by rw [lsv51]; omega), fun v51 ev51 => ?_⟩
  conv => whnf
  obtain ⟨ρ55, w54⟩ := l48.1.2.1
  refine ⟨w54.km, rfl, _, _, _, _, _, _, c_Mo_pace w54, ⟨Nat.le_of_ble_eq_true rfl, Nat.le_of_ble_eq_true rfl, by (try dsimp only); omega, by (try dsimp only); omega⟩, fun _ _ z => False.elim z, ?_⟩
  rintro v9 H52 ⟨st9, r9, rfl⟩
  have l53 := l48.mf w54 st9
  exact j_use hF (back _ _ _ l53 (by omega) (by omega)) (And.intro rfl (And.intro rfl (And.intro rfl (And.intro rfl (And.intro rfl trivial)))))
set_option maxHeartbeats 4000000 in
set_option maxRecDepth 20000 in
theorem j_turn5 {J : j_J} {L sc x m out P G R Q cn sn : Nat} {i : Int32} {h : j_H} (hJ : j_Cl k_law j_lF j_lP j_no J) (hF : j_Fg J) (hL : L ≤ 2560) (i0 : 0 ≤ i.toInt) (i1 : i.toInt + 5 ≤ (L : Int)) (hc : cn ≤ 500000) (hs : sn ≤ 6000000) (lw : j_LW L sc x m out P G R Q h) (back : ∀ (h' : j_H) (cn' sn' : Nat), j_LW L sc x m out P G R Q h' → cn' ≤ cn + 200 → sn' ≤ sn + 2000 → J 1161 [some (j_r (some sc)), some (j_r (some x)), some (j_r (some m)), some (j_r (some out)), some (j_i i), none, none] [] h' cn' sn') : J 356 [some (j_r (some sc)), some (j_r (some x)), some (j_r (some m)), some (j_r (some out)), some (j_i i), none, none] [] h cn sn := by
  have q1 : (i + Int32.ofInt (1)).toInt = i.toInt + 1 := j_inc1 (by omega)
  have q2 : (i + Int32.ofInt (2)).toInt = i.toInt + 2 := j_i2 i0 (by omega)
  have q3 : (i + Int32.ofInt (3)).toInt = i.toInt + 3 := j_i3 i0 (by omega)
  have q4 : (i + Int32.ofInt (4)).toInt = i.toInt + 4 := j_i4 i0 (by omega)
  refine hJ [1161] 400 _ _ _ _ _ _ ?_
  conv => whnf
  have lsa : j_ln h sc = L := lw.1.2.2.2.2.2.2
  refine ⟨_, _, rfl, lw.1.2.2.2.2.2.1, rfl, j_vp (by omega) (by rw [lsa]; omega), fun v ev => ?_⟩
  conv => whnf
  refine ⟨rfl, _, _, _, _, _, _, c_Lw_slip lw.1.1.1 lw.1.2.2.1, ⟨Nat.le_of_ble_eq_true rfl, Nat.le_of_ble_eq_true rfl, by (try dsimp only); omega, by (try dsimp only); omega⟩, fun _ _ z => False.elim z, ?_⟩
  rintro v9 h9 (⟨ha, rfl, e9⟩ | ⟨ha, rfl, e9⟩)
  · obtain ⟨l9, s9, m9, x9, o9⟩ := lw.1.slipx (a := v) (b := (j_it h x 5).toInt64)
    rw [← e9] at l9 s9 m9 x9 o9
    obtain ⟨ρ, w9⟩ := l9.2.1
    conv => whnf
    refine ⟨_, _, rfl, l9.2.2.2.2.2.1, rfl, j_vp (by omega) (by rw [l9.2.2.2.2.2.2]; omega), fun v2 ev2 => ?_⟩
    obtain rfl : v2 = v := ev2.symm.trans ((s9 _).trans ev)
    conv => whnf
    refine ⟨w9.km, rfl, _, _, _, _, _, _, c_Mo_slipx w9.km, ⟨Nat.le_of_ble_eq_true rfl, Nat.le_of_ble_eq_true rfl, by (try dsimp only); omega, by (try dsimp only); omega⟩, fun _ _ z => False.elim z, ?_⟩
    rintro v8 h8 (⟨hb, rfl, e8⟩ | ⟨hb, rfl, e8⟩)
    rotate_left
    · exact absurd ha hb
    obtain ⟨l8, s8, x8, o8⟩ := l9.slipm (a := v2) (b := Int32.ofInt 0)
    have t8 : j_it (j_up (j_up h9 m 0 (j_i (Int32.ofInt 0))) m 3 (j_i v2)) m 0 = Int32.ofInt 0 := (j_upm (by decide)).trans j_upi
    have m8 : j_it (j_up (j_up h9 m 0 (j_i (Int32.ofInt 0))) m 3 (j_i v2)) m 3 = v2 := j_upi
    rw [← e8] at l8 s8 x8 o8 t8 m8
    have lw8 : j_LW L sc x m out P G R Q h8 := ⟨l8, by rw [x8, x9, m8]⟩
    obtain ⟨ρ2, w8⟩ := l8.2.1
    conv => whnf
    refine ⟨w8.km, rfl, _, _, _, _, _, _, c_Mo_thrownx w8.km, ⟨Nat.le_of_ble_eq_true rfl, Nat.le_of_ble_eq_true rfl, by (try dsimp only); omega, by (try dsimp only); omega⟩, fun _ _ z => False.elim z, ?_⟩
    rintro v7 h7 ⟨rfl, e7⟩
    obtain rfl : h8 = h7 := e7.symm
    rw [t8]
    conv => whnf
    refine ⟨fun _ => ?_, fun c => absurd (show (Int32.ofInt 0).toInt = (Int32.ofInt 0).toInt from rfl) c⟩
    conv => whnf
    refine ⟨fun c => absurd (show (Int32.ofInt 0).toInt = 0 by decide) c, fun _ => ?_⟩
    conv => whnf
    refine ⟨_, rfl, l8.2.2.1, fun y ey => ?_⟩
    obtain rfl : y = (j_it h9 m 3).toInt64 := ey.symm.trans ((o8 0).trans (o9.trans (by rw [m9, lw.2])))
    conv => whnf
    refine ⟨fun _ => ?_, fun c => absurd (j_cmp0 _) c⟩
    exact j_use hF (back _ _ _ lw8 (by omega) (by omega)) (And.intro rfl (And.intro rfl (And.intro rfl (And.intro rfl (And.intro rfl trivial)))))
  · obtain rfl : h = h9 := e9.symm
    obtain ⟨ρ, w9⟩ := lw.1.2.1
    conv => whnf
    refine ⟨_, _, rfl, lw.1.2.2.2.2.2.1, rfl, j_vp (by omega) (by rw [lsa]; omega), fun v2 ev2 => ?_⟩
    obtain rfl : v2 = v := ev2.symm.trans ev
    conv => whnf
    refine ⟨w9.km, rfl, _, _, _, _, _, _, c_Mo_slipx w9.km, ⟨Nat.le_of_ble_eq_true rfl, Nat.le_of_ble_eq_true rfl, by (try dsimp only); omega, by (try dsimp only); omega⟩, fun _ _ z => False.elim z, ?_⟩
    rintro v8 h8 (⟨hb, rfl, e8⟩ | ⟨hb, rfl, e8⟩)
    · exact absurd hb ha
    have st : j_Mf ρ m h (j_up (j_up h m 0 (j_i (Int32.ofInt 0))) m 0 (j_i (Int32.ofInt 1))) := (j_Mf.fi w9.km (by decide)).tr (j_Mf.fi w9.km (by decide))
    have t8 : j_it (j_up (j_up h m 0 (j_i (Int32.ofInt 0))) m 0 (j_i (Int32.ofInt 1))) m 0 = Int32.ofInt 1 := j_upi
    rw [← e8] at st t8
    have lw8 := lw.mf w9 st
    obtain ⟨ρ2, w8⟩ := lw8.1.2.1
    conv => whnf
    refine ⟨w8.km, rfl, _, _, _, _, _, _, c_Mo_thrownx w8.km, ⟨Nat.le_of_ble_eq_true rfl, Nat.le_of_ble_eq_true rfl, by (try dsimp only); omega, by (try dsimp only); omega⟩, fun _ _ z => False.elim z, ?_⟩
    rintro v7 h7 ⟨rfl, e7⟩
    obtain rfl : h8 = h7 := e7.symm
    rw [t8]
    conv => whnf
    refine ⟨fun _ => ?_, fun c => absurd (show (Int32.ofInt 1).toInt = (Int32.ofInt 1).toInt from rfl) c⟩
    conv => whnf
    refine ⟨fun _ => ?_, fun c => absurd (show ¬ (Int32.ofInt 1).toInt = 0 by decide) c⟩
    exact j_use hF (back _ _ _ lw8 (by omega) (by omega)) (And.intro rfl (And.intro rfl (And.intro rfl (And.intro rfl (And.intro rfl trivial)))))
set_option maxHeartbeats 4000000 in
set_option maxRecDepth 20000 in
theorem j_turn6 {J : j_J} {L sc x m out P G R Q cn sn : Nat} {i : Int32} {h : j_H} (hJ : j_Cl k_law j_lF j_lP j_no J) (hF : j_Fg J) (hL : L ≤ 2560) (i0 : 0 ≤ i.toInt) (i1 : i.toInt + 5 ≤ (L : Int)) (hc : cn ≤ 500000) (hs : sn ≤ 6000000) (lw : j_LW L sc x m out P G R Q h) (back : ∀ (h' : j_H) (cn' sn' : Nat), j_LW L sc x m out P G R Q h' → cn' ≤ cn + 200 → sn' ≤ sn + 2000 → J 1161 [some (j_r (some sc)), some (j_r (some x)), some (j_r (some m)), some (j_r (some out)), some (j_i i), none, none] [] h' cn' sn') : J 413 [some (j_r (some sc)), some (j_r (some x)), some (j_r (some m)), some (j_r (some out)), some (j_i i), none, none] [] h cn sn := by
  have q1 : (i + Int32.ofInt (1)).toInt = i.toInt + 1 := j_inc1 (by omega)
  have q2 : (i + Int32.ofInt (2)).toInt = i.toInt + 2 := j_i2 i0 (by omega)
  have q3 : (i + Int32.ofInt (3)).toInt = i.toInt + 3 := j_i3 i0 (by omega)
  have q4 : (i + Int32.ofInt (4)).toInt = i.toInt + 4 := j_i4 i0 (by omega)
  refine hJ [1161] 400 _ _ _ _ _ _ ?_
  conv => whnf
  have lsv56 : j_ln h sc = L := lw.1.2.2.2.2.2.2
  refine ⟨_, _, rfl, lw.1.2.2.2.2.2.1, rfl, j_vp (by omega) (by rw [lsv56]; omega), fun v56 ev56 => ?_⟩
  conv => whnf
  have lsv57 : j_ln h sc = L := lw.1.2.2.2.2.2.2
  refine ⟨_, _, rfl, lw.1.2.2.2.2.2.1, rfl, j_vp (by omega) (by rw [lsv57]; omega), fun v57 ev57 => ?_⟩
  conv => whnf
  have lsv58 : j_ln h sc = L := lw.1.2.2.2.2.2.2
  refine ⟨_, _, rfl, lw.1.2.2.2.2.2.1, rfl, j_vp (by omega) (by rw [lsv58]; omega), fun v58 ev58 => ?_⟩
  conv => whnf
  have lsv59 : j_ln h sc = L := lw.1.2.2.2.2.2.2
  refine ⟨_, _, rfl, lw.1.2.2.2.2.2.1, rfl, j_vp (by omega) (by rw [lsv59]; omega), fun v59 ev59 => ?_⟩
  conv => whnf
  refine ⟨rfl, _, _, _, _, _, _, c_Lw_run lw.1.1 lw.1.2.2.1, ⟨Nat.le_of_ble_eq_true rfl, Nat.le_of_ble_eq_true rfl, by (try dsimp only); omega, by (try dsimp only); omega⟩, fun _ _ z => False.elim z, ?_⟩
  rintro v9 H60 ⟨⟨r62, rfl⟩, fo⟩
  have l61 := (lw.fo fo).1
  conv => whnf
  have lsv63 : j_ln H60 sc = L := l61.1.2.2.2.2.2.2
  refine ⟨_, _, rfl, l61.1.2.2.2.2.2.1, rfl, j_vp (by omega) (by rw [lsv63]; omega), fun v63 ev63 => ?_⟩
  conv => whnf
  have lsv64 : j_ln H60 sc = L := l61.1.2.2.2.2.2.2
  refine ⟨_, _, rfl, l61.1.2.2.2.2.2.1, rfl, j_vp (by omega) (by rw [lsv64]; omega), fun v64 ev64 => ?_⟩
  conv => whnf
  have lsv65 : j_ln H60 sc = L := l61.1.2.2.2.2.2.2
  refine ⟨_, _, rfl, l61.1.2.2.2.2.2.1, rfl, j_vp (by omega) (by rw [lsv65]; omega), fun v65 ev65 => ?_⟩
  conv => whnf
  have lsv66 : j_ln H60 sc = L := l61.1.2.2.2.2.2.2
  refine ⟨_, _, rfl, l61.1.2.2.2.2.2.1, rfl, j_vp (by omega) (by rw [lsv66]; omega), fun v66 ev66 => ?_⟩
  conv => whnf
  obtain ⟨ρ70, w69⟩ := l61.1.2.1
  refine ⟨w69.km, rfl, _, _, _, _, _, _, c_Mo_run w69, ⟨Nat.le_of_ble_eq_true rfl, Nat.le_of_ble_eq_true rfl, by (try dsimp only); omega, by (try dsimp only); omega⟩, fun _ _ z => False.elim z, ?_⟩
  rintro v9 H67 ⟨w9, g9, r9, rfl⟩
  have l68 := l61.mg w9 g9
  exact j_use hF (back _ _ _ l68 (by omega) (by omega)) (And.intro rfl (And.intro rfl (And.intro rfl (And.intro rfl (And.intro rfl trivial)))))
set_option maxHeartbeats 4000000 in
set_option maxRecDepth 20000 in
theorem j_turn7 {J : j_J} {L sc x m out P G R Q cn sn : Nat} {i : Int32} {h : j_H} (hJ : j_Cl k_law j_lF j_lP j_no J) (hF : j_Fg J) (hL : L ≤ 2560) (i0 : 0 ≤ i.toInt) (i1 : i.toInt + 5 ≤ (L : Int)) (hc : cn ≤ 500000) (hs : sn ≤ 6000000) (lw : j_LW L sc x m out P G R Q h) (back : ∀ (h' : j_H) (cn' sn' : Nat), j_LW L sc x m out P G R Q h' → cn' ≤ cn + 200 → sn' ≤ sn + 2000 → J 1161 [some (j_r (some sc)), some (j_r (some x)), some (j_r (some m)), some (j_r (some out)), some (j_i i), none, none] [] h' cn' sn') : J 477 [some (j_r (some sc)), some (j_r (some x)), some (j_r (some m)), some (j_r (some out)), some (j_i i), none, none] [] h cn sn := by
  have q1 : (i + Int32.ofInt (1)).toInt = i.toInt + 1 := j_inc1 (by omega)
  have q2 : (i + Int32.ofInt (2)).toInt = i.toInt + 2 := j_i2 i0 (by omega)
  have q3 : (i + Int32.ofInt (3)).toInt = i.toInt + 3 := j_i3 i0 (by omega)
  have q4 : (i + Int32.ofInt (4)).toInt = i.toInt + 4 := j_i4 i0 (by omega)
  refine hJ [1161] 400 _ _ _ _ _ _ ?_
  conv => whnf
  have lsv71 : j_ln h sc = L := lw.1.2.2.2.2.2.2
  refine ⟨_, _, rfl, lw.1.2.2.2.2.2.1, rfl, j_vp (by omega) (by rw [lsv71]; omega), fun v71 ev71 => ?_⟩
  conv => whnf
  refine ⟨rfl, _, _, _, _, _, _, c_Lw_withdraw lw.1.1 lw.1.2.2.1, ⟨Nat.le_of_ble_eq_true rfl, Nat.le_of_ble_eq_true rfl, by (try dsimp only); omega, by (try dsimp only); omega⟩, fun _ _ z => False.elim z, ?_⟩
  rintro v9 H72 ⟨⟨r74, rfl⟩, fo⟩
  have l73 := (lw.fo fo).1
  conv => whnf
  have lsv75 : j_ln H72 sc = L := l73.1.2.2.2.2.2.2
  refine ⟨_, _, rfl, l73.1.2.2.2.2.2.1, rfl, j_vp (by omega) (by rw [lsv75]; omega), fun v75 ev75 => ?_⟩
  conv => whnf
  obtain ⟨ρ79, w78⟩ := l73.1.2.1
  refine ⟨w78.km, rfl, _, _, _, _, _, _, c_Mo_withdraw w78, ⟨Nat.le_of_ble_eq_true rfl, Nat.le_of_ble_eq_true rfl, by (try dsimp only); omega, by (try dsimp only); omega⟩, fun _ _ z => False.elim z, ?_⟩
  rintro v9 H76 ⟨st9, r9, rfl⟩
  have l77 := l73.mf w78 st9
  exact j_use hF (back _ _ _ l77 (by omega) (by omega)) (And.intro rfl (And.intro rfl (And.intro rfl (And.intro rfl (And.intro rfl trivial)))))
set_option maxHeartbeats 4000000 in
set_option maxRecDepth 20000 in
theorem j_turn8 {J : j_J} {L sc x m out P G R Q cn sn : Nat} {i : Int32} {h : j_H} (hJ : j_Cl k_law j_lF j_lP j_no J) (hF : j_Fg J) (hL : L ≤ 2560) (i0 : 0 ≤ i.toInt) (i1 : i.toInt + 5 ≤ (L : Int)) (hc : cn ≤ 500000) (hs : sn ≤ 6000000) (lw : j_LW L sc x m out P G R Q h) (back : ∀ (h' : j_H) (cn' sn' : Nat), j_LW L sc x m out P G R Q h' → cn' ≤ cn + 200 → sn' ≤ sn + 2000 → J 1161 [some (j_r (some sc)), some (j_r (some x)), some (j_r (some m)), some (j_r (some out)), some (j_i i), none, none] [] h' cn' sn') : J 505 [some (j_r (some sc)), some (j_r (some x)), some (j_r (some m)), some (j_r (some out)), some (j_i i), none, none] [] h cn sn := by
  have q1 : (i + Int32.ofInt (1)).toInt = i.toInt + 1 := j_inc1 (by omega)
  have q2 : (i + Int32.ofInt (2)).toInt = i.toInt + 2 := j_i2 i0 (by omega)
  have q3 : (i + Int32.ofInt (3)).toInt = i.toInt + 3 := j_i3 i0 (by omega)
  have q4 : (i + Int32.ofInt (4)).toInt = i.toInt + 4 := j_i4 i0 (by omega)
  refine hJ [1161] 400 _ _ _ _ _ _ ?_
  conv => whnf
  have lsv80 : j_ln h sc = L := lw.1.2.2.2.2.2.2
  refine ⟨_, _, rfl, lw.1.2.2.2.2.2.1, rfl, j_vp (by omega) (by rw [lsv80]; omega), fun v80 ev80 => ?_⟩
  conv => whnf
  have lsv81 : j_ln h sc = L := lw.1.2.2.2.2.2.2
  refine ⟨_, _, rfl, lw.1.2.2.2.2.2.1, rfl, j_vp (by omega) (by rw [lsv81]; omega), fun v81 ev81 => ?_⟩
  conv => whnf
  refine ⟨rfl, _, _, _, _, _, _, c_Lw_swap lw.1.1 lw.1.2.2.1, ⟨Nat.le_of_ble_eq_true rfl, Nat.le_of_ble_eq_true rfl, by (try dsimp only); omega, by (try dsimp only); omega⟩, fun _ _ z => False.elim z, ?_⟩
  rintro v9 H82 ⟨⟨r84, rfl⟩, fo⟩
  have l83 := (lw.fo fo).1
  conv => whnf
  have lsv85 : j_ln H82 sc = L := l83.1.2.2.2.2.2.2
  refine ⟨_, _, rfl, l83.1.2.2.2.2.2.1, rfl, j_vp (by omega) (by rw [lsv85]; omega), fun v85 ev85 => ?_⟩
  conv => whnf
  have lsv86 : j_ln H82 sc = L := l83.1.2.2.2.2.2.2
  refine ⟨_, _, rfl, l83.1.2.2.2.2.2.1, rfl, j_vp (by omega) (by rw [lsv86]; omega), fun v86 ev86 => ?_⟩
  conv => whnf
  obtain ⟨ρ90, w89⟩ := l83.1.2.1
  refine ⟨w89.km, rfl, _, _, _, _, _, _, c_Mo_swap w89, ⟨Nat.le_of_ble_eq_true rfl, Nat.le_of_ble_eq_true rfl, by (try dsimp only); omega, by (try dsimp only); omega⟩, fun _ _ z => False.elim z, ?_⟩
  rintro v9 H87 ⟨st9, r9, rfl⟩
  have l88 := l83.mf w89 st9
  exact j_use hF (back _ _ _ l88 (by omega) (by omega)) (And.intro rfl (And.intro rfl (And.intro rfl (And.intro rfl (And.intro rfl trivial)))))
set_option maxHeartbeats 4000000 in
set_option maxRecDepth 20000 in
theorem j_turn9 {J : j_J} {L sc x m out P G R Q cn sn : Nat} {i : Int32} {h : j_H} (hJ : j_Cl k_law j_lF j_lP j_no J) (hF : j_Fg J) (hL : L ≤ 2560) (i0 : 0 ≤ i.toInt) (i1 : i.toInt + 5 ≤ (L : Int)) (hc : cn ≤ 500000) (hs : sn ≤ 6000000) (lw : j_LW L sc x m out P G R Q h) (back : ∀ (h' : j_H) (cn' sn' : Nat), j_LW L sc x m out P G R Q h' → cn' ≤ cn + 200 → sn' ≤ sn + 2000 → J 1161 [some (j_r (some sc)), some (j_r (some x)), some (j_r (some m)), some (j_r (some out)), some (j_i i), none, none] [] h' cn' sn') : J 545 [some (j_r (some sc)), some (j_r (some x)), some (j_r (some m)), some (j_r (some out)), some (j_i i), none, none] [] h cn sn := by
  have q1 : (i + Int32.ofInt (1)).toInt = i.toInt + 1 := j_inc1 (by omega)
  have q2 : (i + Int32.ofInt (2)).toInt = i.toInt + 2 := j_i2 i0 (by omega)
  have q3 : (i + Int32.ofInt (3)).toInt = i.toInt + 3 := j_i3 i0 (by omega)
  have q4 : (i + Int32.ofInt (4)).toInt = i.toInt + 4 := j_i4 i0 (by omega)
  refine hJ [1161] 400 _ _ _ _ _ _ ?_
  conv => whnf
  have lsv91 : j_ln h sc = L := lw.1.2.2.2.2.2.2
  refine ⟨_, _, rfl, lw.1.2.2.2.2.2.1, rfl, j_vp (by omega) (by rw [lsv91]; omega), fun v91 ev91 => ?_⟩
  conv => whnf
  have lsv92 : j_ln h sc = L := lw.1.2.2.2.2.2.2
  refine ⟨_, _, rfl, lw.1.2.2.2.2.2.1, rfl, j_vp (by omega) (by rw [lsv92]; omega), fun v92 ev92 => ?_⟩
  conv => whnf
  refine ⟨rfl, _, _, _, _, _, _, c_Lw_print lw.1.1 lw.1.2.2.1, ⟨Nat.le_of_ble_eq_true rfl, Nat.le_of_ble_eq_true rfl, by (try dsimp only); omega, by (try dsimp only); omega⟩, fun _ _ z => False.elim z, ?_⟩
  rintro v9 H93 ⟨⟨r95, rfl⟩, fo⟩
  have l94 := (lw.fo fo).1
  conv => whnf
  have lsv96 : j_ln H93 sc = L := l94.1.2.2.2.2.2.2
  refine ⟨_, _, rfl, l94.1.2.2.2.2.2.1, rfl, j_vp (by omega) (by rw [lsv96]; omega), fun v96 ev96 => ?_⟩
  conv => whnf
  have lsv97 : j_ln H93 sc = L := l94.1.2.2.2.2.2.2
  refine ⟨_, _, rfl, l94.1.2.2.2.2.2.1, rfl, j_vp (by omega) (by rw [lsv97]; omega), fun v97 ev97 => ?_⟩
  conv => whnf
  obtain ⟨ρ101, w100⟩ := l94.1.2.1
  refine ⟨w100.km, rfl, _, _, _, _, _, _, c_Mo_print w100, ⟨Nat.le_of_ble_eq_true rfl, Nat.le_of_ble_eq_true rfl, by (try dsimp only); omega, by (try dsimp only); omega⟩, fun _ _ z => False.elim z, ?_⟩
  rintro v9 H98 ⟨w9, g9, r9, rfl⟩
  have l99 := l94.mg w9 g9
  exact j_use hF (back _ _ _ l99 (by omega) (by omega)) (And.intro rfl (And.intro rfl (And.intro rfl (And.intro rfl (And.intro rfl trivial)))))
set_option maxHeartbeats 4000000 in
set_option maxRecDepth 20000 in
theorem j_turn10 {J : j_J} {L sc x m out P G R Q cn sn : Nat} {i : Int32} {h : j_H} (hJ : j_Cl k_law j_lF j_lP j_no J) (hF : j_Fg J) (hL : L ≤ 2560) (i0 : 0 ≤ i.toInt) (i1 : i.toInt + 5 ≤ (L : Int)) (hc : cn ≤ 500000) (hs : sn ≤ 6000000) (lw : j_LW L sc x m out P G R Q h) (back : ∀ (h' : j_H) (cn' sn' : Nat), j_LW L sc x m out P G R Q h' → cn' ≤ cn + 200 → sn' ≤ sn + 2000 → J 1161 [some (j_r (some sc)), some (j_r (some x)), some (j_r (some m)), some (j_r (some out)), some (j_i i), none, none] [] h' cn' sn') : J 585 [some (j_r (some sc)), some (j_r (some x)), some (j_r (some m)), some (j_r (some out)), some (j_i i), none, none] [] h cn sn := by
  have q1 : (i + Int32.ofInt (1)).toInt = i.toInt + 1 := j_inc1 (by omega)
  have q2 : (i + Int32.ofInt (2)).toInt = i.toInt + 2 := j_i2 i0 (by omega)
  have q3 : (i + Int32.ofInt (3)).toInt = i.toInt + 3 := j_i3 i0 (by omega)
  have q4 : (i + Int32.ofInt (4)).toInt = i.toInt + 4 := j_i4 i0 (by omega)
  refine hJ [1161] 400 _ _ _ _ _ _ ?_
  conv => whnf
  have lsv102 : j_ln h sc = L := lw.1.2.2.2.2.2.2
  refine ⟨_, _, rfl, lw.1.2.2.2.2.2.1, rfl, j_vp (by omega) (by rw [lsv102]; omega), fun v102 ev102 => ?_⟩
  conv => whnf
  have lsv103 : j_ln h sc = L := lw.1.2.2.2.2.2.2
  refine ⟨_, _, rfl, lw.1.2.2.2.2.2.1, rfl, j_vp (by omega) (by rw [lsv103]; omega), fun v103 ev103 => ?_⟩
  conv => whnf
  refine ⟨rfl, _, _, _, _, _, _, c_Lw_ofGrain lw.1.1 lw.1.2.2.1, ⟨Nat.le_of_ble_eq_true rfl, Nat.le_of_ble_eq_true rfl, by (try dsimp only); omega, by (try dsimp only); omega⟩, fun _ _ z => False.elim z, ?_⟩
  rintro v9 H104 ⟨⟨r106, rfl⟩, fo⟩
  have l105 := (lw.fo fo).1
  conv => whnf
  have lsv107 : j_ln H104 sc = L := l105.1.2.2.2.2.2.2
  refine ⟨_, _, rfl, l105.1.2.2.2.2.2.1, rfl, j_vp (by omega) (by rw [lsv107]; omega), fun v107 ev107 => ?_⟩
  conv => whnf
  have lsv108 : j_ln H104 sc = L := l105.1.2.2.2.2.2.2
  refine ⟨_, _, rfl, l105.1.2.2.2.2.2.1, rfl, j_vp (by omega) (by rw [lsv108]; omega), fun v108 ev108 => ?_⟩
  conv => whnf
  obtain ⟨ρ112, w111⟩ := l105.1.2.1
  refine ⟨w111.km, rfl, _, _, _, _, _, _, c_Mo_ofGrain w111, ⟨Nat.le_of_ble_eq_true rfl, Nat.le_of_ble_eq_true rfl, by (try dsimp only); omega, by (try dsimp only); omega⟩, fun _ _ z => False.elim z, ?_⟩
  rintro v9 H109 ⟨st9, r9, rfl⟩
  have l110 := l105.mf w111 st9
  exact j_use hF (back _ _ _ l110 (by omega) (by omega)) (And.intro rfl (And.intro rfl (And.intro rfl (And.intro rfl (And.intro rfl trivial)))))
set_option maxHeartbeats 4000000 in
set_option maxRecDepth 20000 in
theorem j_turn11 {J : j_J} {L sc x m out P G R Q cn sn : Nat} {i : Int32} {h : j_H} (hJ : j_Cl k_law j_lF j_lP j_no J) (hF : j_Fg J) (hL : L ≤ 2560) (i0 : 0 ≤ i.toInt) (i1 : i.toInt + 5 ≤ (L : Int)) (hc : cn ≤ 500000) (hs : sn ≤ 6000000) (lw : j_LW L sc x m out P G R Q h) (back : ∀ (h' : j_H) (cn' sn' : Nat), j_LW L sc x m out P G R Q h' → cn' ≤ cn + 200 → sn' ≤ sn + 2000 → J 1161 [some (j_r (some sc)), some (j_r (some x)), some (j_r (some m)), some (j_r (some out)), some (j_i i), none, none] [] h' cn' sn') : J 625 [some (j_r (some sc)), some (j_r (some x)), some (j_r (some m)), some (j_r (some out)), some (j_i i), none, none] [] h cn sn := by
  have q1 : (i + Int32.ofInt (1)).toInt = i.toInt + 1 := j_inc1 (by omega)
  have q2 : (i + Int32.ofInt (2)).toInt = i.toInt + 2 := j_i2 i0 (by omega)
  have q3 : (i + Int32.ofInt (3)).toInt = i.toInt + 3 := j_i3 i0 (by omega)
  have q4 : (i + Int32.ofInt (4)).toInt = i.toInt + 4 := j_i4 i0 (by omega)
  refine hJ [1161] 400 _ _ _ _ _ _ ?_
  conv => whnf
  have lsv113 : j_ln h sc = L := lw.1.2.2.2.2.2.2
  refine ⟨_, _, rfl, lw.1.2.2.2.2.2.1, rfl, j_vp (by omega) (by rw [lsv113]; omega), fun v113 ev113 => ?_⟩
  conv => whnf
  have lsv114 : j_ln h sc = L := lw.1.2.2.2.2.2.2
  refine ⟨_, _, rfl, lw.1.2.2.2.2.2.1, rfl, j_vp (by omega) (by rw [lsv114]; omega), fun v114 ev114 => ?_⟩
  conv => whnf
  refine ⟨rfl, _, _, _, _, _, _, c_Lw_ofRun lw.1.1 lw.1.2.2.1, ⟨Nat.le_of_ble_eq_true rfl, Nat.le_of_ble_eq_true rfl, by (try dsimp only); omega, by (try dsimp only); omega⟩, fun _ _ z => False.elim z, ?_⟩
  rintro v9 H115 ⟨⟨r117, rfl⟩, fo⟩
  have l116 := (lw.fo fo).1
  conv => whnf
  have lsv118 : j_ln H115 sc = L := l116.1.2.2.2.2.2.2
  refine ⟨_, _, rfl, l116.1.2.2.2.2.2.1, rfl, j_vp (by omega) (by rw [lsv118]; omega), fun v118 ev118 => ?_⟩
  conv => whnf
  have lsv119 : j_ln H115 sc = L := l116.1.2.2.2.2.2.2
  refine ⟨_, _, rfl, l116.1.2.2.2.2.2.1, rfl, j_vp (by omega) (by rw [lsv119]; omega), fun v119 ev119 => ?_⟩
  conv => whnf
  obtain ⟨ρ123, w122⟩ := l116.1.2.1
  refine ⟨w122.km, rfl, _, _, _, _, _, _, c_Mo_ofRun w122, ⟨Nat.le_of_ble_eq_true rfl, Nat.le_of_ble_eq_true rfl, by (try dsimp only); omega, by (try dsimp only); omega⟩, fun _ _ z => False.elim z, ?_⟩
  rintro v9 H120 ⟨st9, r9, rfl⟩
  have l121 := l116.mf w122 st9
  exact j_use hF (back _ _ _ l121 (by omega) (by omega)) (And.intro rfl (And.intro rfl (And.intro rfl (And.intro rfl (And.intro rfl trivial)))))
set_option maxHeartbeats 4000000 in
set_option maxRecDepth 20000 in
theorem j_turn12 {J : j_J} {L sc x m out P G R Q cn sn : Nat} {i : Int32} {h : j_H} (hJ : j_Cl k_law j_lF j_lP j_no J) (hF : j_Fg J) (hL : L ≤ 2560) (i0 : 0 ≤ i.toInt) (i1 : i.toInt + 5 ≤ (L : Int)) (hc : cn ≤ 500000) (hs : sn ≤ 6000000) (lw : j_LW L sc x m out P G R Q h) (back : ∀ (h' : j_H) (cn' sn' : Nat), j_LW L sc x m out P G R Q h' → cn' ≤ cn + 200 → sn' ≤ sn + 2000 → J 1161 [some (j_r (some sc)), some (j_r (some x)), some (j_r (some m)), some (j_r (some out)), some (j_i i), none, none] [] h' cn' sn') : J 665 [some (j_r (some sc)), some (j_r (some x)), some (j_r (some m)), some (j_r (some out)), some (j_i i), none, none] [] h cn sn := by
  have q1 : (i + Int32.ofInt (1)).toInt = i.toInt + 1 := j_inc1 (by omega)
  have q2 : (i + Int32.ofInt (2)).toInt = i.toInt + 2 := j_i2 i0 (by omega)
  have q3 : (i + Int32.ofInt (3)).toInt = i.toInt + 3 := j_i3 i0 (by omega)
  have q4 : (i + Int32.ofInt (4)).toInt = i.toInt + 4 := j_i4 i0 (by omega)
  refine hJ [1161] 400 _ _ _ _ _ _ ?_
  conv => whnf
  have lsv124 : j_ln h sc = L := lw.1.2.2.2.2.2.2
  refine ⟨_, _, rfl, lw.1.2.2.2.2.2.1, rfl, j_vp (by omega) (by rw [lsv124]; omega), fun v124 ev124 => ?_⟩
  conv => whnf
  have lsv125 : j_ln h sc = L := lw.1.2.2.2.2.2.2
  refine ⟨_, _, rfl, lw.1.2.2.2.2.2.1, rfl, j_vp (by omega) (by rw [lsv125]; omega), fun v125 ev125 => ?_⟩
  conv => whnf
  have lsv126 : j_ln h sc = L := lw.1.2.2.2.2.2.2
  refine ⟨_, _, rfl, lw.1.2.2.2.2.2.1, rfl, j_vp (by omega) (by rw [lsv126]; omega), fun v126 ev126 => ?_⟩
  conv => whnf
  refine ⟨rfl, _, _, _, _, _, _, c_Lw_span lw.1.1 lw.1.2.2.1, ⟨Nat.le_of_ble_eq_true rfl, Nat.le_of_ble_eq_true rfl, by (try dsimp only); omega, by (try dsimp only); omega⟩, fun _ _ z => False.elim z, ?_⟩
  rintro v9 H127 ⟨⟨r129, rfl⟩, fo⟩
  have l128 := (lw.fo fo).1
  conv => whnf
  have lsv130 : j_ln H127 sc = L := l128.1.2.2.2.2.2.2
  refine ⟨_, _, rfl, l128.1.2.2.2.2.2.1, rfl, j_vp (by omega) (by rw [lsv130]; omega), fun v130 ev130 => ?_⟩
  conv => whnf
  have lsv131 : j_ln H127 sc = L := l128.1.2.2.2.2.2.2
  refine ⟨_, _, rfl, l128.1.2.2.2.2.2.1, rfl, j_vp (by omega) (by rw [lsv131]; omega), fun v131 ev131 => ?_⟩
  conv => whnf
  have lsv132 : j_ln H127 sc = L := l128.1.2.2.2.2.2.2
  refine ⟨_, _, rfl, l128.1.2.2.2.2.2.1, rfl, j_vp (by omega) (by rw [lsv132]; omega), fun v132 ev132 => ?_⟩
  conv => whnf
  obtain ⟨ρ136, w135⟩ := l128.1.2.1
  refine ⟨w135.km, rfl, _, _, _, _, _, _, c_Mo_span w135, ⟨Nat.le_of_ble_eq_true rfl, Nat.le_of_ble_eq_true rfl, by (try dsimp only); omega, by (try dsimp only); omega⟩, fun _ _ z => False.elim z, ?_⟩
  rintro v9 H133 ⟨st9, r9, rfl⟩
  have l134 := l128.mf w135 st9
  exact j_use hF (back _ _ _ l134 (by omega) (by omega)) (And.intro rfl (And.intro rfl (And.intro rfl (And.intro rfl (And.intro rfl trivial)))))
set_option maxHeartbeats 4000000 in
set_option maxRecDepth 20000 in
theorem j_turn13 {J : j_J} {L sc x m out P G R Q cn sn : Nat} {i : Int32} {h : j_H} (hJ : j_Cl k_law j_lF j_lP j_no J) (hF : j_Fg J) (hL : L ≤ 2560) (i0 : 0 ≤ i.toInt) (i1 : i.toInt + 5 ≤ (L : Int)) (hc : cn ≤ 500000) (hs : sn ≤ 6000000) (lw : j_LW L sc x m out P G R Q h) (back : ∀ (h' : j_H) (cn' sn' : Nat), j_LW L sc x m out P G R Q h' → cn' ≤ cn + 200 → sn' ≤ sn + 2000 → J 1161 [some (j_r (some sc)), some (j_r (some x)), some (j_r (some m)), some (j_r (some out)), some (j_i i), none, none] [] h' cn' sn') : J 717 [some (j_r (some sc)), some (j_r (some x)), some (j_r (some m)), some (j_r (some out)), some (j_i i), none, none] [] h cn sn := by
  have q1 : (i + Int32.ofInt (1)).toInt = i.toInt + 1 := j_inc1 (by omega)
  have q2 : (i + Int32.ofInt (2)).toInt = i.toInt + 2 := j_i2 i0 (by omega)
  have q3 : (i + Int32.ofInt (3)).toInt = i.toInt + 3 := j_i3 i0 (by omega)
  have q4 : (i + Int32.ofInt (4)).toInt = i.toInt + 4 := j_i4 i0 (by omega)
  refine hJ [1161] 400 _ _ _ _ _ _ ?_
  conv => whnf
  have lsv137 : j_ln h sc = L := lw.1.2.2.2.2.2.2
  refine ⟨_, _, rfl, lw.1.2.2.2.2.2.1, rfl, j_vp (by omega) (by rw [lsv137]; omega), fun v137 ev137 => ?_⟩
  conv => whnf
  have lsv138 : j_ln h sc = L := lw.1.2.2.2.2.2.2
  refine ⟨_, _, rfl, lw.1.2.2.2.2.2.1, rfl, j_vp (by omega) (by rw [lsv138]; omega), fun v138 ev138 => ?_⟩
  conv => whnf
  refine ⟨fun c139 => ?_, fun c139 => ?_⟩
  · skip
    conv => whnf
    refine ⟨rfl, _, _, _, _, _, _, c_Lw_narrowed lw.1.1 lw.1.2.2.1, ⟨Nat.le_of_ble_eq_true rfl, Nat.le_of_ble_eq_true rfl, by (try dsimp only); omega, by (try dsimp only); omega⟩, fun _ _ z => False.elim z, ?_⟩
    rintro v9 H140 ⟨⟨r142, rfl⟩, fo⟩
    have l141 := (lw.fo fo).1
    conv => whnf
    have lsv143 : j_ln H140 sc = L := l141.1.2.2.2.2.2.2
    refine ⟨_, _, rfl, l141.1.2.2.2.2.2.1, rfl, j_vp (by omega) (by rw [lsv143]; omega), fun v143 ev143 => ?_⟩
    conv => whnf
    have lsv144 : j_ln H140 sc = L := l141.1.2.2.2.2.2.2
    refine ⟨_, _, rfl, l141.1.2.2.2.2.2.1, rfl, j_vp (by omega) (by rw [lsv144]; omega), fun v144 ev144 => ?_⟩
    conv => whnf
    refine ⟨fun c145 => ?_, fun c145 => ?_⟩
    · skip
      conv => whnf
      obtain ⟨ρ149, w148⟩ := l141.1.2.1
      refine ⟨w148.km, rfl, _, _, _, _, _, _, c_Mo_narrowed w148, ⟨Nat.le_of_ble_eq_true rfl, Nat.le_of_ble_eq_true rfl, by (try dsimp only); omega, by (try dsimp only); omega⟩, fun _ _ z => False.elim z, ?_⟩
      rintro v9 H146 ⟨st9, r9, rfl⟩
      have l147 := l141.mf w148 st9
      exact j_use hF (back _ _ _ l147 (by omega) (by omega)) (And.intro rfl (And.intro rfl (And.intro rfl (And.intro rfl (And.intro rfl trivial)))))
    · skip
      conv => whnf
      obtain ⟨ρ153, w152⟩ := l141.1.2.1
      refine ⟨w152.km, rfl, _, _, _, _, _, _, c_Mo_narrowed w152, ⟨Nat.le_of_ble_eq_true rfl, Nat.le_of_ble_eq_true rfl, by (try dsimp only); omega, by (try dsimp only); omega⟩, fun _ _ z => False.elim z, ?_⟩
      rintro v9 H150 ⟨st9, r9, rfl⟩
      have l151 := l141.mf w152 st9
      exact j_use hF (back _ _ _ l151 (by omega) (by omega)) (And.intro rfl (And.intro rfl (And.intro rfl (And.intro rfl (And.intro rfl trivial)))))
  · skip
    conv => whnf
    refine ⟨rfl, _, _, _, _, _, _, c_Lw_narrowed lw.1.1 lw.1.2.2.1, ⟨Nat.le_of_ble_eq_true rfl, Nat.le_of_ble_eq_true rfl, by (try dsimp only); omega, by (try dsimp only); omega⟩, fun _ _ z => False.elim z, ?_⟩
    rintro v9 H154 ⟨⟨r156, rfl⟩, fo⟩
    have l155 := (lw.fo fo).1
    conv => whnf
    have lsv157 : j_ln H154 sc = L := l155.1.2.2.2.2.2.2
    refine ⟨_, _, rfl, l155.1.2.2.2.2.2.1, rfl, j_vp (by omega) (by rw [lsv157]; omega), fun v157 ev157 => ?_⟩
    conv => whnf
    have lsv158 : j_ln H154 sc = L := l155.1.2.2.2.2.2.2
    refine ⟨_, _, rfl, l155.1.2.2.2.2.2.1, rfl, j_vp (by omega) (by rw [lsv158]; omega), fun v158 ev158 => ?_⟩
    conv => whnf
    refine ⟨fun c159 => ?_, fun c159 => ?_⟩
    · skip
      conv => whnf
      obtain ⟨ρ163, w162⟩ := l155.1.2.1
      refine ⟨w162.km, rfl, _, _, _, _, _, _, c_Mo_narrowed w162, ⟨Nat.le_of_ble_eq_true rfl, Nat.le_of_ble_eq_true rfl, by (try dsimp only); omega, by (try dsimp only); omega⟩, fun _ _ z => False.elim z, ?_⟩
      rintro v9 H160 ⟨st9, r9, rfl⟩
      have l161 := l155.mf w162 st9
      exact j_use hF (back _ _ _ l161 (by omega) (by omega)) (And.intro rfl (And.intro rfl (And.intro rfl (And.intro rfl (And.intro rfl trivial)))))
    · skip
      conv => whnf
      obtain ⟨ρ167, w166⟩ := l155.1.2.1
      refine ⟨w166.km, rfl, _, _, _, _, _, _, c_Mo_narrowed w166, ⟨Nat.le_of_ble_eq_true rfl, Nat.le_of_ble_eq_true rfl, by (try dsimp only); omega, by (try dsimp only); omega⟩, fun _ _ z => False.elim z, ?_⟩
      rintro v9 H164 ⟨st9, r9, rfl⟩
      have l165 := l155.mf w166 st9
      exact j_use hF (back _ _ _ l165 (by omega) (by omega)) (And.intro rfl (And.intro rfl (And.intro rfl (And.intro rfl (And.intro rfl trivial)))))
set_option maxHeartbeats 4000000 in
set_option maxRecDepth 20000 in
theorem j_turn14 {J : j_J} {L sc x m out P G R Q cn sn : Nat} {i : Int32} {h : j_H} (hJ : j_Cl k_law j_lF j_lP j_no J) (hF : j_Fg J) (hL : L ≤ 2560) (i0 : 0 ≤ i.toInt) (i1 : i.toInt + 5 ≤ (L : Int)) (hc : cn ≤ 500000) (hs : sn ≤ 6000000) (lw : j_LW L sc x m out P G R Q h) (back : ∀ (h' : j_H) (cn' sn' : Nat), j_LW L sc x m out P G R Q h' → cn' ≤ cn + 200 → sn' ≤ sn + 2000 → J 1161 [some (j_r (some sc)), some (j_r (some x)), some (j_r (some m)), some (j_r (some out)), some (j_i i), none, none] [] h' cn' sn') : J 773 [some (j_r (some sc)), some (j_r (some x)), some (j_r (some m)), some (j_r (some out)), some (j_i i), none, none] [] h cn sn := by
  have q1 : (i + Int32.ofInt (1)).toInt = i.toInt + 1 := j_inc1 (by omega)
  have q2 : (i + Int32.ofInt (2)).toInt = i.toInt + 2 := j_i2 i0 (by omega)
  have q3 : (i + Int32.ofInt (3)).toInt = i.toInt + 3 := j_i3 i0 (by omega)
  have q4 : (i + Int32.ofInt (4)).toInt = i.toInt + 4 := j_i4 i0 (by omega)
  refine hJ [1161] 400 _ _ _ _ _ _ ?_
  conv => whnf
  have lsv168 : j_ln h sc = L := lw.1.2.2.2.2.2.2
  refine ⟨_, _, rfl, lw.1.2.2.2.2.2.1, rfl, j_vp (by omega) (by rw [lsv168]; omega), fun v168 ev168 => ?_⟩
  conv => whnf
  have lsv169 : j_ln h sc = L := lw.1.2.2.2.2.2.2
  refine ⟨_, _, rfl, lw.1.2.2.2.2.2.1, rfl, j_vp (by omega) (by rw [lsv169]; omega), fun v169 ev169 => ?_⟩
  conv => whnf
  refine ⟨rfl, _, _, _, _, _, _, c_Lw_ofPrint lw.1.1 lw.1.2.2.1, ⟨Nat.le_of_ble_eq_true rfl, Nat.le_of_ble_eq_true rfl, by (try dsimp only); omega, by (try dsimp only); omega⟩, fun _ _ z => False.elim z, ?_⟩
  rintro v9 H170 ⟨⟨r172, rfl⟩, fo⟩
  have l171 := (lw.fo fo).1
  conv => whnf
  have lsv173 : j_ln H170 sc = L := l171.1.2.2.2.2.2.2
  refine ⟨_, _, rfl, l171.1.2.2.2.2.2.1, rfl, j_vp (by omega) (by rw [lsv173]; omega), fun v173 ev173 => ?_⟩
  conv => whnf
  have lsv174 : j_ln H170 sc = L := l171.1.2.2.2.2.2.2
  refine ⟨_, _, rfl, l171.1.2.2.2.2.2.1, rfl, j_vp (by omega) (by rw [lsv174]; omega), fun v174 ev174 => ?_⟩
  conv => whnf
  obtain ⟨ρ178, w177⟩ := l171.1.2.1
  refine ⟨w177.km, rfl, _, _, _, _, _, _, c_Mo_ofPrint w177, ⟨Nat.le_of_ble_eq_true rfl, Nat.le_of_ble_eq_true rfl, by (try dsimp only); omega, by (try dsimp only); omega⟩, fun _ _ z => False.elim z, ?_⟩
  rintro v9 H175 ⟨st9, r9, rfl⟩
  have l176 := l171.mf w177 st9
  exact j_use hF (back _ _ _ l176 (by omega) (by omega)) (And.intro rfl (And.intro rfl (And.intro rfl (And.intro rfl (And.intro rfl trivial)))))
set_option maxHeartbeats 4000000 in
set_option maxRecDepth 20000 in
theorem j_turn15 {J : j_J} {L sc x m out P G R Q cn sn : Nat} {i : Int32} {h : j_H} (hJ : j_Cl k_law j_lF j_lP j_no J) (hF : j_Fg J) (hL : L ≤ 2560) (i0 : 0 ≤ i.toInt) (i1 : i.toInt + 5 ≤ (L : Int)) (hc : cn ≤ 500000) (hs : sn ≤ 6000000) (lw : j_LW L sc x m out P G R Q h) (back : ∀ (h' : j_H) (cn' sn' : Nat), j_LW L sc x m out P G R Q h' → cn' ≤ cn + 200 → sn' ≤ sn + 2000 → J 1161 [some (j_r (some sc)), some (j_r (some x)), some (j_r (some m)), some (j_r (some out)), some (j_i i), none, none] [] h' cn' sn') : J 813 [some (j_r (some sc)), some (j_r (some x)), some (j_r (some m)), some (j_r (some out)), some (j_i i), none, none] [] h cn sn := by
  have q1 : (i + Int32.ofInt (1)).toInt = i.toInt + 1 := j_inc1 (by omega)
  have q2 : (i + Int32.ofInt (2)).toInt = i.toInt + 2 := j_i2 i0 (by omega)
  have q3 : (i + Int32.ofInt (3)).toInt = i.toInt + 3 := j_i3 i0 (by omega)
  have q4 : (i + Int32.ofInt (4)).toInt = i.toInt + 4 := j_i4 i0 (by omega)
  refine hJ [1161] 400 _ _ _ _ _ _ ?_
  conv => whnf
  have lsv179 : j_ln h sc = L := lw.1.2.2.2.2.2.2
  refine ⟨_, _, rfl, lw.1.2.2.2.2.2.1, rfl, j_vp (by omega) (by rw [lsv179]; omega), fun v179 ev179 => ?_⟩
  conv => whnf
  refine ⟨rfl, _, _, _, _, _, _, c_Lw_lab lw.1.1 lw.1.2.2.1, ⟨Nat.le_of_ble_eq_true rfl, Nat.le_of_ble_eq_true rfl, by (try dsimp only); omega, by (try dsimp only); omega⟩, fun _ _ z => False.elim z, ?_⟩
  rintro v9 H180 ⟨⟨r182, rfl⟩, fo⟩
  have l181 := (lw.fo fo).1
  conv => whnf
  have lsv183 : j_ln H180 sc = L := l181.1.2.2.2.2.2.2
  refine ⟨_, _, rfl, l181.1.2.2.2.2.2.1, rfl, j_vp (by omega) (by rw [lsv183]; omega), fun v183 ev183 => ?_⟩
  conv => whnf
  obtain ⟨ρ187, w186⟩ := l181.1.2.1
  refine ⟨w186.km, rfl, _, _, _, _, _, _, c_Mo_lab w186, ⟨Nat.le_of_ble_eq_true rfl, Nat.le_of_ble_eq_true rfl, by (try dsimp only); omega, by (try dsimp only); omega⟩, fun _ _ z => False.elim z, ?_⟩
  rintro v9 H184 ⟨st9, r9, rfl⟩
  have l185 := l181.mf w186 st9
  exact j_use hF (back _ _ _ l185 (by omega) (by omega)) (And.intro rfl (And.intro rfl (And.intro rfl (And.intro rfl (And.intro rfl trivial)))))
set_option maxHeartbeats 4000000 in
set_option maxRecDepth 20000 in
theorem j_turn16 {J : j_J} {L sc x m out P G R Q cn sn : Nat} {i : Int32} {h : j_H} (hJ : j_Cl k_law j_lF j_lP j_no J) (hF : j_Fg J) (hL : L ≤ 2560) (i0 : 0 ≤ i.toInt) (i1 : i.toInt + 5 ≤ (L : Int)) (hc : cn ≤ 500000) (hs : sn ≤ 6000000) (lw : j_LW L sc x m out P G R Q h) (back : ∀ (h' : j_H) (cn' sn' : Nat), j_LW L sc x m out P G R Q h' → cn' ≤ cn + 200 → sn' ≤ sn + 2000 → J 1161 [some (j_r (some sc)), some (j_r (some x)), some (j_r (some m)), some (j_r (some out)), some (j_i i), none, none] [] h' cn' sn') : J 841 [some (j_r (some sc)), some (j_r (some x)), some (j_r (some m)), some (j_r (some out)), some (j_i i), none, none] [] h cn sn := by
  have q1 : (i + Int32.ofInt (1)).toInt = i.toInt + 1 := j_inc1 (by omega)
  have q2 : (i + Int32.ofInt (2)).toInt = i.toInt + 2 := j_i2 i0 (by omega)
  have q3 : (i + Int32.ofInt (3)).toInt = i.toInt + 3 := j_i3 i0 (by omega)
  have q4 : (i + Int32.ofInt (4)).toInt = i.toInt + 4 := j_i4 i0 (by omega)
  refine hJ [1161] 400 _ _ _ _ _ _ ?_
  conv => whnf
  have lsv188 : j_ln h sc = L := lw.1.2.2.2.2.2.2
  refine ⟨_, _, rfl, lw.1.2.2.2.2.2.1, rfl, j_vp (by omega) (by rw [lsv188]; omega), fun v188 ev188 => ?_⟩
  conv => whnf
  refine ⟨rfl, _, _, _, _, _, _, c_Lw_text lw.1.1 lw.1.2.2.2.1 lw.1.2.2.1, ⟨Nat.le_of_ble_eq_true rfl, Nat.le_of_ble_eq_true rfl, by (try dsimp only); omega, by (try dsimp only); omega⟩, fun _ _ z => False.elim z, ?_⟩
  rintro v9 H189 ⟨⟨r191, rfl⟩, fo⟩
  have l190 := (lw.fo fo).1
  conv => whnf
  have lsv192 : j_ln H189 sc = L := l190.1.2.2.2.2.2.2
  refine ⟨_, _, rfl, l190.1.2.2.2.2.2.1, rfl, j_vp (by omega) (by rw [lsv192]; omega), fun v192 ev192 => ?_⟩
  conv => whnf
  obtain ⟨ρ196, w195⟩ := l190.1.2.1
  refine ⟨w195.km, rfl, _, _, _, _, _, _, c_Mo_text w195 l190.1.2.2.2.1, ⟨Nat.le_of_ble_eq_true rfl, Nat.le_of_ble_eq_true rfl, by (try dsimp only); omega, by (try dsimp only); omega⟩, fun _ _ z => False.elim z, ?_⟩
  rintro v9 H193 ⟨st9, s9, rfl⟩
  have l194 := l190.mf w195 st9
  exact j_use hF (back _ _ _ l194 (by omega) (by omega)) (And.intro rfl (And.intro rfl (And.intro rfl (And.intro rfl (And.intro rfl trivial)))))
set_option maxHeartbeats 4000000 in
set_option maxRecDepth 20000 in
theorem j_turn17 {J : j_J} {L sc x m out P G R Q cn sn : Nat} {i : Int32} {h : j_H} (hJ : j_Cl k_law j_lF j_lP j_no J) (hF : j_Fg J) (hL : L ≤ 2560) (i0 : 0 ≤ i.toInt) (i1 : i.toInt + 5 ≤ (L : Int)) (hc : cn ≤ 500000) (hs : sn ≤ 6000000) (lw : j_LW L sc x m out P G R Q h) (back : ∀ (h' : j_H) (cn' sn' : Nat), j_LW L sc x m out P G R Q h' → cn' ≤ cn + 200 → sn' ≤ sn + 2000 → J 1161 [some (j_r (some sc)), some (j_r (some x)), some (j_r (some m)), some (j_r (some out)), some (j_i i), none, none] [] h' cn' sn') : J 869 [some (j_r (some sc)), some (j_r (some x)), some (j_r (some m)), some (j_r (some out)), some (j_i i), none, none] [] h cn sn := by
  have q1 : (i + Int32.ofInt (1)).toInt = i.toInt + 1 := j_inc1 (by omega)
  have q2 : (i + Int32.ofInt (2)).toInt = i.toInt + 2 := j_i2 i0 (by omega)
  have q3 : (i + Int32.ofInt (3)).toInt = i.toInt + 3 := j_i3 i0 (by omega)
  have q4 : (i + Int32.ofInt (4)).toInt = i.toInt + 4 := j_i4 i0 (by omega)
  refine hJ [1161] 400 _ _ _ _ _ _ ?_
  conv => whnf
  have lsv197 : j_ln h sc = L := lw.1.2.2.2.2.2.2
  refine ⟨_, _, rfl, lw.1.2.2.2.2.2.1, rfl, j_vp (by omega) (by rw [lsv197]; omega), fun v197 ev197 => ?_⟩
  conv => whnf
  have lsv198 : j_ln h sc = L := lw.1.2.2.2.2.2.2
  refine ⟨_, _, rfl, lw.1.2.2.2.2.2.1, rfl, j_vp (by omega) (by rw [lsv198]; omega), fun v198 ev198 => ?_⟩
  conv => whnf
  have lsv199 : j_ln h sc = L := lw.1.2.2.2.2.2.2
  refine ⟨_, _, rfl, lw.1.2.2.2.2.2.1, rfl, j_vp (by omega) (by rw [lsv199]; omega), fun v199 ev199 => ?_⟩
  conv => whnf
  refine ⟨rfl, _, _, _, _, _, _, c_Lw_left lw.1.1 lw.1.2.2.1, ⟨Nat.le_of_ble_eq_true rfl, Nat.le_of_ble_eq_true rfl, by (try dsimp only); omega, by (try dsimp only); omega⟩, fun _ _ z => False.elim z, ?_⟩
  rintro v9 H200 ⟨⟨r202, rfl⟩, fo⟩
  have l201 := (lw.fo fo).1
  conv => whnf
  have lsv203 : j_ln H200 sc = L := l201.1.2.2.2.2.2.2
  refine ⟨_, _, rfl, l201.1.2.2.2.2.2.1, rfl, j_vp (by omega) (by rw [lsv203]; omega), fun v203 ev203 => ?_⟩
  conv => whnf
  have lsv204 : j_ln H200 sc = L := l201.1.2.2.2.2.2.2
  refine ⟨_, _, rfl, l201.1.2.2.2.2.2.1, rfl, j_vp (by omega) (by rw [lsv204]; omega), fun v204 ev204 => ?_⟩
  conv => whnf
  have lsv205 : j_ln H200 sc = L := l201.1.2.2.2.2.2.2
  refine ⟨_, _, rfl, l201.1.2.2.2.2.2.1, rfl, j_vp (by omega) (by rw [lsv205]; omega), fun v205 ev205 => ?_⟩
  conv => whnf
  obtain ⟨ρ209, w208⟩ := l201.1.2.1
  refine ⟨w208.km, rfl, _, _, _, _, _, _, c_Mo_left w208, ⟨Nat.le_of_ble_eq_true rfl, Nat.le_of_ble_eq_true rfl, by (try dsimp only); omega, by (try dsimp only); omega⟩, fun _ _ z => False.elim z, ?_⟩
  rintro v9 H206 ⟨st9, r9, rfl⟩
  have l207 := l201.mf w208 st9
  exact j_use hF (back _ _ _ l207 (by omega) (by omega)) (And.intro rfl (And.intro rfl (And.intro rfl (And.intro rfl (And.intro rfl trivial)))))
set_option maxHeartbeats 4000000 in
set_option maxRecDepth 20000 in
theorem j_turn18 {J : j_J} {L sc x m out P G R Q cn sn : Nat} {i : Int32} {h : j_H} (hJ : j_Cl k_law j_lF j_lP j_no J) (hF : j_Fg J) (hL : L ≤ 2560) (i0 : 0 ≤ i.toInt) (i1 : i.toInt + 5 ≤ (L : Int)) (hc : cn ≤ 500000) (hs : sn ≤ 6000000) (lw : j_LW L sc x m out P G R Q h) (back : ∀ (h' : j_H) (cn' sn' : Nat), j_LW L sc x m out P G R Q h' → cn' ≤ cn + 200 → sn' ≤ sn + 2000 → J 1161 [some (j_r (some sc)), some (j_r (some x)), some (j_r (some m)), some (j_r (some out)), some (j_i i), none, none] [] h' cn' sn') : J 921 [some (j_r (some sc)), some (j_r (some x)), some (j_r (some m)), some (j_r (some out)), some (j_i i), none, none] [] h cn sn := by
  have q1 : (i + Int32.ofInt (1)).toInt = i.toInt + 1 := j_inc1 (by omega)
  have q2 : (i + Int32.ofInt (2)).toInt = i.toInt + 2 := j_i2 i0 (by omega)
  have q3 : (i + Int32.ofInt (3)).toInt = i.toInt + 3 := j_i3 i0 (by omega)
  have q4 : (i + Int32.ofInt (4)).toInt = i.toInt + 4 := j_i4 i0 (by omega)
  refine hJ [1161] 400 _ _ _ _ _ _ ?_
  conv => whnf
  have lsv210 : j_ln h sc = L := lw.1.2.2.2.2.2.2
  refine ⟨_, _, rfl, lw.1.2.2.2.2.2.1, rfl, j_vp (by omega) (by rw [lsv210]; omega), fun v210 ev210 => ?_⟩
  conv => whnf
  have lsv211 : j_ln h sc = L := lw.1.2.2.2.2.2.2
  refine ⟨_, _, rfl, lw.1.2.2.2.2.2.1, rfl, j_vp (by omega) (by rw [lsv211]; omega), fun v211 ev211 => ?_⟩
  conv => whnf
  have lsv212 : j_ln h sc = L := lw.1.2.2.2.2.2.2
  refine ⟨_, _, rfl, lw.1.2.2.2.2.2.1, rfl, j_vp (by omega) (by rw [lsv212]; omega), fun v212 ev212 => ?_⟩
  conv => whnf
  have lsv213 : j_ln h sc = L := lw.1.2.2.2.2.2.2
  refine ⟨_, _, rfl, lw.1.2.2.2.2.2.1, rfl, j_vp (by omega) (by rw [lsv213]; omega), fun v213 ev213 => ?_⟩
  conv => whnf
  refine ⟨fun c214 => ?_, fun c214 => ?_⟩
  · skip
    conv => whnf
    refine ⟨rfl, _, _, _, _, _, _, c_Lw_age lw.1.1 lw.1.2.2.1, ⟨Nat.le_of_ble_eq_true rfl, Nat.le_of_ble_eq_true rfl, by (try dsimp only); omega, by (try dsimp only); omega⟩, fun _ _ z => False.elim z, ?_⟩
    rintro v9 H215 ⟨⟨r217, rfl⟩, fo⟩
    have l216 := (lw.fo fo).1
    conv => whnf
    have lsv218 : j_ln H215 sc = L := l216.1.2.2.2.2.2.2
    refine ⟨_, _, rfl, l216.1.2.2.2.2.2.1, rfl, j_vp (by omega) (by rw [lsv218]; omega), fun v218 ev218 => ?_⟩
    conv => whnf
    have lsv219 : j_ln H215 sc = L := l216.1.2.2.2.2.2.2
    refine ⟨_, _, rfl, l216.1.2.2.2.2.2.1, rfl, j_vp (by omega) (by rw [lsv219]; omega), fun v219 ev219 => ?_⟩
    conv => whnf
    have lsv220 : j_ln H215 sc = L := l216.1.2.2.2.2.2.2
    refine ⟨_, _, rfl, l216.1.2.2.2.2.2.1, rfl, j_vp (by omega) (by rw [lsv220]; omega), fun v220 ev220 => ?_⟩
    conv => whnf
    have lsv221 : j_ln H215 sc = L := l216.1.2.2.2.2.2.2
    refine ⟨_, _, rfl, l216.1.2.2.2.2.2.1, rfl, j_vp (by omega) (by rw [lsv221]; omega), fun v221 ev221 => ?_⟩
    conv => whnf
    refine ⟨fun c222 => ?_, fun c222 => ?_⟩
    · skip
      conv => whnf
      obtain ⟨ρ226, w225⟩ := l216.1.2.1
      refine ⟨w225.km, rfl, _, _, _, _, _, _, c_Mo_age w225, ⟨Nat.le_of_ble_eq_true rfl, Nat.le_of_ble_eq_true rfl, by (try dsimp only); omega, by (try dsimp only); omega⟩, fun _ _ z => False.elim z, ?_⟩
      rintro v9 H223 ⟨st9, r9, rfl⟩
      have l224 := l216.mf w225 st9
      exact j_use hF (back _ _ _ l224 (by omega) (by omega)) (And.intro rfl (And.intro rfl (And.intro rfl (And.intro rfl (And.intro rfl trivial)))))
    · skip
      conv => whnf
      obtain ⟨ρ230, w229⟩ := l216.1.2.1
      refine ⟨w229.km, rfl, _, _, _, _, _, _, c_Mo_age w229, ⟨Nat.le_of_ble_eq_true rfl, Nat.le_of_ble_eq_true rfl, by (try dsimp only); omega, by (try dsimp only); omega⟩, fun _ _ z => False.elim z, ?_⟩
      rintro v9 H227 ⟨st9, r9, rfl⟩
      have l228 := l216.mf w229 st9
      exact j_use hF (back _ _ _ l228 (by omega) (by omega)) (And.intro rfl (And.intro rfl (And.intro rfl (And.intro rfl (And.intro rfl trivial)))))
  · skip
    conv => whnf
    refine ⟨rfl, _, _, _, _, _, _, c_Lw_age lw.1.1 lw.1.2.2.1, ⟨Nat.le_of_ble_eq_true rfl, Nat.le_of_ble_eq_true rfl, by (try dsimp only); omega, by (try dsimp only); omega⟩, fun _ _ z => False.elim z, ?_⟩
    rintro v9 H231 ⟨⟨r233, rfl⟩, fo⟩
    have l232 := (lw.fo fo).1
    conv => whnf
    have lsv234 : j_ln H231 sc = L := l232.1.2.2.2.2.2.2
    refine ⟨_, _, rfl, l232.1.2.2.2.2.2.1, rfl, j_vp (by omega) (by rw [lsv234]; omega), fun v234 ev234 => ?_⟩
    conv => whnf
    have lsv235 : j_ln H231 sc = L := l232.1.2.2.2.2.2.2
    refine ⟨_, _, rfl, l232.1.2.2.2.2.2.1, rfl, j_vp (by omega) (by rw [lsv235]; omega), fun v235 ev235 => ?_⟩
    conv => whnf
    have lsv236 : j_ln H231 sc = L := l232.1.2.2.2.2.2.2
    refine ⟨_, _, rfl, l232.1.2.2.2.2.2.1, rfl, j_vp (by omega) (by rw [lsv236]; omega), fun v236 ev236 => ?_⟩
    conv => whnf
    have lsv237 : j_ln H231 sc = L := l232.1.2.2.2.2.2.2
    refine ⟨_, _, rfl, l232.1.2.2.2.2.2.1, rfl, j_vp (by omega) (by rw [lsv237]; omega), fun v237 ev237 => ?_⟩
    conv => whnf
    refine ⟨fun c238 => ?_, fun c238 => ?_⟩
    · skip
      conv => whnf
      obtain ⟨ρ242, w241⟩ := l232.1.2.1
      refine ⟨w241.km, rfl, _, _, _, _, _, _, c_Mo_age w241, ⟨Nat.le_of_ble_eq_true rfl, Nat.le_of_ble_eq_true rfl, by (try dsimp only); omega, by (try dsimp only); omega⟩, fun _ _ z => False.elim z, ?_⟩
      rintro v9 H239 ⟨st9, r9, rfl⟩
      have l240 := l232.mf w241 st9
      exact j_use hF (back _ _ _ l240 (by omega) (by omega)) (And.intro rfl (And.intro rfl (And.intro rfl (And.intro rfl (And.intro rfl trivial)))))
    · skip
      conv => whnf
      obtain ⟨ρ246, w245⟩ := l232.1.2.1
      refine ⟨w245.km, rfl, _, _, _, _, _, _, c_Mo_age w245, ⟨Nat.le_of_ble_eq_true rfl, Nat.le_of_ble_eq_true rfl, by (try dsimp only); omega, by (try dsimp only); omega⟩, fun _ _ z => False.elim z, ?_⟩
      rintro v9 H243 ⟨st9, r9, rfl⟩
      have l244 := l232.mf w245 st9
      exact j_use hF (back _ _ _ l244 (by omega) (by omega)) (And.intro rfl (And.intro rfl (And.intro rfl (And.intro rfl (And.intro rfl trivial)))))
set_option maxHeartbeats 4000000 in
set_option maxRecDepth 20000 in
theorem j_turn19 {J : j_J} {L sc x m out P G R Q cn sn : Nat} {i : Int32} {h : j_H} (hJ : j_Cl k_law j_lF j_lP j_no J) (hF : j_Fg J) (hL : L ≤ 2560) (i0 : 0 ≤ i.toInt) (i1 : i.toInt + 5 ≤ (L : Int)) (hc : cn ≤ 500000) (hs : sn ≤ 6000000) (lw : j_LW L sc x m out P G R Q h) (back : ∀ (h' : j_H) (cn' sn' : Nat), j_LW L sc x m out P G R Q h' → cn' ≤ cn + 200 → sn' ≤ sn + 2000 → J 1161 [some (j_r (some sc)), some (j_r (some x)), some (j_r (some m)), some (j_r (some out)), some (j_i i), none, none] [] h' cn' sn') : J 1001 [some (j_r (some sc)), some (j_r (some x)), some (j_r (some m)), some (j_r (some out)), some (j_i i), none, none] [] h cn sn := by
  have q1 : (i + Int32.ofInt (1)).toInt = i.toInt + 1 := j_inc1 (by omega)
  have q2 : (i + Int32.ofInt (2)).toInt = i.toInt + 2 := j_i2 i0 (by omega)
  have q3 : (i + Int32.ofInt (3)).toInt = i.toInt + 3 := j_i3 i0 (by omega)
  have q4 : (i + Int32.ofInt (4)).toInt = i.toInt + 4 := j_i4 i0 (by omega)
  refine hJ [1161] 400 _ _ _ _ _ _ ?_
  conv => whnf
  refine ⟨lw.1.1.1, rfl, _, _, _, _, _, _, c_G_fewest (h := h) lw.1.1 j_Sc.rf, ⟨Nat.le_of_ble_eq_true rfl, Nat.le_of_ble_eq_true rfl, by (try dsimp only); omega, by (try dsimp only); omega⟩, fun _ _ z => False.elim z, ?_⟩
  rintro v9 H247 ⟨it249, e9, s9, r9, rfl⟩
  have fr9 : j_Fr x h H247 := by rw [e9]; exact j_Fr.sc lw.1.1 s9 j_sf_ok j_sf8
  have l248 := (lw.fo fr9.fo).1
  conv => whnf
  obtain ⟨ρ253, w252⟩ := l248.1.2.1
  refine ⟨w252.km, rfl, _, _, _, _, _, _, c_Mo_fewest w252, ⟨Nat.le_of_ble_eq_true rfl, Nat.le_of_ble_eq_true rfl, by (try dsimp only); omega, by (try dsimp only); omega⟩, fun _ _ z => False.elim z, ?_⟩
  rintro v9 H250 ⟨st9, r9, rfl⟩
  have l251 := l248.mf w252 st9
  exact j_use hF (back _ _ _ l251 (by omega) (by omega)) (And.intro rfl (And.intro rfl (And.intro rfl (And.intro rfl (And.intro rfl trivial)))))
set_option maxHeartbeats 4000000 in
set_option maxRecDepth 20000 in
theorem j_turn20 {J : j_J} {L sc x m out P G R Q cn sn : Nat} {i : Int32} {h : j_H} (hJ : j_Cl k_law j_lF j_lP j_no J) (hF : j_Fg J) (hL : L ≤ 2560) (i0 : 0 ≤ i.toInt) (i1 : i.toInt + 5 ≤ (L : Int)) (hc : cn ≤ 500000) (hs : sn ≤ 6000000) (lw : j_LW L sc x m out P G R Q h) (back : ∀ (h' : j_H) (cn' sn' : Nat), j_LW L sc x m out P G R Q h' → cn' ≤ cn + 200 → sn' ≤ sn + 2000 → J 1161 [some (j_r (some sc)), some (j_r (some x)), some (j_r (some m)), some (j_r (some out)), some (j_i i), none, none] [] h' cn' sn') : J 1014 [some (j_r (some sc)), some (j_r (some x)), some (j_r (some m)), some (j_r (some out)), some (j_i i), none, none] [] h cn sn := by
  have q1 : (i + Int32.ofInt (1)).toInt = i.toInt + 1 := j_inc1 (by omega)
  have q2 : (i + Int32.ofInt (2)).toInt = i.toInt + 2 := j_i2 i0 (by omega)
  have q3 : (i + Int32.ofInt (3)).toInt = i.toInt + 3 := j_i3 i0 (by omega)
  have q4 : (i + Int32.ofInt (4)).toInt = i.toInt + 4 := j_i4 i0 (by omega)
  refine hJ [1161] 400 _ _ _ _ _ _ ?_
  conv => whnf
  have lsv254 : j_ln h sc = L := lw.1.2.2.2.2.2.2
  refine ⟨_, _, rfl, lw.1.2.2.2.2.2.1, rfl, j_vp (by omega) (by rw [lsv254]; omega), fun v254 ev254 => ?_⟩
  conv => whnf
  refine ⟨fun c255 => ?_, fun c255 => ?_⟩
  · skip
    conv => whnf
    refine ⟨lw.1.1.1, rfl, _, _, _, _, _, _, c_G_bestSwap (h := h) lw.1.1 j_Sc.rf, ⟨Nat.le_of_ble_eq_true rfl, Nat.le_of_ble_eq_true rfl, by (try dsimp only); omega, by (try dsimp only); omega⟩, fun _ _ z => False.elim z, ?_⟩
    rintro v9 H256 ⟨it258, e9, s9, r9, rfl⟩
    have fr9 : j_Fr x h H256 := by rw [e9]; exact j_Fr.sc lw.1.1 s9 j_sf_ok j_sf8
    have l257 := (lw.fo fr9.fo).1
    conv => whnf
    have lsv259 : j_ln H256 sc = L := l257.1.2.2.2.2.2.2
    refine ⟨_, _, rfl, l257.1.2.2.2.2.2.1, rfl, j_vp (by omega) (by rw [lsv259]; omega), fun v259 ev259 => ?_⟩
    conv => whnf
    refine ⟨fun c260 => ?_, fun c260 => ?_⟩
    · skip
      conv => whnf
      obtain ⟨ρ264, w263⟩ := l257.1.2.1
      refine ⟨w263.km, rfl, _, _, _, _, _, _, c_Mo_bestSwap w263, ⟨Nat.le_of_ble_eq_true rfl, Nat.le_of_ble_eq_true rfl, by (try dsimp only); omega, by (try dsimp only); omega⟩, fun _ _ z => False.elim z, ?_⟩
      rintro v9 H261 ⟨st9, r9, rfl⟩
      have l262 := l257.mf w263 st9
      exact j_use hF (back _ _ _ l262 (by omega) (by omega)) (And.intro rfl (And.intro rfl (And.intro rfl (And.intro rfl (And.intro rfl trivial)))))
    · skip
      conv => whnf
      obtain ⟨ρ268, w267⟩ := l257.1.2.1
      refine ⟨w267.km, rfl, _, _, _, _, _, _, c_Mo_bestSwap w267, ⟨Nat.le_of_ble_eq_true rfl, Nat.le_of_ble_eq_true rfl, by (try dsimp only); omega, by (try dsimp only); omega⟩, fun _ _ z => False.elim z, ?_⟩
      rintro v9 H265 ⟨st9, r9, rfl⟩
      have l266 := l257.mf w267 st9
      exact j_use hF (back _ _ _ l266 (by omega) (by omega)) (And.intro rfl (And.intro rfl (And.intro rfl (And.intro rfl (And.intro rfl trivial)))))
  · skip
    conv => whnf
    refine ⟨lw.1.1.1, rfl, _, _, _, _, _, _, c_G_bestSwap (h := h) lw.1.1 j_Sc.rf, ⟨Nat.le_of_ble_eq_true rfl, Nat.le_of_ble_eq_true rfl, by (try dsimp only); omega, by (try dsimp only); omega⟩, fun _ _ z => False.elim z, ?_⟩
    rintro v9 H269 ⟨it271, e9, s9, r9, rfl⟩
    have fr9 : j_Fr x h H269 := by rw [e9]; exact j_Fr.sc lw.1.1 s9 j_sf_ok j_sf8
    have l270 := (lw.fo fr9.fo).1
    conv => whnf
    have lsv272 : j_ln H269 sc = L := l270.1.2.2.2.2.2.2
    refine ⟨_, _, rfl, l270.1.2.2.2.2.2.1, rfl, j_vp (by omega) (by rw [lsv272]; omega), fun v272 ev272 => ?_⟩
    conv => whnf
    refine ⟨fun c273 => ?_, fun c273 => ?_⟩
    · skip
      conv => whnf
      obtain ⟨ρ277, w276⟩ := l270.1.2.1
      refine ⟨w276.km, rfl, _, _, _, _, _, _, c_Mo_bestSwap w276, ⟨Nat.le_of_ble_eq_true rfl, Nat.le_of_ble_eq_true rfl, by (try dsimp only); omega, by (try dsimp only); omega⟩, fun _ _ z => False.elim z, ?_⟩
      rintro v9 H274 ⟨st9, r9, rfl⟩
      have l275 := l270.mf w276 st9
      exact j_use hF (back _ _ _ l275 (by omega) (by omega)) (And.intro rfl (And.intro rfl (And.intro rfl (And.intro rfl (And.intro rfl trivial)))))
    · skip
      conv => whnf
      obtain ⟨ρ281, w280⟩ := l270.1.2.1
      refine ⟨w280.km, rfl, _, _, _, _, _, _, c_Mo_bestSwap w280, ⟨Nat.le_of_ble_eq_true rfl, Nat.le_of_ble_eq_true rfl, by (try dsimp only); omega, by (try dsimp only); omega⟩, fun _ _ z => False.elim z, ?_⟩
      rintro v9 H278 ⟨st9, r9, rfl⟩
      have l279 := l270.mf w280 st9
      exact j_use hF (back _ _ _ l279 (by omega) (by omega)) (And.intro rfl (And.intro rfl (And.intro rfl (And.intro rfl (And.intro rfl trivial)))))
set_option maxHeartbeats 4000000 in
set_option maxRecDepth 20000 in
theorem j_turn21 {J : j_J} {L sc x m out P G R Q cn sn : Nat} {i : Int32} {h : j_H} (hJ : j_Cl k_law j_lF j_lP j_no J) (hF : j_Fg J) (hL : L ≤ 2560) (i0 : 0 ≤ i.toInt) (i1 : i.toInt + 5 ≤ (L : Int)) (hc : cn ≤ 500000) (hs : sn ≤ 6000000) (lw : j_LW L sc x m out P G R Q h) (back : ∀ (h' : j_H) (cn' sn' : Nat), j_LW L sc x m out P G R Q h' → cn' ≤ cn + 200 → sn' ≤ sn + 2000 → J 1161 [some (j_r (some sc)), some (j_r (some x)), some (j_r (some m)), some (j_r (some out)), some (j_i i), none, none] [] h' cn' sn') : J 1055 [some (j_r (some sc)), some (j_r (some x)), some (j_r (some m)), some (j_r (some out)), some (j_i i), none, none] [] h cn sn := by
  have q1 : (i + Int32.ofInt (1)).toInt = i.toInt + 1 := j_inc1 (by omega)
  have q2 : (i + Int32.ofInt (2)).toInt = i.toInt + 2 := j_i2 i0 (by omega)
  have q3 : (i + Int32.ofInt (3)).toInt = i.toInt + 3 := j_i3 i0 (by omega)
  have q4 : (i + Int32.ofInt (4)).toInt = i.toInt + 4 := j_i4 i0 (by omega)
  refine hJ [1161] 400 _ _ _ _ _ _ ?_
  conv => whnf
  have lsv282 : j_ln h sc = L := lw.1.2.2.2.2.2.2
  refine ⟨_, _, rfl, lw.1.2.2.2.2.2.1, rfl, j_vp (by omega) (by rw [lsv282]; omega), fun v282 ev282 => ?_⟩
  conv => whnf
  have lsv283 : j_ln h sc = L := lw.1.2.2.2.2.2.2
  refine ⟨_, _, rfl, lw.1.2.2.2.2.2.1, rfl, j_vp (by omega) (by rw [lsv283]; omega), fun v283 ev283 => ?_⟩
  conv => whnf
  refine ⟨rfl, _, _, _, _, _, _, c_Lw_changed lw.1.1 lw.1.2.2.1, ⟨Nat.le_of_ble_eq_true rfl, Nat.le_of_ble_eq_true rfl, by (try dsimp only); omega, by (try dsimp only); omega⟩, fun _ _ z => False.elim z, ?_⟩
  rintro v9 H284 ⟨⟨r286, rfl⟩, fo⟩
  have l285 := (lw.fo fo).1
  conv => whnf
  have lsv287 : j_ln H284 sc = L := l285.1.2.2.2.2.2.2
  refine ⟨_, _, rfl, l285.1.2.2.2.2.2.1, rfl, j_vp (by omega) (by rw [lsv287]; omega), fun v287 ev287 => ?_⟩
  conv => whnf
  have lsv288 : j_ln H284 sc = L := l285.1.2.2.2.2.2.2
  refine ⟨_, _, rfl, l285.1.2.2.2.2.2.1, rfl, j_vp (by omega) (by rw [lsv288]; omega), fun v288 ev288 => ?_⟩
  conv => whnf
  obtain ⟨ρ292, w291⟩ := l285.1.2.1
  refine ⟨w291.km, rfl, _, _, _, _, _, _, c_Mo_changed w291, ⟨Nat.le_of_ble_eq_true rfl, Nat.le_of_ble_eq_true rfl, by (try dsimp only); omega, by (try dsimp only); omega⟩, fun _ _ z => False.elim z, ?_⟩
  rintro v9 H289 ⟨st9, r9, rfl⟩
  have l290 := l285.mf w291 st9
  exact j_use hF (back _ _ _ l290 (by omega) (by omega)) (And.intro rfl (And.intro rfl (And.intro rfl (And.intro rfl (And.intro rfl trivial)))))
set_option maxHeartbeats 4000000 in
set_option maxRecDepth 20000 in
theorem j_turn22 {J : j_J} {L sc x m out P G R Q cn sn : Nat} {i : Int32} {h : j_H} (hJ : j_Cl k_law j_lF j_lP j_no J) (hF : j_Fg J) (hL : L ≤ 2560) (i0 : 0 ≤ i.toInt) (i1 : i.toInt + 5 ≤ (L : Int)) (hc : cn ≤ 500000) (hs : sn ≤ 6000000) (lw : j_LW L sc x m out P G R Q h) (back : ∀ (h' : j_H) (cn' sn' : Nat), j_LW L sc x m out P G R Q h' → cn' ≤ cn + 200 → sn' ≤ sn + 2000 → J 1161 [some (j_r (some sc)), some (j_r (some x)), some (j_r (some m)), some (j_r (some out)), some (j_i i), none, none] [] h' cn' sn') : J 1095 [some (j_r (some sc)), some (j_r (some x)), some (j_r (some m)), some (j_r (some out)), some (j_i i), none, none] [] h cn sn := by
  have q1 : (i + Int32.ofInt (1)).toInt = i.toInt + 1 := j_inc1 (by omega)
  have q2 : (i + Int32.ofInt (2)).toInt = i.toInt + 2 := j_i2 i0 (by omega)
  have q3 : (i + Int32.ofInt (3)).toInt = i.toInt + 3 := j_i3 i0 (by omega)
  have q4 : (i + Int32.ofInt (4)).toInt = i.toInt + 4 := j_i4 i0 (by omega)
  refine hJ [1161] 400 _ _ _ _ _ _ ?_
  conv => whnf
  have lsv293 : j_ln h sc = L := lw.1.2.2.2.2.2.2
  refine ⟨_, _, rfl, lw.1.2.2.2.2.2.1, rfl, j_vp (by omega) (by rw [lsv293]; omega), fun v293 ev293 => ?_⟩
  conv => whnf
  have lsv294 : j_ln h sc = L := lw.1.2.2.2.2.2.2
  refine ⟨_, _, rfl, lw.1.2.2.2.2.2.1, rfl, j_vp (by omega) (by rw [lsv294]; omega), fun v294 ev294 => ?_⟩
  conv => whnf
  refine ⟨rfl, _, _, _, _, _, _, c_Lw_wider lw.1.1 lw.1.2.2.1, ⟨Nat.le_of_ble_eq_true rfl, Nat.le_of_ble_eq_true rfl, by (try dsimp only); omega, by (try dsimp only); omega⟩, fun _ _ z => False.elim z, ?_⟩
  rintro v9 H295 ⟨⟨r297, rfl⟩, fo⟩
  have l296 := (lw.fo fo).1
  conv => whnf
  have lsv298 : j_ln H295 sc = L := l296.1.2.2.2.2.2.2
  refine ⟨_, _, rfl, l296.1.2.2.2.2.2.1, rfl, j_vp (by omega) (by rw [lsv298]; omega), fun v298 ev298 => ?_⟩
  conv => whnf
  have lsv299 : j_ln H295 sc = L := l296.1.2.2.2.2.2.2
  refine ⟨_, _, rfl, l296.1.2.2.2.2.2.1, rfl, j_vp (by omega) (by rw [lsv299]; omega), fun v299 ev299 => ?_⟩
  conv => whnf
  obtain ⟨ρ303, w302⟩ := l296.1.2.1
  refine ⟨w302.km, rfl, _, _, _, _, _, _, c_Mo_wider w302, ⟨Nat.le_of_ble_eq_true rfl, Nat.le_of_ble_eq_true rfl, by (try dsimp only); omega, by (try dsimp only); omega⟩, fun _ _ z => False.elim z, ?_⟩
  rintro v9 H300 ⟨st9, r9, rfl⟩
  have l301 := l296.mf w302 st9
  exact j_use hF (back _ _ _ l301 (by omega) (by omega)) (And.intro rfl (And.intro rfl (And.intro rfl (And.intro rfl (And.intro rfl trivial)))))
set_option maxHeartbeats 4000000 in
set_option maxRecDepth 20000 in
theorem j_turn23 {J : j_J} {L sc x m out P G R Q cn sn : Nat} {i : Int32} {h : j_H} (hJ : j_Cl k_law j_lF j_lP j_no J) (hF : j_Fg J) (hL : L ≤ 2560) (i0 : 0 ≤ i.toInt) (i1 : i.toInt + 5 ≤ (L : Int)) (hc : cn ≤ 500000) (hs : sn ≤ 6000000) (lw : j_LW L sc x m out P G R Q h) (back : ∀ (h' : j_H) (cn' sn' : Nat), j_LW L sc x m out P G R Q h' → cn' ≤ cn + 200 → sn' ≤ sn + 2000 → J 1161 [some (j_r (some sc)), some (j_r (some x)), some (j_r (some m)), some (j_r (some out)), some (j_i i), none, none] [] h' cn' sn') : J 1135 [some (j_r (some sc)), some (j_r (some x)), some (j_r (some m)), some (j_r (some out)), some (j_i i), none, none] [] h cn sn := by
  have q1 : (i + Int32.ofInt (1)).toInt = i.toInt + 1 := j_inc1 (by omega)
  have q2 : (i + Int32.ofInt (2)).toInt = i.toInt + 2 := j_i2 i0 (by omega)
  have q3 : (i + Int32.ofInt (3)).toInt = i.toInt + 3 := j_i3 i0 (by omega)
  have q4 : (i + Int32.ofInt (4)).toInt = i.toInt + 4 := j_i4 i0 (by omega)
  refine hJ [1161] 400 _ _ _ _ _ _ ?_
  conv => whnf
  refine ⟨lw.1.1.1, rfl, _, _, _, _, _, _, c_G_isSound (h := h) lw.1.1 j_Sc.rf, ⟨Nat.le_of_ble_eq_true rfl, Nat.le_of_ble_eq_true rfl, by (try dsimp only); omega, by (try dsimp only); omega⟩, fun _ _ z => False.elim z, ?_⟩
  rintro v9 H304 ⟨it306, e9, s9, r9, rfl, -⟩
  have fr9 : j_Fr x h H304 := by rw [e9]; exact j_Fr.sc lw.1.1 s9 j_sf_ok j_sf8
  have l305 := (lw.fo fr9.fo).1
  conv => whnf
  obtain ⟨ρ310, w309⟩ := l305.1.2.1
  refine ⟨w309.km, rfl, _, _, _, _, _, _, c_Mo_isSound w309, ⟨Nat.le_of_ble_eq_true rfl, Nat.le_of_ble_eq_true rfl, by (try dsimp only); omega, by (try dsimp only); omega⟩, fun _ _ z => False.elim z, ?_⟩
  rintro v9 H307 ⟨st9, r9, rfl, -⟩
  have l308 := l305.mf w309 st9
  exact j_use hF (back _ _ _ l308 (by omega) (by omega)) (And.intro rfl (And.intro rfl (And.intro rfl (And.intro rfl (And.intro rfl trivial)))))
set_option maxHeartbeats 4000000 in
set_option maxRecDepth 20000 in
theorem j_turn24 {J : j_J} {L sc x m out P G R Q cn sn : Nat} {i : Int32} {h : j_H} (hJ : j_Cl k_law j_lF j_lP j_no J) (hF : j_Fg J) (hL : L ≤ 2560) (i0 : 0 ≤ i.toInt) (i1 : i.toInt + 5 ≤ (L : Int)) (hc : cn ≤ 500000) (hs : sn ≤ 6000000) (lw : j_LW L sc x m out P G R Q h) (back : ∀ (h' : j_H) (cn' sn' : Nat), j_LW L sc x m out P G R Q h' → cn' ≤ cn + 200 → sn' ≤ sn + 2000 → J 1161 [some (j_r (some sc)), some (j_r (some x)), some (j_r (some m)), some (j_r (some out)), some (j_i i), none, none] [] h' cn' sn') : J 1148 [some (j_r (some sc)), some (j_r (some x)), some (j_r (some m)), some (j_r (some out)), some (j_i i), none, none] [] h cn sn := by
  have q1 : (i + Int32.ofInt (1)).toInt = i.toInt + 1 := j_inc1 (by omega)
  have q2 : (i + Int32.ofInt (2)).toInt = i.toInt + 2 := j_i2 i0 (by omega)
  have q3 : (i + Int32.ofInt (3)).toInt = i.toInt + 3 := j_i3 i0 (by omega)
  have q4 : (i + Int32.ofInt (4)).toInt = i.toInt + 4 := j_i4 i0 (by omega)
  refine hJ [1161] 400 _ _ _ _ _ _ ?_
  conv => whnf
  refine ⟨lw.1.1.1, rfl, _, _, _, _, _, _, c_G_digest (h := h) lw.1.1 j_Sc.rf, ⟨Nat.le_of_ble_eq_true rfl, Nat.le_of_ble_eq_true rfl, by (try dsimp only); omega, by (try dsimp only); omega⟩, fun _ _ z => False.elim z, ?_⟩
  rintro v9 H311 ⟨it313, e9, s9, r9, rfl⟩
  have fr9 : j_Fr x h H311 := by rw [e9]; exact j_Fr.sc lw.1.1 s9 j_sf_ok j_sf8
  have l312 := (lw.fo fr9.fo).1
  conv => whnf
  obtain ⟨ρ317, w316⟩ := l312.1.2.1
  refine ⟨w316.km, rfl, _, _, _, _, _, _, c_Mo_digest w316, ⟨Nat.le_of_ble_eq_true rfl, Nat.le_of_ble_eq_true rfl, by (try dsimp only); omega, by (try dsimp only); omega⟩, fun _ _ z => False.elim z, ?_⟩
  rintro v9 H314 ⟨st9, r9, rfl⟩
  have l315 := l312.mf w316 st9
  exact j_use hF (back _ _ _ l315 (by omega) (by omega)) (And.intro rfl (And.intro rfl (And.intro rfl (And.intro rfl (And.intro rfl trivial)))))
set_option maxHeartbeats 4000000 in
set_option maxRecDepth 20000 in
theorem j_lawloop {J : j_J} {L sc x m out P G R Q : Nat} (hJ : j_Cl k_law j_lF j_lP j_no J) (hF : j_Fg J) (hL : L ≤ 2560) : ∀ (k : Nat) (i : Int32) (h : j_H) (cn sn : Nat), j_LW L sc x m out P G R Q h → 0 ≤ i.toInt → i.toInt ≤ (L : Int) → ((L : Int) + 5 - i.toInt) < (k : Int) → cn ≤ 100 + 40 * i.toInt.toNat → sn ≤ 1000 + 400 * i.toInt.toNat → J 27 [some (j_r (some sc)), some (j_r (some x)), some (j_r (some m)), some (j_r (some out)), some (j_i i), none, none] [] h cn sn := by
  intro k
  induction k with
  | zero => intro i h cn sn lw i0 i1 hk hc hs; omega
  | succ k ih =>
    intro i h cn sn lw i0 i1 hk hc hs
    have q5 : (Int32.ofInt 5).toInt = 5 := by decide
    have ls : j_ln h sc = L := lw.1.2.2.2.2.2.2
    have hn : (nI (j_ln h sc)).toInt = (L : Int) := by rw [ls]; exact nI_toInt (by omega)
    have hs5 : (nI (j_ln h sc) - Int32.ofInt 5).toInt = (L : Int) - 5 := by rw [j_subI (by rw [hn, q5]; omega) (by rw [hn, q5]; omega), hn, q5]
    refine hJ [156, 208, 236, 276, 316, 356, 413, 477, 505, 545, 585, 625, 665, 717, 773, 813, 841, 869, 921, 1001, 1014, 1055, 1095, 1135, 1148, 1161] 400 _ _ _ _ _ _ ?_
    conv => whnf
    refine ⟨_, _, rfl, lw.1.2.2.2.2.2.1, ?_⟩
    conv => whnf
    refine ⟨fun c => ?_, fun c => ?_⟩
    · conv => whnf
      exact ⟨Or.inr rfl, ⟨by (try dsimp only); omega, by (try dsimp only); omega⟩, rfl⟩
    have c : ¬ (nI (j_ln h sc) - Int32.ofInt 5).toInt < i.toInt := c
    rw [hs5] at c
    have back : ∀ (h' : j_H) (cn' sn' : Nat), j_LW L sc x m out P G R Q h' → cn' ≤ cn + 200 → sn' ≤ sn + 2000 → J 1161 [some (j_r (some sc)), some (j_r (some x)), some (j_r (some m)), some (j_r (some out)), some (j_i i), none, none] [] h' cn' sn' := by
      intro h' cn' sn' lw' hc' hs'
      have t : (i + Int32.ofInt (5)).toInt = i.toInt + 5 := j_i5 i0 (by omega)
      refine hJ [27] 400 _ _ _ _ _ _ ?_
      conv => whnf
      exact j_use hF (ih (i + Int32.ofInt (5)) h' cn' sn' lw' (by omega) (by omega) (by omega) (by omega) (by omega)) (And.intro rfl (And.intro rfl (And.intro rfl (And.intro rfl (And.intro rfl trivial)))))
    conv => whnf
    refine ⟨_, _, rfl, lw.1.2.2.2.2.2.1, rfl, j_vp (by omega) (by omega), fun v _ => ?_⟩
    conv => whnf
    refine ⟨And.intro (fun _ => ?_) (And.intro (fun _ => ?_) (And.intro (fun _ => ?_) (And.intro (fun _ => ?_) (And.intro (fun _ => ?_) (And.intro (fun _ => ?_) (And.intro (fun _ => ?_) (And.intro (fun _ => ?_) (And.intro (fun _ => ?_) (And.intro (fun _ => ?_) (And.intro (fun _ => ?_) (And.intro (fun _ => ?_) (And.intro (fun _ => ?_) (And.intro (fun _ => ?_) (And.intro (fun _ => ?_) (And.intro (fun _ => ?_) (And.intro (fun _ => ?_) (And.intro (fun _ => ?_) (And.intro (fun _ => ?_) (And.intro (fun _ => ?_) (And.intro (fun _ => ?_) (And.intro (fun _ => ?_) (And.intro (fun _ => ?_) (And.intro (fun _ => ?_) (And.intro (fun _ => ?_) (trivial))))))))))))))))))))))))), fun _ => ?_⟩
    · exact j_use hF (j_turn0 hJ hF hL i0 (by omega) (by omega) (by omega) lw back) (And.intro rfl (And.intro rfl (And.intro rfl (And.intro rfl (And.intro rfl trivial)))))
    · exact j_use hF (j_turn1 hJ hF hL i0 (by omega) (by omega) (by omega) lw back) (And.intro rfl (And.intro rfl (And.intro rfl (And.intro rfl (And.intro rfl trivial)))))
    · exact j_use hF (j_turn2 hJ hF hL i0 (by omega) (by omega) (by omega) lw back) (And.intro rfl (And.intro rfl (And.intro rfl (And.intro rfl (And.intro rfl trivial)))))
    · exact j_use hF (j_turn3 hJ hF hL i0 (by omega) (by omega) (by omega) lw back) (And.intro rfl (And.intro rfl (And.intro rfl (And.intro rfl (And.intro rfl trivial)))))
    · exact j_use hF (j_turn4 hJ hF hL i0 (by omega) (by omega) (by omega) lw back) (And.intro rfl (And.intro rfl (And.intro rfl (And.intro rfl (And.intro rfl trivial)))))
    · exact j_use hF (j_turn5 hJ hF hL i0 (by omega) (by omega) (by omega) lw back) (And.intro rfl (And.intro rfl (And.intro rfl (And.intro rfl (And.intro rfl trivial)))))
    · exact j_use hF (j_turn6 hJ hF hL i0 (by omega) (by omega) (by omega) lw back) (And.intro rfl (And.intro rfl (And.intro rfl (And.intro rfl (And.intro rfl trivial)))))
    · exact j_use hF (j_turn7 hJ hF hL i0 (by omega) (by omega) (by omega) lw back) (And.intro rfl (And.intro rfl (And.intro rfl (And.intro rfl (And.intro rfl trivial)))))
    · exact j_use hF (j_turn8 hJ hF hL i0 (by omega) (by omega) (by omega) lw back) (And.intro rfl (And.intro rfl (And.intro rfl (And.intro rfl (And.intro rfl trivial)))))
    · exact j_use hF (j_turn9 hJ hF hL i0 (by omega) (by omega) (by omega) lw back) (And.intro rfl (And.intro rfl (And.intro rfl (And.intro rfl (And.intro rfl trivial)))))
    · exact j_use hF (j_turn10 hJ hF hL i0 (by omega) (by omega) (by omega) lw back) (And.intro rfl (And.intro rfl (And.intro rfl (And.intro rfl (And.intro rfl trivial)))))
    · exact j_use hF (j_turn11 hJ hF hL i0 (by omega) (by omega) (by omega) lw back) (And.intro rfl (And.intro rfl (And.intro rfl (And.intro rfl (And.intro rfl trivial)))))
    · exact j_use hF (j_turn12 hJ hF hL i0 (by omega) (by omega) (by omega) lw back) (And.intro rfl (And.intro rfl (And.intro rfl (And.intro rfl (And.intro rfl trivial)))))
    · exact j_use hF (j_turn13 hJ hF hL i0 (by omega) (by omega) (by omega) lw back) (And.intro rfl (And.intro rfl (And.intro rfl (And.intro rfl (And.intro rfl trivial)))))
    · exact j_use hF (j_turn14 hJ hF hL i0 (by omega) (by omega) (by omega) lw back) (And.intro rfl (And.intro rfl (And.intro rfl (And.intro rfl (And.intro rfl trivial)))))
    · exact j_use hF (j_turn15 hJ hF hL i0 (by omega) (by omega) (by omega) lw back) (And.intro rfl (And.intro rfl (And.intro rfl (And.intro rfl (And.intro rfl trivial)))))
    · exact j_use hF (j_turn16 hJ hF hL i0 (by omega) (by omega) (by omega) lw back) (And.intro rfl (And.intro rfl (And.intro rfl (And.intro rfl (And.intro rfl trivial)))))
    · exact j_use hF (j_turn17 hJ hF hL i0 (by omega) (by omega) (by omega) lw back) (And.intro rfl (And.intro rfl (And.intro rfl (And.intro rfl (And.intro rfl trivial)))))
    · exact j_use hF (j_turn18 hJ hF hL i0 (by omega) (by omega) (by omega) lw back) (And.intro rfl (And.intro rfl (And.intro rfl (And.intro rfl (And.intro rfl trivial)))))
    · exact j_use hF (j_turn19 hJ hF hL i0 (by omega) (by omega) (by omega) lw back) (And.intro rfl (And.intro rfl (And.intro rfl (And.intro rfl (And.intro rfl trivial)))))
    · exact j_use hF (j_turn20 hJ hF hL i0 (by omega) (by omega) (by omega) lw back) (And.intro rfl (And.intro rfl (And.intro rfl (And.intro rfl (And.intro rfl trivial)))))
    · exact j_use hF (j_turn21 hJ hF hL i0 (by omega) (by omega) (by omega) lw back) (And.intro rfl (And.intro rfl (And.intro rfl (And.intro rfl (And.intro rfl trivial)))))
    · exact j_use hF (j_turn22 hJ hF hL i0 (by omega) (by omega) (by omega) lw back) (And.intro rfl (And.intro rfl (And.intro rfl (And.intro rfl (And.intro rfl trivial)))))
    · exact j_use hF (j_turn23 hJ hF hL i0 (by omega) (by omega) (by omega) lw back) (And.intro rfl (And.intro rfl (And.intro rfl (And.intro rfl (And.intro rfl trivial)))))
    · exact j_use hF (j_turn24 hJ hF hL i0 (by omega) (by omega) (by omega) lw back) (And.intro rfl (And.intro rfl (And.intro rfl (And.intro rfl (And.intro rfl trivial)))))
    · exact j_use hF (back h cn sn lw (by omega) (by omega)) (And.intro rfl (And.intro rfl (And.intro rfl (And.intro rfl (And.intro rfl trivial)))))
