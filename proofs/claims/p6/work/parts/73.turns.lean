/-! the law's turns, one by one -/
theorem j_i2 {i : Int32} (h0 : 0 ≤ i.toInt) (h1 : i.toInt ≤ 100000) : (i + Int32.ofInt (2)).toInt = i.toInt + 2 := by
  have e : (Int32.ofInt (2)).toInt = 2 := by decide
  rw [j_addI (by omega) (by omega), e]
theorem j_i3 {i : Int32} (h0 : 0 ≤ i.toInt) (h1 : i.toInt ≤ 100000) : (i + Int32.ofInt (3)).toInt = i.toInt + 3 := by
  have e : (Int32.ofInt (3)).toInt = 3 := by decide
  rw [j_addI (by omega) (by omega), e]
theorem j_i4 {i : Int32} (h0 : 0 ≤ i.toInt) (h1 : i.toInt ≤ 100000) : (i + Int32.ofInt (4)).toInt = i.toInt + 4 := by
  have e : (Int32.ofInt (4)).toInt = 4 := by decide
  rw [j_addI (by omega) (by omega), e]
theorem j_i5 {i : Int32} (h0 : 0 ≤ i.toInt) (h1 : i.toInt ≤ 100000) : (i + Int32.ofInt (5)).toInt = i.toInt + 5 := by
  have e : (Int32.ofInt (5)).toInt = 5 := by decide
  rw [j_addI (by omega) (by omega), e]
abbrev j_lF : j_F := (7, some .boolean, 2048, 84000, 601024, 7293034)
def j_lP : Option j_V → j_H → Prop := fun v _ => v = some (j_i (Int32.ofInt 1))
/-- a pace told: the model's cells -/
theorem j_MX.putP {ρ : Nat → Nat} {h : j_H} {m P G R Q i : Nat} {a : Int32} (w : j_MX ρ h m P G R Q) (ha : a ≠ 0) : j_MX ρ (j_ui h P i a) m P G R Q := by
  have ne : ∀ q s, j_kd h q = some s → (s ≠ .inr 0 ∨ ρ q ≠ 1) → ∀ k, j_it (j_ui h P i a) q k = j_it h q k := fun q s hq hs k => (j_up_ne h (j_i a) (fun z => by
    rcases hs with hs | hs
    · rw [z, w.kP] at hq; exact hs (Option.some.inj hq).symm
    · exact hs (by rw [z]; exact w.rP)) k).1
  have lk : ∀ L kk M, j_LK h L kk M → j_LK (j_ui h P i a) L kk M := fun L kk M l => by
    obtain ⟨kL, b0, b1, arr, t, f1, f2, f3, f4, f5, f6⟩ := l
    have i2 := ne L _ kL (Or.inl (fun z => nomatch z)) 2
    exact ⟨kL, by rw [i2]; exact b0, by rw [i2]; exact b1, arr, t, f1, f2, f3, by rw [i2]; exact f4, f5, fun j hj => f6 j (by rw [i2] at hj; exact hj)⟩
  have el : ∀ {L kk M}, j_LK h L kk M → ∀ arr, j_rf h L 1 = some arr → ∀ j e : Nat, (j : Int) < (j_it h L 2).toInt → j_rf h arr j = some e → j_kd h e = some kk := fun {L kk M} l a ha j e hj he => by
    obtain ⟨kL, b0, b1, arr, t, f1, f2, f3, f4, f5, f6⟩ := l
    obtain rfl : arr = a := Option.some.inj (f1.symm.trans ha)
    obtain ⟨y, y1, y2⟩ := f6 j hj
    obtain rfl : y = e := Option.some.inj (y1.symm.trans he)
    exact y2
  have iG := ne G _ w.lG.1 (Or.inl (fun z => nomatch z)) 2
  have iR := ne R _ w.lR.1 (Or.inl (fun z => nomatch z)) 2
  have iQ := ne Q _ w.lQ.1 (Or.inl (fun z => nomatch z)) 2
  refine ⟨w.km, ⟨w.eP, w.kP, w.nP, w.rP, fun k hk => ?_⟩, ⟨w.eG, lk _ _ _ w.lG⟩, ⟨w.eR, lk _ _ _ w.lR⟩, ⟨w.eQ, lk _ _ _ w.lQ⟩, w.ap, ?_, ?_, ?_, w.rz⟩
  · by_cases e : k = i
    · rw [e, show j_it (j_ui h P i a) P i = a from j_u_at]; exact ha
    · rw [show j_it (j_ui h P i a) P k = j_it h P k from j_u_nk e]; exact w.zP k hk
  · intro arr a1 j e hj a2
    rw [iG] at hj
    exact w.aG arr a1 j e hj a2
  · intro arr a1 j e hj a2
    rw [iR] at hj
    have ke := el w.lR arr a1 j e hj a2
    unfold j_rA
    rw [ne e _ ke (Or.inl (fun z => nomatch z)) 1]
    exact w.aR arr a1 j e hj a2
  · intro arr a1 j e hj a2
    rw [iQ] at hj
    have ke := el w.lQ arr a1 j e hj a2
    obtain ⟨g1, g2, g3, g4, g5⟩ := w.aQ arr a1 j e hj a2
    have n := ne e _ ke (Or.inr (by rw [g1]; decide))
    exact ⟨g1, g2, by rw [n 0]; exact g3, by rw [n 0, iR]; exact g4, by rw [n 2]; exact g5⟩
theorem j_pf34 (a : Int32) : (a.toInt = 0 ∧ j_pf a = 3) ∨ (a.toInt ≠ 0 ∧ j_pf a = 4) := by
  unfold j_pf
  by_cases z : a.toInt = 0
  · exact Or.inl ⟨z, if_pos z⟩
  · exact Or.inr ⟨z, if_neg z⟩
/-- what the class's pace leaves -/
theorem j_L0.pacex {L sc x m out P G R Q n : Nat} {h : j_H} {a : Int32} {b : Int64} {it' : Nat → Nat → Int32} (l : j_L0 L sc x m out P G R Q h) (hn : n = 3 ∨ n = 4) (s : j_Sc j_sm (j_up h x n (j_i a)) it') : j_L0 L sc x m out P G R Q (j_up (j_wi (j_up h x n (j_i a)) it') out 0 (j_l b)) ∧ (∀ k, j_it (j_up (j_wi (j_up h x n (j_i a)) it') out 0 (j_l b)) sc k = j_it h sc k) ∧ (∀ k, j_it (j_up (j_wi (j_up h x n (j_i a)) it') out 0 (j_l b)) P k = j_it h P k) ∧ (∀ k, (k = 3 ∨ k = 4) → j_it (j_up (j_wi (j_up h x n (j_i a)) it') out 0 (j_l b)) x k = if k = n then a else j_it h x k) ∧ j_lg (j_up (j_wi (j_up h x n (j_i a)) it') out 0 (j_l b)) out 0 = b := by
  obtain ⟨w, mx, ko, sa, dj, ks, ls⟩ := id l
  have w1 : j_WF (j_up h x n (j_i a)) x := by
    have s : j_Sc (fun c k => Nat.beq c 8 && Nat.beq k n) h (j_u (j_it h) x n a) := j_Sc.rf.put w.1 (by
      show (Nat.beq 8 8 && Nat.beq n n) = true
      rcases hn with rfl | rfl <;> rfl)
    exact w.sc s ⟨fun _ => rfl, rfl⟩
  have o : j_On (fun q => j_ow h x q ∨ q = out) h (j_up h x n (j_i a)) := j_On.up (Or.inl (Or.inl ⟨8, w.1, by decide, by decide⟩))
  obtain ⟨c1, c2, c3⟩ := l.cls w1 o (fun q hq _ => by
    rcases hq with ⟨c, h1, h2⟩ | ⟨k, L, hk, h1, h2⟩
    · exact Or.inl ⟨c, h1, h2⟩
    · exact Or.inr ⟨k, L, hk, h1, h2⟩)
  have fr : j_Fr x (j_up h x n (j_i a)) (j_wi (j_up h x n (j_i a)) it') := j_Fr.sc w1 s j_sm_ok j_sm8
  have fo : j_Fo x out (j_up h x n (j_i a)) (j_up (j_wi (j_up h x n (j_i a)) it') out 0 (j_l b)) := fr.out ko
  obtain ⟨d1, d2, d3⟩ := c1.cls fo.1 fo.2.1 fo.2.2.1
  refine ⟨d1, fun k => (d2 k).trans (c2 k), fun k => (d3 k).trans (c3 k), fun k hk => ?_, ?_⟩
  · have hw : j_wk k = true := by rcases hk with rfl | rfl <;> rfl
    rw [fo.2.2.2 k hw]
    by_cases e : k = n
    · rw [if_pos e, e]
      exact j_upi
    · rw [if_neg e]
      exact j_upm e
  · show j_u _ out 0 b out 0 = b
    exact j_u_at
/-- what the model's pace leaves -/
theorem j_L0.pacem {L sc x m out P G R Q i : Nat} {h : j_H} {a b : Int32} (l : j_L0 L sc x m out P G R Q h) (ha : a ≠ 0) : j_L0 L sc x m out P G R Q (j_ui (j_up h m 0 (j_i b)) P i a) ∧ (∀ k, j_it (j_ui (j_up h m 0 (j_i b)) P i a) x k = j_it h x k) ∧ (∀ k, j_lg (j_ui (j_up h m 0 (j_i b)) P i a) out k = j_lg h out k) ∧ (∀ k, j_it (j_ui (j_up h m 0 (j_i b)) P i a) P k = if k = i then a else j_it h P k) ∧ j_it (j_ui (j_up h m 0 (j_i b)) P i a) m 0 = b := by
  obtain ⟨w, ⟨ρ, mx⟩, ko, sa, dj, ks, ls⟩ := id l
  have f1 : j_Mf ρ m h (j_up h m 0 (j_i b)) := j_Mf.fi mx.km (by decide)
  have hm : j_mi h m := Or.inl ⟨12, mx.km, by decide⟩
  have nP : P ≠ m := fun z => by have := mx.kP; rw [z, mx.km] at this; cases this
  obtain ⟨c1, -, c3, c4⟩ := l.mod (h1 := j_ui (j_up h m 0 (j_i b)) P i a) ⟨ρ, (mx.f f1).putP ha⟩ ((j_On.up (Or.inl hm)).trans (j_On.up (v := j_i a) (Or.inl (Or.inr mx.kP)))) (fun q hq _ => hq) (fun q c hq _ _ => hq)
  refine ⟨c1, c3, c4, fun k => ?_, ?_⟩
  · by_cases e : k = i
    · rw [if_pos e, e]
      exact j_u_at
    · rw [if_neg e, show j_it (j_ui (j_up h m 0 (j_i b)) P i a) P k = j_it (j_up h m 0 (j_i b)) P k from j_u_nk e]
      exact (j_up_ne h (j_i b) nP k).1
  · rw [show j_it (j_ui (j_up h m 0 (j_i b)) P i a) m 0 = j_it (j_up h m 0 (j_i b)) m 0 from (j_up_ne (j_up h m 0 (j_i b)) (j_i a) (fun z => nP z.symm) 0).1]
    exact j_upi
theorem j_cmp0 (x : Int64) : (lg_cmp x x).toInt = 0 := by
  have e : lg_cmp x x = 0 := by
    unfold lg_cmp
    simp
  rw [e]
  decide
set_option maxHeartbeats 4000000 in
set_option maxRecDepth 20000 in
theorem j_turn0 {J : j_J} {L sc x m out P G R Q cn sn : Nat} {i : Int32} {h : j_H} (hJ : j_Cl k_law j_lF j_lP j_no J) (hF : j_Fg J) (hL : L ≤ 2560) (i0 : 0 ≤ i.toInt) (i1 : i.toInt + 5 ≤ (L : Int)) (hc : cn ≤ 500000) (hs : sn ≤ 6000000) (lw : j_LW L sc x m out P G R Q h) (back : ∀ (h' : j_H) (cn' sn' : Nat), j_LW L sc x m out P G R Q h' → cn' ≤ cn + 200 → sn' ≤ sn + 2000 → J 1161 [some (j_r (some sc)), some (j_r (some x)), some (j_r (some m)), some (j_r (some out)), some (j_i i), none, none] [] h' cn' sn') : J 156 [some (j_r (some sc)), some (j_r (some x)), some (j_r (some m)), some (j_r (some out)), some (j_i i), none, none] [] h cn sn := by
  have q1 : (i + Int32.ofInt (1)).toInt = i.toInt + 1 := j_inc1 (by omega)
  have q2 : (i + Int32.ofInt (2)).toInt = i.toInt + 2 := j_i2 i0 (by omega)
  have q3 : (i + Int32.ofInt (3)).toInt = i.toInt + 3 := j_i3 i0 (by omega)
  have q4 : (i + Int32.ofInt (4)).toInt = i.toInt + 4 := j_i4 i0 (by omega)
  refine hJ [1161] 400 _ _ _ _ _ _ ?_
  conv => whnf
  have lsv1 : j_ln h sc = L := lw.1.2.2.2.2.2.2
  refine ⟨_, _, rfl, lw.1.2.2.2.2.2.1, rfl, j_vp (by omega) (by rw [lsv1]; omega), fun v1 ev1 => ?_⟩
  conv => whnf
  have lsv2 : j_ln h sc = L := lw.1.2.2.2.2.2.2
  refine ⟨_, _, rfl, lw.1.2.2.2.2.2.1, rfl, j_vp (by omega) (by rw [lsv2]; omega), fun v2 ev2 => ?_⟩
  conv => whnf
  have lsv3 : j_ln h sc = L := lw.1.2.2.2.2.2.2
  refine ⟨_, _, rfl, lw.1.2.2.2.2.2.1, rfl, j_vp (by omega) (by rw [lsv3]; omega), fun v3 ev3 => ?_⟩
  conv => whnf
  refine ⟨rfl, _, _, _, _, _, _, c_Lw_grain lw.1.1 lw.1.2.2.1, ⟨Nat.le_of_ble_eq_true rfl, Nat.le_of_ble_eq_true rfl, by (try dsimp only); omega, by (try dsimp only); omega⟩, fun _ _ z => False.elim z, ?_⟩
  rintro v9 H4 ⟨⟨r6, rfl⟩, fo⟩
  have l5 := (lw.fo fo).1
  conv => whnf
  have lsv7 : j_ln H4 sc = L := l5.1.2.2.2.2.2.2
  refine ⟨_, _, rfl, l5.1.2.2.2.2.2.1, rfl, j_vp (by omega) (by rw [lsv7]; omega), fun v7 ev7 => ?_⟩
  conv => whnf
  have lsv8 : j_ln H4 sc = L := l5.1.2.2.2.2.2.2
  refine ⟨_, _, rfl, l5.1.2.2.2.2.2.1, rfl, j_vp (by omega) (by rw [lsv8]; omega), fun v8 ev8 => ?_⟩
  conv => whnf
  have lsv9 : j_ln H4 sc = L := l5.1.2.2.2.2.2.2
  refine ⟨_, _, rfl, l5.1.2.2.2.2.2.1, rfl, j_vp (by omega) (by rw [lsv9]; omega), fun v9 ev9 => ?_⟩
  conv => whnf
  obtain ⟨ρ13, w12⟩ := l5.1.2.1
  refine ⟨w12.km, rfl, _, _, _, _, _, _, c_Mo_grain w12, ⟨Nat.le_of_ble_eq_true rfl, Nat.le_of_ble_eq_true rfl, by (try dsimp only); omega, by (try dsimp only); omega⟩, fun _ _ z => False.elim z, ?_⟩
  rintro v9 H10 ⟨w9, g9, r9, rfl⟩
  have l11 := l5.mg w9 g9
  exact j_use hF (back _ _ _ l11 (by omega) (by omega)) (And.intro rfl (And.intro rfl (And.intro rfl (And.intro rfl (And.intro rfl trivial)))))
set_option maxHeartbeats 4000000 in
set_option maxRecDepth 20000 in
theorem j_turn1 {J : j_J} {L sc x m out P G R Q cn sn : Nat} {i : Int32} {h : j_H} (hJ : j_Cl k_law j_lF j_lP j_no J) (hF : j_Fg J) (hL : L ≤ 2560) (i0 : 0 ≤ i.toInt) (i1 : i.toInt + 5 ≤ (L : Int)) (hc : cn ≤ 500000) (hs : sn ≤ 6000000) (lw : j_LW L sc x m out P G R Q h) (back : ∀ (h' : j_H) (cn' sn' : Nat), j_LW L sc x m out P G R Q h' → cn' ≤ cn + 200 → sn' ≤ sn + 2000 → J 1161 [some (j_r (some sc)), some (j_r (some x)), some (j_r (some m)), some (j_r (some out)), some (j_i i), none, none] [] h' cn' sn') : J 208 [some (j_r (some sc)), some (j_r (some x)), some (j_r (some m)), some (j_r (some out)), some (j_i i), none, none] [] h cn sn := by
  have q1 : (i + Int32.ofInt (1)).toInt = i.toInt + 1 := j_inc1 (by omega)
  have q2 : (i + Int32.ofInt (2)).toInt = i.toInt + 2 := j_i2 i0 (by omega)
  have q3 : (i + Int32.ofInt (3)).toInt = i.toInt + 3 := j_i3 i0 (by omega)
  have q4 : (i + Int32.ofInt (4)).toInt = i.toInt + 4 := j_i4 i0 (by omega)
  refine hJ [1161] 400 _ _ _ _ _ _ ?_
  conv => whnf
  have lsv14 : j_ln h sc = L := lw.1.2.2.2.2.2.2
  refine ⟨_, _, rfl, lw.1.2.2.2.2.2.1, rfl, j_vp (by omega) (by rw [lsv14]; omega), fun v14 ev14 => ?_⟩
  conv => whnf
  refine ⟨rfl, _, _, _, _, _, _, c_Lw_pass lw.1.1 lw.1.2.2.1, ⟨Nat.le_of_ble_eq_true rfl, Nat.le_of_ble_eq_true rfl, by (try dsimp only); omega, by (try dsimp only); omega⟩, fun _ _ z => False.elim z, ?_⟩
  rintro v9 H15 ⟨⟨r17, rfl⟩, fo⟩
  have l16 := (lw.fo fo).1
  conv => whnf
  have lsv18 : j_ln H15 sc = L := l16.1.2.2.2.2.2.2
  refine ⟨_, _, rfl, l16.1.2.2.2.2.2.1, rfl, j_vp (by omega) (by rw [lsv18]; omega), fun v18 ev18 => ?_⟩
  conv => whnf
  obtain ⟨ρ22, w21⟩ := l16.1.2.1
  refine ⟨w21.km, rfl, _, _, _, _, _, _, c_Mo_pass w21, ⟨Nat.le_of_ble_eq_true rfl, Nat.le_of_ble_eq_true rfl, by (try dsimp only); omega, by (try dsimp only); omega⟩, fun _ _ z => False.elim z, ?_⟩
  rintro v9 H19 ⟨st9, r9, rfl⟩
  have l20 := l16.mf w21 st9
  exact j_use hF (back _ _ _ l20 (by omega) (by omega)) (And.intro rfl (And.intro rfl (And.intro rfl (And.intro rfl (And.intro rfl trivial)))))
set_option maxHeartbeats 4000000 in
set_option maxRecDepth 20000 in
theorem j_turn2 {J : j_J} {L sc x m out P G R Q cn sn : Nat} {i : Int32} {h : j_H} (hJ : j_Cl k_law j_lF j_lP j_no J) (hF : j_Fg J) (hL : L ≤ 2560) (i0 : 0 ≤ i.toInt) (i1 : i.toInt + 5 ≤ (L : Int)) (hc : cn ≤ 500000) (hs : sn ≤ 6000000) (lw : j_LW L sc x m out P G R Q h) (back : ∀ (h' : j_H) (cn' sn' : Nat), j_LW L sc x m out P G R Q h' → cn' ≤ cn + 200 → sn' ≤ sn + 2000 → J 1161 [some (j_r (some sc)), some (j_r (some x)), some (j_r (some m)), some (j_r (some out)), some (j_i i), none, none] [] h' cn' sn') : J 236 [some (j_r (some sc)), some (j_r (some x)), some (j_r (some m)), some (j_r (some out)), some (j_i i), none, none] [] h cn sn := by
  have q1 : (i + Int32.ofInt (1)).toInt = i.toInt + 1 := j_inc1 (by omega)
  have q2 : (i + Int32.ofInt (2)).toInt = i.toInt + 2 := j_i2 i0 (by omega)
  have q3 : (i + Int32.ofInt (3)).toInt = i.toInt + 3 := j_i3 i0 (by omega)
  have q4 : (i + Int32.ofInt (4)).toInt = i.toInt + 4 := j_i4 i0 (by omega)
  refine hJ [1161] 400 _ _ _ _ _ _ ?_
  conv => whnf
  have lsv23 : j_ln h sc = L := lw.1.2.2.2.2.2.2
  refine ⟨_, _, rfl, lw.1.2.2.2.2.2.1, rfl, j_vp (by omega) (by rw [lsv23]; omega), fun v23 ev23 => ?_⟩
  conv => whnf
  have lsv24 : j_ln h sc = L := lw.1.2.2.2.2.2.2
  refine ⟨_, _, rfl, lw.1.2.2.2.2.2.1, rfl, j_vp (by omega) (by rw [lsv24]; omega), fun v24 ev24 => ?_⟩
  conv => whnf
  refine ⟨rfl, _, _, _, _, _, _, c_Lw_heat lw.1.1 lw.1.2.2.1, ⟨Nat.le_of_ble_eq_true rfl, Nat.le_of_ble_eq_true rfl, by (try dsimp only); omega, by (try dsimp only); omega⟩, fun _ _ z => False.elim z, ?_⟩
  rintro v9 H25 ⟨⟨r27, rfl⟩, fo⟩
  have l26 := (lw.fo fo).1
  conv => whnf
  have lsv28 : j_ln H25 sc = L := l26.1.2.2.2.2.2.2
  refine ⟨_, _, rfl, l26.1.2.2.2.2.2.1, rfl, j_vp (by omega) (by rw [lsv28]; omega), fun v28 ev28 => ?_⟩
  conv => whnf
  have lsv29 : j_ln H25 sc = L := l26.1.2.2.2.2.2.2
  refine ⟨_, _, rfl, l26.1.2.2.2.2.2.1, rfl, j_vp (by omega) (by rw [lsv29]; omega), fun v29 ev29 => ?_⟩
  conv => whnf
  obtain ⟨ρ33, w32⟩ := l26.1.2.1
  refine ⟨w32.km, rfl, _, _, _, _, _, _, c_Mo_heat w32, ⟨Nat.le_of_ble_eq_true rfl, Nat.le_of_ble_eq_true rfl, by (try dsimp only); omega, by (try dsimp only); omega⟩, fun _ _ z => False.elim z, ?_⟩
  rintro v9 H30 ⟨st9, r9, rfl⟩
  have l31 := l26.mf w32 st9
  exact j_use hF (back _ _ _ l31 (by omega) (by omega)) (And.intro rfl (And.intro rfl (And.intro rfl (And.intro rfl (And.intro rfl trivial)))))
set_option maxHeartbeats 4000000 in
set_option maxRecDepth 20000 in
theorem j_turn3 {J : j_J} {L sc x m out P G R Q cn sn : Nat} {i : Int32} {h : j_H} (hJ : j_Cl k_law j_lF j_lP j_no J) (hF : j_Fg J) (hL : L ≤ 2560) (i0 : 0 ≤ i.toInt) (i1 : i.toInt + 5 ≤ (L : Int)) (hc : cn ≤ 500000) (hs : sn ≤ 6000000) (lw : j_LW L sc x m out P G R Q h) (back : ∀ (h' : j_H) (cn' sn' : Nat), j_LW L sc x m out P G R Q h' → cn' ≤ cn + 200 → sn' ≤ sn + 2000 → J 1161 [some (j_r (some sc)), some (j_r (some x)), some (j_r (some m)), some (j_r (some out)), some (j_i i), none, none] [] h' cn' sn') : J 276 [some (j_r (some sc)), some (j_r (some x)), some (j_r (some m)), some (j_r (some out)), some (j_i i), none, none] [] h cn sn := by
  have q1 : (i + Int32.ofInt (1)).toInt = i.toInt + 1 := j_inc1 (by omega)
  have q2 : (i + Int32.ofInt (2)).toInt = i.toInt + 2 := j_i2 i0 (by omega)
  have q3 : (i + Int32.ofInt (3)).toInt = i.toInt + 3 := j_i3 i0 (by omega)
  have q4 : (i + Int32.ofInt (4)).toInt = i.toInt + 4 := j_i4 i0 (by omega)
  refine hJ [1161] 400 _ _ _ _ _ _ ?_
  conv => whnf
  have lsv34 : j_ln h sc = L := lw.1.2.2.2.2.2.2
  refine ⟨_, _, rfl, lw.1.2.2.2.2.2.1, rfl, j_vp (by omega) (by rw [lsv34]; omega), fun v34 ev34 => ?_⟩
  conv => whnf
  have lsv35 : j_ln h sc = L := lw.1.2.2.2.2.2.2
  refine ⟨_, _, rfl, lw.1.2.2.2.2.2.1, rfl, j_vp (by omega) (by rw [lsv35]; omega), fun v35 ev35 => ?_⟩
  conv => whnf
  refine ⟨rfl, _, _, _, _, _, _, c_Lw_wash lw.1.1 lw.1.2.2.1, ⟨Nat.le_of_ble_eq_true rfl, Nat.le_of_ble_eq_true rfl, by (try dsimp only); omega, by (try dsimp only); omega⟩, fun _ _ z => False.elim z, ?_⟩
  rintro v9 H36 ⟨⟨r38, rfl⟩, fo⟩
  have l37 := (lw.fo fo).1
  conv => whnf
  have lsv39 : j_ln H36 sc = L := l37.1.2.2.2.2.2.2
  refine ⟨_, _, rfl, l37.1.2.2.2.2.2.1, rfl, j_vp (by omega) (by rw [lsv39]; omega), fun v39 ev39 => ?_⟩
  conv => whnf
  have lsv40 : j_ln H36 sc = L := l37.1.2.2.2.2.2.2
  refine ⟨_, _, rfl, l37.1.2.2.2.2.2.1, rfl, j_vp (by omega) (by rw [lsv40]; omega), fun v40 ev40 => ?_⟩
  conv => whnf
  obtain ⟨ρ44, w43⟩ := l37.1.2.1
  refine ⟨w43.km, rfl, _, _, _, _, _, _, c_Mo_wash w43, ⟨Nat.le_of_ble_eq_true rfl, Nat.le_of_ble_eq_true rfl, by (try dsimp only); omega, by (try dsimp only); omega⟩, fun _ _ z => False.elim z, ?_⟩
  rintro v9 H41 ⟨st9, r9, rfl⟩
  have l42 := l37.mf w43 st9
  exact j_use hF (back _ _ _ l42 (by omega) (by omega)) (And.intro rfl (And.intro rfl (And.intro rfl (And.intro rfl (And.intro rfl trivial)))))
set_option maxHeartbeats 4000000 in
set_option maxRecDepth 20000 in
theorem j_turn4 {J : j_J} {L sc x m out P G R Q cn sn : Nat} {i : Int32} {h : j_H} (hJ : j_Cl k_law j_lF j_lP j_no J) (hF : j_Fg J) (hL : L ≤ 2560) (i0 : 0 ≤ i.toInt) (i1 : i.toInt + 5 ≤ (L : Int)) (hc : cn ≤ 500000) (hs : sn ≤ 6000000) (lw : j_LW L sc x m out P G R Q h) (back : ∀ (h' : j_H) (cn' sn' : Nat), j_LW L sc x m out P G R Q h' → cn' ≤ cn + 200 → sn' ≤ sn + 2000 → J 1161 [some (j_r (some sc)), some (j_r (some x)), some (j_r (some m)), some (j_r (some out)), some (j_i i), none, none] [] h' cn' sn') : J 316 [some (j_r (some sc)), some (j_r (some x)), some (j_r (some m)), some (j_r (some out)), some (j_i i), none, none] [] h cn sn := by
  have q1 : (i + Int32.ofInt (1)).toInt = i.toInt + 1 := j_inc1 (by omega)
  have q2 : (i + Int32.ofInt (2)).toInt = i.toInt + 2 := j_i2 i0 (by omega)
  have q3 : (i + Int32.ofInt (3)).toInt = i.toInt + 3 := j_i3 i0 (by omega)
  have q4 : (i + Int32.ofInt (4)).toInt = i.toInt + 4 := j_i4 i0 (by omega)
  refine hJ [1161] 400 _ _ _ _ _ _ ?_
  conv => whnf
  have lsa : j_ln h sc = L := lw.1.2.2.2.2.2.2
  refine ⟨_, _, rfl, lw.1.2.2.2.2.2.1, rfl, j_vp (by omega) (by rw [lsa]; omega), fun v ev => ?_⟩
  conv => whnf
  refine ⟨_, _, rfl, lw.1.2.2.2.2.2.1, rfl, j_vp (by omega) (by rw [lsa]; omega), fun u eu => ?_⟩
  conv => whnf
  refine ⟨rfl, _, _, _, _, _, _, c_Lw_pacex lw.1.1 lw.1.2.2.1, ⟨Nat.le_of_ble_eq_true rfl, Nat.le_of_ble_eq_true rfl, by (try dsimp only); omega, by (try dsimp only); omega⟩, fun _ _ z => False.elim z, ?_⟩
  rintro v9 h9 (⟨⟨ha, hb⟩, rfl, it', e9, s9⟩ | ⟨rfl, ha, e9⟩ | ⟨rfl, ha, hb, e9⟩)
  · have hn := j_pf34 v
    obtain ⟨l9, q9, P9, x9, o9⟩ := lw.1.pacex (b := (j_it h x (j_pf v)).toInt64) (hn.elim (fun z => Or.inl z.2) (fun z => Or.inr z.2)) s9
    rw [← e9] at l9 q9 P9 x9 o9
    obtain ⟨ρ, w9⟩ := l9.2.1
    conv => whnf
    refine ⟨_, _, rfl, l9.2.2.2.2.2.1, rfl, j_vp (by omega) (by rw [l9.2.2.2.2.2.2]; omega), fun v2 ev2 => ?_⟩
    obtain rfl : v2 = v := ev2.symm.trans ((q9 _).trans ev)
    conv => whnf
    refine ⟨_, _, rfl, l9.2.2.2.2.2.1, rfl, j_vp (by omega) (by rw [l9.2.2.2.2.2.2]; omega), fun u2 eu2 => ?_⟩
    obtain rfl : u2 = u := eu2.symm.trans ((q9 _).trans eu)
    conv => whnf
    refine ⟨w9.km, rfl, _, _, _, _, _, _, c_Mo_pacex w9, ⟨Nat.le_of_ble_eq_true rfl, Nat.le_of_ble_eq_true rfl, by (try dsimp only); omega, by (try dsimp only); omega⟩, fun _ _ z => False.elim z, ?_⟩
    rintro v8 h8 (⟨-, rfl, e8⟩ | ⟨ha8, -, -⟩ | ⟨-, hb8, -, -⟩)
    rotate_left
    · exact absurd ha ha8
    · exact absurd hb hb8
    have hu : u2 ≠ 0 := fun z => by rw [z] at hb; exact absurd hb.1 (by decide)
    obtain ⟨l8, x8, o8, P8, t8⟩ := l9.pacem (i := v2.toNatClampNeg) (b := Int32.ofInt 0) hu
    rw [← e8] at l8 x8 o8 P8 t8
    have cl : (v2.toNatClampNeg : Int) = v2.toInt := j_clamp (by omega)
    have lw8 : j_LW L sc x m out P G R Q h8 := by
      refine ⟨l8, ?_, ?_⟩
      · rw [x8, P8, x9 3 (Or.inl rfl), P9]
        rcases hn with ⟨a1, a2⟩ | ⟨a1, a2⟩
        · rw [a2, if_pos rfl, if_pos (by omega)]
        · rw [a2, if_neg (by decide), if_neg (by omega)]; exact lw.2.1
      · rw [x8, P8, x9 4 (Or.inr rfl), P9]
        rcases hn with ⟨a1, a2⟩ | ⟨a1, a2⟩
        · rw [a2, if_neg (by decide), if_neg (by omega)]; exact lw.2.2
        · rw [a2, if_pos rfl, if_pos (by omega)]
    have eq : j_it h9 P v2.toNatClampNeg = j_it h x (j_pf v2) := by
      rw [P9]
      rcases hn with ⟨a1, a2⟩ | ⟨a1, a2⟩
      · rw [a2, show v2.toNatClampNeg = 0 by omega]; exact lw.2.1.symm
      · rw [a2, show v2.toNatClampNeg = 1 by omega]; exact lw.2.2.symm
    obtain ⟨ρ2, w8⟩ := l8.2.1
    conv => whnf
    refine ⟨w8.km, rfl, _, _, _, _, _, _, c_Mo_thrownx w8.km, ⟨Nat.le_of_ble_eq_true rfl, Nat.le_of_ble_eq_true rfl, by (try dsimp only); omega, by (try dsimp only); omega⟩, fun _ _ z => False.elim z, ?_⟩
    rintro v7 h7 ⟨rfl, e7⟩
    obtain rfl : h8 = h7 := e7.symm
    rw [t8]
    conv => whnf
    refine ⟨fun _ => ?_, fun c => absurd (show (Int32.ofInt 0).toInt = (Int32.ofInt 0).toInt from rfl) c⟩
    conv => whnf
    refine ⟨fun c => absurd (show (Int32.ofInt 0).toInt = 0 by decide) c, fun _ => ?_⟩
    conv => whnf
    refine ⟨_, rfl, l8.2.2.1, fun y ey => ?_⟩
    obtain rfl : y = (j_it h9 P v2.toNatClampNeg).toInt64 := ey.symm.trans ((o8 0).trans (o9.trans (by rw [eq])))
    conv => whnf
    refine ⟨fun _ => ?_, fun c => absurd (j_cmp0 _) c⟩
    exact j_use hF (back _ _ _ lw8 (by omega) (by omega)) (And.intro rfl (And.intro rfl (And.intro rfl (And.intro rfl (And.intro rfl trivial)))))
  · obtain rfl : h = h9 := e9.symm
    obtain ⟨ρ, w9⟩ := lw.1.2.1
    conv => whnf
    refine ⟨_, _, rfl, lw.1.2.2.2.2.2.1, rfl, j_vp (by omega) (by rw [lsa]; omega), fun v2 ev2 => ?_⟩
    obtain rfl : v2 = v := ev2.symm.trans ev
    conv => whnf
    refine ⟨_, _, rfl, lw.1.2.2.2.2.2.1, rfl, j_vp (by omega) (by rw [lsa]; omega), fun u2 eu2 => ?_⟩
    obtain rfl : u2 = u := eu2.symm.trans eu
    conv => whnf
    refine ⟨w9.km, rfl, _, _, _, _, _, _, c_Mo_pacex w9, ⟨Nat.le_of_ble_eq_true rfl, Nat.le_of_ble_eq_true rfl, by (try dsimp only); omega, by (try dsimp only); omega⟩, fun _ _ z => False.elim z, ?_⟩
    rintro v8 h8 (⟨⟨ha8, hb8⟩, -, -⟩ | ⟨ha8, rfl, e8⟩ | ⟨ha8, hb8, rfl, e8⟩)
    · exact absurd ha8 ha
    rotate_left
    · exact absurd ha8 ha
    have st : j_Mf ρ m h (j_up (j_up h m 0 (j_i (Int32.ofInt 0))) m 0 (j_i (Int32.ofInt 1))) := (j_Mf.fi w9.km (by decide)).tr (j_Mf.fi (h := j_up h m 0 (j_i (Int32.ofInt 0))) w9.km (by decide))
    have t8 : j_it (j_up (j_up h m 0 (j_i (Int32.ofInt 0))) m 0 (j_i (Int32.ofInt 1))) m 0 = Int32.ofInt 1 := j_upi
    rw [← e8] at st t8
    have lw8 := lw.mf w9 st
    obtain ⟨ρ2, w8⟩ := lw8.1.2.1
    conv => whnf
    refine ⟨w8.km, rfl, _, _, _, _, _, _, c_Mo_thrownx w8.km, ⟨Nat.le_of_ble_eq_true rfl, Nat.le_of_ble_eq_true rfl, by (try dsimp only); omega, by (try dsimp only); omega⟩, fun _ _ z => False.elim z, ?_⟩
    rintro v7 h7 ⟨rfl, e7⟩
    obtain rfl : h8 = h7 := e7.symm
    rw [t8]
    conv => whnf
    refine ⟨fun _ => ?_, fun c => absurd (show (Int32.ofInt 1).toInt = (Int32.ofInt 1).toInt from rfl) c⟩
    conv => whnf
    refine ⟨fun _ => ?_, fun c => absurd (show ¬ (Int32.ofInt 1).toInt = 0 by decide) c⟩
    exact j_use hF (back _ _ _ lw8 (by omega) (by omega)) (And.intro rfl (And.intro rfl (And.intro rfl (And.intro rfl (And.intro rfl trivial)))))
  · obtain rfl : h = h9 := e9.symm
    obtain ⟨ρ, w9⟩ := lw.1.2.1
    conv => whnf
    refine ⟨_, _, rfl, lw.1.2.2.2.2.2.1, rfl, j_vp (by omega) (by rw [lsa]; omega), fun v2 ev2 => ?_⟩
    obtain rfl : v2 = v := ev2.symm.trans ev
    conv => whnf
    refine ⟨_, _, rfl, lw.1.2.2.2.2.2.1, rfl, j_vp (by omega) (by rw [lsa]; omega), fun u2 eu2 => ?_⟩
    obtain rfl : u2 = u := eu2.symm.trans eu
    conv => whnf
    refine ⟨w9.km, rfl, _, _, _, _, _, _, c_Mo_pacex w9, ⟨Nat.le_of_ble_eq_true rfl, Nat.le_of_ble_eq_true rfl, by (try dsimp only); omega, by (try dsimp only); omega⟩, fun _ _ z => False.elim z, ?_⟩
    rintro v8 h8 (⟨⟨ha8, hb8⟩, -, -⟩ | ⟨ha8, rfl, e8⟩ | ⟨ha8, hb8, rfl, e8⟩)
    · exact absurd hb8 hb
    · exact absurd ha ha8
    have st : j_Mf ρ m h (j_up (j_up h m 0 (j_i (Int32.ofInt 0))) m 0 (j_i (Int32.ofInt 2))) := (j_Mf.fi w9.km (by decide)).tr (j_Mf.fi (h := j_up h m 0 (j_i (Int32.ofInt 0))) w9.km (by decide))
    have t8 : j_it (j_up (j_up h m 0 (j_i (Int32.ofInt 0))) m 0 (j_i (Int32.ofInt 2))) m 0 = Int32.ofInt 2 := j_upi
    rw [← e8] at st t8
    have lw8 := lw.mf w9 st
    obtain ⟨ρ2, w8⟩ := lw8.1.2.1
    conv => whnf
    refine ⟨w8.km, rfl, _, _, _, _, _, _, c_Mo_thrownx w8.km, ⟨Nat.le_of_ble_eq_true rfl, Nat.le_of_ble_eq_true rfl, by (try dsimp only); omega, by (try dsimp only); omega⟩, fun _ _ z => False.elim z, ?_⟩
    rintro v7 h7 ⟨rfl, e7⟩
    obtain rfl : h8 = h7 := e7.symm
    rw [t8]
    conv => whnf
    refine ⟨fun _ => ?_, fun c => absurd (show (Int32.ofInt 2).toInt = (Int32.ofInt 2).toInt from rfl) c⟩
    conv => whnf
    refine ⟨fun _ => ?_, fun c => absurd (show ¬ (Int32.ofInt 2).toInt = 0 by decide) c⟩
    exact j_use hF (back _ _ _ lw8 (by omega) (by omega)) (And.intro rfl (And.intro rfl (And.intro rfl (And.intro rfl (And.intro rfl trivial)))))
set_option maxHeartbeats 4000000 in
set_option maxRecDepth 20000 in
theorem j_turn5 {J : j_J} {L sc x m out P G R Q cn sn : Nat} {i : Int32} {h : j_H} (hJ : j_Cl k_law j_lF j_lP j_no J) (hF : j_Fg J) (hL : L ≤ 2560) (i0 : 0 ≤ i.toInt) (i1 : i.toInt + 5 ≤ (L : Int)) (hc : cn ≤ 500000) (hs : sn ≤ 6000000) (lw : j_LW L sc x m out P G R Q h) (back : ∀ (h' : j_H) (cn' sn' : Nat), j_LW L sc x m out P G R Q h' → cn' ≤ cn + 200 → sn' ≤ sn + 2000 → J 1161 [some (j_r (some sc)), some (j_r (some x)), some (j_r (some m)), some (j_r (some out)), some (j_i i), none, none] [] h' cn' sn') : J 385 [some (j_r (some sc)), some (j_r (some x)), some (j_r (some m)), some (j_r (some out)), some (j_i i), none, none] [] h cn sn := by
  have q1 : (i + Int32.ofInt (1)).toInt = i.toInt + 1 := j_inc1 (by omega)
  have q2 : (i + Int32.ofInt (2)).toInt = i.toInt + 2 := j_i2 i0 (by omega)
  have q3 : (i + Int32.ofInt (3)).toInt = i.toInt + 3 := j_i3 i0 (by omega)
  have q4 : (i + Int32.ofInt (4)).toInt = i.toInt + 4 := j_i4 i0 (by omega)
  refine hJ [1161] 400 _ _ _ _ _ _ ?_
  conv => whnf
  have lsv45 : j_ln h sc = L := lw.1.2.2.2.2.2.2
  refine ⟨_, _, rfl, lw.1.2.2.2.2.2.1, rfl, j_vp (by omega) (by rw [lsv45]; omega), fun v45 ev45 => ?_⟩
  conv => whnf
  refine ⟨rfl, _, _, _, _, _, _, c_Lw_slipf lw.1.1 lw.1.2.2.1, ⟨Nat.le_of_ble_eq_true rfl, Nat.le_of_ble_eq_true rfl, by (try dsimp only); omega, by (try dsimp only); omega⟩, fun _ _ z => False.elim z, ?_⟩
  rintro v9 H46 ⟨⟨r48, rfl⟩, fo⟩
  have l47 := (lw.fo fo).1
  conv => whnf
  have lsv49 : j_ln H46 sc = L := l47.1.2.2.2.2.2.2
  refine ⟨_, _, rfl, l47.1.2.2.2.2.2.1, rfl, j_vp (by omega) (by rw [lsv49]; omega), fun v49 ev49 => ?_⟩
  conv => whnf
  obtain ⟨ρ53, w52⟩ := l47.1.2.1
  refine ⟨w52.km, rfl, _, _, _, _, _, _, c_Mo_slipf w52, ⟨Nat.le_of_ble_eq_true rfl, Nat.le_of_ble_eq_true rfl, by (try dsimp only); omega, by (try dsimp only); omega⟩, fun _ _ z => False.elim z, ?_⟩
  rintro v9 H50 ⟨st9, r9, rfl⟩
  have l51 := l47.mf w52 st9
  exact j_use hF (back _ _ _ l51 (by omega) (by omega)) (And.intro rfl (And.intro rfl (And.intro rfl (And.intro rfl (And.intro rfl trivial)))))
set_option maxHeartbeats 4000000 in
set_option maxRecDepth 20000 in
theorem j_turn6 {J : j_J} {L sc x m out P G R Q cn sn : Nat} {i : Int32} {h : j_H} (hJ : j_Cl k_law j_lF j_lP j_no J) (hF : j_Fg J) (hL : L ≤ 2560) (i0 : 0 ≤ i.toInt) (i1 : i.toInt + 5 ≤ (L : Int)) (hc : cn ≤ 500000) (hs : sn ≤ 6000000) (lw : j_LW L sc x m out P G R Q h) (back : ∀ (h' : j_H) (cn' sn' : Nat), j_LW L sc x m out P G R Q h' → cn' ≤ cn + 200 → sn' ≤ sn + 2000 → J 1161 [some (j_r (some sc)), some (j_r (some x)), some (j_r (some m)), some (j_r (some out)), some (j_i i), none, none] [] h' cn' sn') : J 413 [some (j_r (some sc)), some (j_r (some x)), some (j_r (some m)), some (j_r (some out)), some (j_i i), none, none] [] h cn sn := by
  have q1 : (i + Int32.ofInt (1)).toInt = i.toInt + 1 := j_inc1 (by omega)
  have q2 : (i + Int32.ofInt (2)).toInt = i.toInt + 2 := j_i2 i0 (by omega)
  have q3 : (i + Int32.ofInt (3)).toInt = i.toInt + 3 := j_i3 i0 (by omega)
  have q4 : (i + Int32.ofInt (4)).toInt = i.toInt + 4 := j_i4 i0 (by omega)
  refine hJ [1161] 400 _ _ _ _ _ _ ?_
  conv => whnf
  have lsv54 : j_ln h sc = L := lw.1.2.2.2.2.2.2
  refine ⟨_, _, rfl, lw.1.2.2.2.2.2.1, rfl, j_vp (by omega) (by rw [lsv54]; omega), fun v54 ev54 => ?_⟩
  conv => whnf
  have lsv55 : j_ln h sc = L := lw.1.2.2.2.2.2.2
  refine ⟨_, _, rfl, lw.1.2.2.2.2.2.1, rfl, j_vp (by omega) (by rw [lsv55]; omega), fun v55 ev55 => ?_⟩
  conv => whnf
  have lsv56 : j_ln h sc = L := lw.1.2.2.2.2.2.2
  refine ⟨_, _, rfl, lw.1.2.2.2.2.2.1, rfl, j_vp (by omega) (by rw [lsv56]; omega), fun v56 ev56 => ?_⟩
  conv => whnf
  have lsv57 : j_ln h sc = L := lw.1.2.2.2.2.2.2
  refine ⟨_, _, rfl, lw.1.2.2.2.2.2.1, rfl, j_vp (by omega) (by rw [lsv57]; omega), fun v57 ev57 => ?_⟩
  conv => whnf
  refine ⟨rfl, _, _, _, _, _, _, c_Lw_run lw.1.1 lw.1.2.2.1, ⟨Nat.le_of_ble_eq_true rfl, Nat.le_of_ble_eq_true rfl, by (try dsimp only); omega, by (try dsimp only); omega⟩, fun _ _ z => False.elim z, ?_⟩
  rintro v9 H58 ⟨⟨r60, rfl⟩, fo⟩
  have l59 := (lw.fo fo).1
  conv => whnf
  have lsv61 : j_ln H58 sc = L := l59.1.2.2.2.2.2.2
  refine ⟨_, _, rfl, l59.1.2.2.2.2.2.1, rfl, j_vp (by omega) (by rw [lsv61]; omega), fun v61 ev61 => ?_⟩
  conv => whnf
  have lsv62 : j_ln H58 sc = L := l59.1.2.2.2.2.2.2
  refine ⟨_, _, rfl, l59.1.2.2.2.2.2.1, rfl, j_vp (by omega) (by rw [lsv62]; omega), fun v62 ev62 => ?_⟩
  conv => whnf
  have lsv63 : j_ln H58 sc = L := l59.1.2.2.2.2.2.2
  refine ⟨_, _, rfl, l59.1.2.2.2.2.2.1, rfl, j_vp (by omega) (by rw [lsv63]; omega), fun v63 ev63 => ?_⟩
  conv => whnf
  have lsv64 : j_ln H58 sc = L := l59.1.2.2.2.2.2.2
  refine ⟨_, _, rfl, l59.1.2.2.2.2.2.1, rfl, j_vp (by omega) (by rw [lsv64]; omega), fun v64 ev64 => ?_⟩
  conv => whnf
  obtain ⟨ρ68, w67⟩ := l59.1.2.1
  refine ⟨w67.km, rfl, _, _, _, _, _, _, c_Mo_run w67, ⟨Nat.le_of_ble_eq_true rfl, Nat.le_of_ble_eq_true rfl, by (try dsimp only); omega, by (try dsimp only); omega⟩, fun _ _ z => False.elim z, ?_⟩
  rintro v9 H65 ⟨w9, g9, r9, rfl⟩
  have l66 := l59.mg w9 g9
  exact j_use hF (back _ _ _ l66 (by omega) (by omega)) (And.intro rfl (And.intro rfl (And.intro rfl (And.intro rfl (And.intro rfl trivial)))))
set_option maxHeartbeats 4000000 in
set_option maxRecDepth 20000 in
theorem j_turn7 {J : j_J} {L sc x m out P G R Q cn sn : Nat} {i : Int32} {h : j_H} (hJ : j_Cl k_law j_lF j_lP j_no J) (hF : j_Fg J) (hL : L ≤ 2560) (i0 : 0 ≤ i.toInt) (i1 : i.toInt + 5 ≤ (L : Int)) (hc : cn ≤ 500000) (hs : sn ≤ 6000000) (lw : j_LW L sc x m out P G R Q h) (back : ∀ (h' : j_H) (cn' sn' : Nat), j_LW L sc x m out P G R Q h' → cn' ≤ cn + 200 → sn' ≤ sn + 2000 → J 1161 [some (j_r (some sc)), some (j_r (some x)), some (j_r (some m)), some (j_r (some out)), some (j_i i), none, none] [] h' cn' sn') : J 477 [some (j_r (some sc)), some (j_r (some x)), some (j_r (some m)), some (j_r (some out)), some (j_i i), none, none] [] h cn sn := by
  have q1 : (i + Int32.ofInt (1)).toInt = i.toInt + 1 := j_inc1 (by omega)
  have q2 : (i + Int32.ofInt (2)).toInt = i.toInt + 2 := j_i2 i0 (by omega)
  have q3 : (i + Int32.ofInt (3)).toInt = i.toInt + 3 := j_i3 i0 (by omega)
  have q4 : (i + Int32.ofInt (4)).toInt = i.toInt + 4 := j_i4 i0 (by omega)
  refine hJ [1161] 400 _ _ _ _ _ _ ?_
  conv => whnf
  have lsv69 : j_ln h sc = L := lw.1.2.2.2.2.2.2
  refine ⟨_, _, rfl, lw.1.2.2.2.2.2.1, rfl, j_vp (by omega) (by rw [lsv69]; omega), fun v69 ev69 => ?_⟩
  conv => whnf
  refine ⟨rfl, _, _, _, _, _, _, c_Lw_withdraw lw.1.1 lw.1.2.2.1, ⟨Nat.le_of_ble_eq_true rfl, Nat.le_of_ble_eq_true rfl, by (try dsimp only); omega, by (try dsimp only); omega⟩, fun _ _ z => False.elim z, ?_⟩
  rintro v9 H70 ⟨⟨r72, rfl⟩, fo⟩
  have l71 := (lw.fo fo).1
  conv => whnf
  have lsv73 : j_ln H70 sc = L := l71.1.2.2.2.2.2.2
  refine ⟨_, _, rfl, l71.1.2.2.2.2.2.1, rfl, j_vp (by omega) (by rw [lsv73]; omega), fun v73 ev73 => ?_⟩
  conv => whnf
  obtain ⟨ρ77, w76⟩ := l71.1.2.1
  refine ⟨w76.km, rfl, _, _, _, _, _, _, c_Mo_withdraw w76, ⟨Nat.le_of_ble_eq_true rfl, Nat.le_of_ble_eq_true rfl, by (try dsimp only); omega, by (try dsimp only); omega⟩, fun _ _ z => False.elim z, ?_⟩
  rintro v9 H74 ⟨st9, r9, rfl⟩
  have l75 := l71.mf w76 st9
  exact j_use hF (back _ _ _ l75 (by omega) (by omega)) (And.intro rfl (And.intro rfl (And.intro rfl (And.intro rfl (And.intro rfl trivial)))))
set_option maxHeartbeats 4000000 in
set_option maxRecDepth 20000 in
theorem j_turn8 {J : j_J} {L sc x m out P G R Q cn sn : Nat} {i : Int32} {h : j_H} (hJ : j_Cl k_law j_lF j_lP j_no J) (hF : j_Fg J) (hL : L ≤ 2560) (i0 : 0 ≤ i.toInt) (i1 : i.toInt + 5 ≤ (L : Int)) (hc : cn ≤ 500000) (hs : sn ≤ 6000000) (lw : j_LW L sc x m out P G R Q h) (back : ∀ (h' : j_H) (cn' sn' : Nat), j_LW L sc x m out P G R Q h' → cn' ≤ cn + 200 → sn' ≤ sn + 2000 → J 1161 [some (j_r (some sc)), some (j_r (some x)), some (j_r (some m)), some (j_r (some out)), some (j_i i), none, none] [] h' cn' sn') : J 505 [some (j_r (some sc)), some (j_r (some x)), some (j_r (some m)), some (j_r (some out)), some (j_i i), none, none] [] h cn sn := by
  have q1 : (i + Int32.ofInt (1)).toInt = i.toInt + 1 := j_inc1 (by omega)
  have q2 : (i + Int32.ofInt (2)).toInt = i.toInt + 2 := j_i2 i0 (by omega)
  have q3 : (i + Int32.ofInt (3)).toInt = i.toInt + 3 := j_i3 i0 (by omega)
  have q4 : (i + Int32.ofInt (4)).toInt = i.toInt + 4 := j_i4 i0 (by omega)
  refine hJ [1161] 400 _ _ _ _ _ _ ?_
  conv => whnf
  have lsv78 : j_ln h sc = L := lw.1.2.2.2.2.2.2
  refine ⟨_, _, rfl, lw.1.2.2.2.2.2.1, rfl, j_vp (by omega) (by rw [lsv78]; omega), fun v78 ev78 => ?_⟩
  conv => whnf
  have lsv79 : j_ln h sc = L := lw.1.2.2.2.2.2.2
  refine ⟨_, _, rfl, lw.1.2.2.2.2.2.1, rfl, j_vp (by omega) (by rw [lsv79]; omega), fun v79 ev79 => ?_⟩
  conv => whnf
  refine ⟨rfl, _, _, _, _, _, _, c_Lw_swap lw.1.1 lw.1.2.2.1, ⟨Nat.le_of_ble_eq_true rfl, Nat.le_of_ble_eq_true rfl, by (try dsimp only); omega, by (try dsimp only); omega⟩, fun _ _ z => False.elim z, ?_⟩
  rintro v9 H80 ⟨⟨r82, rfl⟩, fo⟩
  have l81 := (lw.fo fo).1
  conv => whnf
  have lsv83 : j_ln H80 sc = L := l81.1.2.2.2.2.2.2
  refine ⟨_, _, rfl, l81.1.2.2.2.2.2.1, rfl, j_vp (by omega) (by rw [lsv83]; omega), fun v83 ev83 => ?_⟩
  conv => whnf
  have lsv84 : j_ln H80 sc = L := l81.1.2.2.2.2.2.2
  refine ⟨_, _, rfl, l81.1.2.2.2.2.2.1, rfl, j_vp (by omega) (by rw [lsv84]; omega), fun v84 ev84 => ?_⟩
  conv => whnf
  obtain ⟨ρ88, w87⟩ := l81.1.2.1
  refine ⟨w87.km, rfl, _, _, _, _, _, _, c_Mo_swap w87, ⟨Nat.le_of_ble_eq_true rfl, Nat.le_of_ble_eq_true rfl, by (try dsimp only); omega, by (try dsimp only); omega⟩, fun _ _ z => False.elim z, ?_⟩
  rintro v9 H85 ⟨st9, r9, rfl⟩
  have l86 := l81.mf w87 st9
  exact j_use hF (back _ _ _ l86 (by omega) (by omega)) (And.intro rfl (And.intro rfl (And.intro rfl (And.intro rfl (And.intro rfl trivial)))))
set_option maxHeartbeats 4000000 in
set_option maxRecDepth 20000 in
theorem j_turn9 {J : j_J} {L sc x m out P G R Q cn sn : Nat} {i : Int32} {h : j_H} (hJ : j_Cl k_law j_lF j_lP j_no J) (hF : j_Fg J) (hL : L ≤ 2560) (i0 : 0 ≤ i.toInt) (i1 : i.toInt + 5 ≤ (L : Int)) (hc : cn ≤ 500000) (hs : sn ≤ 6000000) (lw : j_LW L sc x m out P G R Q h) (back : ∀ (h' : j_H) (cn' sn' : Nat), j_LW L sc x m out P G R Q h' → cn' ≤ cn + 200 → sn' ≤ sn + 2000 → J 1161 [some (j_r (some sc)), some (j_r (some x)), some (j_r (some m)), some (j_r (some out)), some (j_i i), none, none] [] h' cn' sn') : J 545 [some (j_r (some sc)), some (j_r (some x)), some (j_r (some m)), some (j_r (some out)), some (j_i i), none, none] [] h cn sn := by
  have q1 : (i + Int32.ofInt (1)).toInt = i.toInt + 1 := j_inc1 (by omega)
  have q2 : (i + Int32.ofInt (2)).toInt = i.toInt + 2 := j_i2 i0 (by omega)
  have q3 : (i + Int32.ofInt (3)).toInt = i.toInt + 3 := j_i3 i0 (by omega)
  have q4 : (i + Int32.ofInt (4)).toInt = i.toInt + 4 := j_i4 i0 (by omega)
  refine hJ [1161] 400 _ _ _ _ _ _ ?_
  conv => whnf
  have lsv89 : j_ln h sc = L := lw.1.2.2.2.2.2.2
  refine ⟨_, _, rfl, lw.1.2.2.2.2.2.1, rfl, j_vp (by omega) (by rw [lsv89]; omega), fun v89 ev89 => ?_⟩
  conv => whnf
  have lsv90 : j_ln h sc = L := lw.1.2.2.2.2.2.2
  refine ⟨_, _, rfl, lw.1.2.2.2.2.2.1, rfl, j_vp (by omega) (by rw [lsv90]; omega), fun v90 ev90 => ?_⟩
  conv => whnf
  refine ⟨rfl, _, _, _, _, _, _, c_Lw_print lw.1.1 lw.1.2.2.1, ⟨Nat.le_of_ble_eq_true rfl, Nat.le_of_ble_eq_true rfl, by (try dsimp only); omega, by (try dsimp only); omega⟩, fun _ _ z => False.elim z, ?_⟩
  rintro v9 H91 ⟨⟨r93, rfl⟩, fo⟩
  have l92 := (lw.fo fo).1
  conv => whnf
  have lsv94 : j_ln H91 sc = L := l92.1.2.2.2.2.2.2
  refine ⟨_, _, rfl, l92.1.2.2.2.2.2.1, rfl, j_vp (by omega) (by rw [lsv94]; omega), fun v94 ev94 => ?_⟩
  conv => whnf
  have lsv95 : j_ln H91 sc = L := l92.1.2.2.2.2.2.2
  refine ⟨_, _, rfl, l92.1.2.2.2.2.2.1, rfl, j_vp (by omega) (by rw [lsv95]; omega), fun v95 ev95 => ?_⟩
  conv => whnf
  obtain ⟨ρ99, w98⟩ := l92.1.2.1
  refine ⟨w98.km, rfl, _, _, _, _, _, _, c_Mo_print w98, ⟨Nat.le_of_ble_eq_true rfl, Nat.le_of_ble_eq_true rfl, by (try dsimp only); omega, by (try dsimp only); omega⟩, fun _ _ z => False.elim z, ?_⟩
  rintro v9 H96 ⟨w9, g9, r9, rfl⟩
  have l97 := l92.mg w9 g9
  exact j_use hF (back _ _ _ l97 (by omega) (by omega)) (And.intro rfl (And.intro rfl (And.intro rfl (And.intro rfl (And.intro rfl trivial)))))
set_option maxHeartbeats 4000000 in
set_option maxRecDepth 20000 in
theorem j_turn10 {J : j_J} {L sc x m out P G R Q cn sn : Nat} {i : Int32} {h : j_H} (hJ : j_Cl k_law j_lF j_lP j_no J) (hF : j_Fg J) (hL : L ≤ 2560) (i0 : 0 ≤ i.toInt) (i1 : i.toInt + 5 ≤ (L : Int)) (hc : cn ≤ 500000) (hs : sn ≤ 6000000) (lw : j_LW L sc x m out P G R Q h) (back : ∀ (h' : j_H) (cn' sn' : Nat), j_LW L sc x m out P G R Q h' → cn' ≤ cn + 200 → sn' ≤ sn + 2000 → J 1161 [some (j_r (some sc)), some (j_r (some x)), some (j_r (some m)), some (j_r (some out)), some (j_i i), none, none] [] h' cn' sn') : J 585 [some (j_r (some sc)), some (j_r (some x)), some (j_r (some m)), some (j_r (some out)), some (j_i i), none, none] [] h cn sn := by
  have q1 : (i + Int32.ofInt (1)).toInt = i.toInt + 1 := j_inc1 (by omega)
  have q2 : (i + Int32.ofInt (2)).toInt = i.toInt + 2 := j_i2 i0 (by omega)
  have q3 : (i + Int32.ofInt (3)).toInt = i.toInt + 3 := j_i3 i0 (by omega)
  have q4 : (i + Int32.ofInt (4)).toInt = i.toInt + 4 := j_i4 i0 (by omega)
  refine hJ [1161] 400 _ _ _ _ _ _ ?_
  conv => whnf
  have lsv100 : j_ln h sc = L := lw.1.2.2.2.2.2.2
  refine ⟨_, _, rfl, lw.1.2.2.2.2.2.1, rfl, j_vp (by omega) (by rw [lsv100]; omega), fun v100 ev100 => ?_⟩
  conv => whnf
  have lsv101 : j_ln h sc = L := lw.1.2.2.2.2.2.2
  refine ⟨_, _, rfl, lw.1.2.2.2.2.2.1, rfl, j_vp (by omega) (by rw [lsv101]; omega), fun v101 ev101 => ?_⟩
  conv => whnf
  refine ⟨rfl, _, _, _, _, _, _, c_Lw_ofGrain lw.1.1 lw.1.2.2.1, ⟨Nat.le_of_ble_eq_true rfl, Nat.le_of_ble_eq_true rfl, by (try dsimp only); omega, by (try dsimp only); omega⟩, fun _ _ z => False.elim z, ?_⟩
  rintro v9 H102 ⟨⟨r104, rfl⟩, fo⟩
  have l103 := (lw.fo fo).1
  conv => whnf
  have lsv105 : j_ln H102 sc = L := l103.1.2.2.2.2.2.2
  refine ⟨_, _, rfl, l103.1.2.2.2.2.2.1, rfl, j_vp (by omega) (by rw [lsv105]; omega), fun v105 ev105 => ?_⟩
  conv => whnf
  have lsv106 : j_ln H102 sc = L := l103.1.2.2.2.2.2.2
  refine ⟨_, _, rfl, l103.1.2.2.2.2.2.1, rfl, j_vp (by omega) (by rw [lsv106]; omega), fun v106 ev106 => ?_⟩
  conv => whnf
  obtain ⟨ρ110, w109⟩ := l103.1.2.1
  refine ⟨w109.km, rfl, _, _, _, _, _, _, c_Mo_ofGrain w109, ⟨Nat.le_of_ble_eq_true rfl, Nat.le_of_ble_eq_true rfl, by (try dsimp only); omega, by (try dsimp only); omega⟩, fun _ _ z => False.elim z, ?_⟩
  rintro v9 H107 ⟨st9, r9, rfl⟩
  have l108 := l103.mf w109 st9
  exact j_use hF (back _ _ _ l108 (by omega) (by omega)) (And.intro rfl (And.intro rfl (And.intro rfl (And.intro rfl (And.intro rfl trivial)))))
set_option maxHeartbeats 4000000 in
set_option maxRecDepth 20000 in
theorem j_turn11 {J : j_J} {L sc x m out P G R Q cn sn : Nat} {i : Int32} {h : j_H} (hJ : j_Cl k_law j_lF j_lP j_no J) (hF : j_Fg J) (hL : L ≤ 2560) (i0 : 0 ≤ i.toInt) (i1 : i.toInt + 5 ≤ (L : Int)) (hc : cn ≤ 500000) (hs : sn ≤ 6000000) (lw : j_LW L sc x m out P G R Q h) (back : ∀ (h' : j_H) (cn' sn' : Nat), j_LW L sc x m out P G R Q h' → cn' ≤ cn + 200 → sn' ≤ sn + 2000 → J 1161 [some (j_r (some sc)), some (j_r (some x)), some (j_r (some m)), some (j_r (some out)), some (j_i i), none, none] [] h' cn' sn') : J 625 [some (j_r (some sc)), some (j_r (some x)), some (j_r (some m)), some (j_r (some out)), some (j_i i), none, none] [] h cn sn := by
  have q1 : (i + Int32.ofInt (1)).toInt = i.toInt + 1 := j_inc1 (by omega)
  have q2 : (i + Int32.ofInt (2)).toInt = i.toInt + 2 := j_i2 i0 (by omega)
  have q3 : (i + Int32.ofInt (3)).toInt = i.toInt + 3 := j_i3 i0 (by omega)
  have q4 : (i + Int32.ofInt (4)).toInt = i.toInt + 4 := j_i4 i0 (by omega)
  refine hJ [1161] 400 _ _ _ _ _ _ ?_
  conv => whnf
  have lsv111 : j_ln h sc = L := lw.1.2.2.2.2.2.2
  refine ⟨_, _, rfl, lw.1.2.2.2.2.2.1, rfl, j_vp (by omega) (by rw [lsv111]; omega), fun v111 ev111 => ?_⟩
  conv => whnf
  have lsv112 : j_ln h sc = L := lw.1.2.2.2.2.2.2
  refine ⟨_, _, rfl, lw.1.2.2.2.2.2.1, rfl, j_vp (by omega) (by rw [lsv112]; omega), fun v112 ev112 => ?_⟩
  conv => whnf
  refine ⟨rfl, _, _, _, _, _, _, c_Lw_ofRun lw.1.1 lw.1.2.2.1, ⟨Nat.le_of_ble_eq_true rfl, Nat.le_of_ble_eq_true rfl, by (try dsimp only); omega, by (try dsimp only); omega⟩, fun _ _ z => False.elim z, ?_⟩
  rintro v9 H113 ⟨⟨r115, rfl⟩, fo⟩
  have l114 := (lw.fo fo).1
  conv => whnf
  have lsv116 : j_ln H113 sc = L := l114.1.2.2.2.2.2.2
  refine ⟨_, _, rfl, l114.1.2.2.2.2.2.1, rfl, j_vp (by omega) (by rw [lsv116]; omega), fun v116 ev116 => ?_⟩
  conv => whnf
  have lsv117 : j_ln H113 sc = L := l114.1.2.2.2.2.2.2
  refine ⟨_, _, rfl, l114.1.2.2.2.2.2.1, rfl, j_vp (by omega) (by rw [lsv117]; omega), fun v117 ev117 => ?_⟩
  conv => whnf
  obtain ⟨ρ121, w120⟩ := l114.1.2.1
  refine ⟨w120.km, rfl, _, _, _, _, _, _, c_Mo_ofRun w120, ⟨Nat.le_of_ble_eq_true rfl, Nat.le_of_ble_eq_true rfl, by (try dsimp only); omega, by (try dsimp only); omega⟩, fun _ _ z => False.elim z, ?_⟩
  rintro v9 H118 ⟨st9, r9, rfl⟩
  have l119 := l114.mf w120 st9
  exact j_use hF (back _ _ _ l119 (by omega) (by omega)) (And.intro rfl (And.intro rfl (And.intro rfl (And.intro rfl (And.intro rfl trivial)))))
set_option maxHeartbeats 4000000 in
set_option maxRecDepth 20000 in
theorem j_turn12 {J : j_J} {L sc x m out P G R Q cn sn : Nat} {i : Int32} {h : j_H} (hJ : j_Cl k_law j_lF j_lP j_no J) (hF : j_Fg J) (hL : L ≤ 2560) (i0 : 0 ≤ i.toInt) (i1 : i.toInt + 5 ≤ (L : Int)) (hc : cn ≤ 500000) (hs : sn ≤ 6000000) (lw : j_LW L sc x m out P G R Q h) (back : ∀ (h' : j_H) (cn' sn' : Nat), j_LW L sc x m out P G R Q h' → cn' ≤ cn + 200 → sn' ≤ sn + 2000 → J 1161 [some (j_r (some sc)), some (j_r (some x)), some (j_r (some m)), some (j_r (some out)), some (j_i i), none, none] [] h' cn' sn') : J 665 [some (j_r (some sc)), some (j_r (some x)), some (j_r (some m)), some (j_r (some out)), some (j_i i), none, none] [] h cn sn := by
  have q1 : (i + Int32.ofInt (1)).toInt = i.toInt + 1 := j_inc1 (by omega)
  have q2 : (i + Int32.ofInt (2)).toInt = i.toInt + 2 := j_i2 i0 (by omega)
  have q3 : (i + Int32.ofInt (3)).toInt = i.toInt + 3 := j_i3 i0 (by omega)
  have q4 : (i + Int32.ofInt (4)).toInt = i.toInt + 4 := j_i4 i0 (by omega)
  refine hJ [1161] 400 _ _ _ _ _ _ ?_
  conv => whnf
  have lsv122 : j_ln h sc = L := lw.1.2.2.2.2.2.2
  refine ⟨_, _, rfl, lw.1.2.2.2.2.2.1, rfl, j_vp (by omega) (by rw [lsv122]; omega), fun v122 ev122 => ?_⟩
  conv => whnf
  have lsv123 : j_ln h sc = L := lw.1.2.2.2.2.2.2
  refine ⟨_, _, rfl, lw.1.2.2.2.2.2.1, rfl, j_vp (by omega) (by rw [lsv123]; omega), fun v123 ev123 => ?_⟩
  conv => whnf
  have lsv124 : j_ln h sc = L := lw.1.2.2.2.2.2.2
  refine ⟨_, _, rfl, lw.1.2.2.2.2.2.1, rfl, j_vp (by omega) (by rw [lsv124]; omega), fun v124 ev124 => ?_⟩
  conv => whnf
  refine ⟨rfl, _, _, _, _, _, _, c_Lw_span lw.1.1 lw.1.2.2.1, ⟨Nat.le_of_ble_eq_true rfl, Nat.le_of_ble_eq_true rfl, by (try dsimp only); omega, by (try dsimp only); omega⟩, fun _ _ z => False.elim z, ?_⟩
  rintro v9 H125 ⟨⟨r127, rfl⟩, fo⟩
  have l126 := (lw.fo fo).1
  conv => whnf
  have lsv128 : j_ln H125 sc = L := l126.1.2.2.2.2.2.2
  refine ⟨_, _, rfl, l126.1.2.2.2.2.2.1, rfl, j_vp (by omega) (by rw [lsv128]; omega), fun v128 ev128 => ?_⟩
  conv => whnf
  have lsv129 : j_ln H125 sc = L := l126.1.2.2.2.2.2.2
  refine ⟨_, _, rfl, l126.1.2.2.2.2.2.1, rfl, j_vp (by omega) (by rw [lsv129]; omega), fun v129 ev129 => ?_⟩
  conv => whnf
  have lsv130 : j_ln H125 sc = L := l126.1.2.2.2.2.2.2
  refine ⟨_, _, rfl, l126.1.2.2.2.2.2.1, rfl, j_vp (by omega) (by rw [lsv130]; omega), fun v130 ev130 => ?_⟩
  conv => whnf
  obtain ⟨ρ134, w133⟩ := l126.1.2.1
  refine ⟨w133.km, rfl, _, _, _, _, _, _, c_Mo_span w133, ⟨Nat.le_of_ble_eq_true rfl, Nat.le_of_ble_eq_true rfl, by (try dsimp only); omega, by (try dsimp only); omega⟩, fun _ _ z => False.elim z, ?_⟩
  rintro v9 H131 ⟨st9, r9, rfl⟩
  have l132 := l126.mf w133 st9
  exact j_use hF (back _ _ _ l132 (by omega) (by omega)) (And.intro rfl (And.intro rfl (And.intro rfl (And.intro rfl (And.intro rfl trivial)))))
set_option maxHeartbeats 4000000 in
set_option maxRecDepth 20000 in
theorem j_turn13 {J : j_J} {L sc x m out P G R Q cn sn : Nat} {i : Int32} {h : j_H} (hJ : j_Cl k_law j_lF j_lP j_no J) (hF : j_Fg J) (hL : L ≤ 2560) (i0 : 0 ≤ i.toInt) (i1 : i.toInt + 5 ≤ (L : Int)) (hc : cn ≤ 500000) (hs : sn ≤ 6000000) (lw : j_LW L sc x m out P G R Q h) (back : ∀ (h' : j_H) (cn' sn' : Nat), j_LW L sc x m out P G R Q h' → cn' ≤ cn + 200 → sn' ≤ sn + 2000 → J 1161 [some (j_r (some sc)), some (j_r (some x)), some (j_r (some m)), some (j_r (some out)), some (j_i i), none, none] [] h' cn' sn') : J 717 [some (j_r (some sc)), some (j_r (some x)), some (j_r (some m)), some (j_r (some out)), some (j_i i), none, none] [] h cn sn := by
  have q1 : (i + Int32.ofInt (1)).toInt = i.toInt + 1 := j_inc1 (by omega)
  have q2 : (i + Int32.ofInt (2)).toInt = i.toInt + 2 := j_i2 i0 (by omega)
  have q3 : (i + Int32.ofInt (3)).toInt = i.toInt + 3 := j_i3 i0 (by omega)
  have q4 : (i + Int32.ofInt (4)).toInt = i.toInt + 4 := j_i4 i0 (by omega)
  refine hJ [1161] 400 _ _ _ _ _ _ ?_
  conv => whnf
  have lsv135 : j_ln h sc = L := lw.1.2.2.2.2.2.2
  refine ⟨_, _, rfl, lw.1.2.2.2.2.2.1, rfl, j_vp (by omega) (by rw [lsv135]; omega), fun v135 ev135 => ?_⟩
  conv => whnf
  have lsv136 : j_ln h sc = L := lw.1.2.2.2.2.2.2
  refine ⟨_, _, rfl, lw.1.2.2.2.2.2.1, rfl, j_vp (by omega) (by rw [lsv136]; omega), fun v136 ev136 => ?_⟩
  conv => whnf
  refine ⟨fun c137 => ?_, fun c137 => ?_⟩
  · skip
    conv => whnf
    refine ⟨rfl, _, _, _, _, _, _, c_Lw_narrowed lw.1.1 lw.1.2.2.1, ⟨Nat.le_of_ble_eq_true rfl, Nat.le_of_ble_eq_true rfl, by (try dsimp only); omega, by (try dsimp only); omega⟩, fun _ _ z => False.elim z, ?_⟩
    rintro v9 H138 ⟨⟨r140, rfl⟩, fo⟩
    have l139 := (lw.fo fo).1
    conv => whnf
    have lsv141 : j_ln H138 sc = L := l139.1.2.2.2.2.2.2
    refine ⟨_, _, rfl, l139.1.2.2.2.2.2.1, rfl, j_vp (by omega) (by rw [lsv141]; omega), fun v141 ev141 => ?_⟩
    conv => whnf
    have lsv142 : j_ln H138 sc = L := l139.1.2.2.2.2.2.2
    refine ⟨_, _, rfl, l139.1.2.2.2.2.2.1, rfl, j_vp (by omega) (by rw [lsv142]; omega), fun v142 ev142 => ?_⟩
    conv => whnf
    refine ⟨fun c143 => ?_, fun c143 => ?_⟩
    · skip
      conv => whnf
      obtain ⟨ρ147, w146⟩ := l139.1.2.1
      refine ⟨w146.km, rfl, _, _, _, _, _, _, c_Mo_narrowed w146, ⟨Nat.le_of_ble_eq_true rfl, Nat.le_of_ble_eq_true rfl, by (try dsimp only); omega, by (try dsimp only); omega⟩, fun _ _ z => False.elim z, ?_⟩
      rintro v9 H144 ⟨st9, r9, rfl⟩
      have l145 := l139.mf w146 st9
      exact j_use hF (back _ _ _ l145 (by omega) (by omega)) (And.intro rfl (And.intro rfl (And.intro rfl (And.intro rfl (And.intro rfl trivial)))))
    · skip
      conv => whnf
      obtain ⟨ρ151, w150⟩ := l139.1.2.1
      refine ⟨w150.km, rfl, _, _, _, _, _, _, c_Mo_narrowed w150, ⟨Nat.le_of_ble_eq_true rfl, Nat.le_of_ble_eq_true rfl, by (try dsimp only); omega, by (try dsimp only); omega⟩, fun _ _ z => False.elim z, ?_⟩
      rintro v9 H148 ⟨st9, r9, rfl⟩
      have l149 := l139.mf w150 st9
      exact j_use hF (back _ _ _ l149 (by omega) (by omega)) (And.intro rfl (And.intro rfl (And.intro rfl (And.intro rfl (And.intro rfl trivial)))))
  · skip
    conv => whnf
    refine ⟨rfl, _, _, _, _, _, _, c_Lw_narrowed lw.1.1 lw.1.2.2.1, ⟨Nat.le_of_ble_eq_true rfl, Nat.le_of_ble_eq_true rfl, by (try dsimp only); omega, by (try dsimp only); omega⟩, fun _ _ z => False.elim z, ?_⟩
    rintro v9 H152 ⟨⟨r154, rfl⟩, fo⟩
    have l153 := (lw.fo fo).1
    conv => whnf
    have lsv155 : j_ln H152 sc = L := l153.1.2.2.2.2.2.2
    refine ⟨_, _, rfl, l153.1.2.2.2.2.2.1, rfl, j_vp (by omega) (by rw [lsv155]; omega), fun v155 ev155 => ?_⟩
    conv => whnf
    have lsv156 : j_ln H152 sc = L := l153.1.2.2.2.2.2.2
    refine ⟨_, _, rfl, l153.1.2.2.2.2.2.1, rfl, j_vp (by omega) (by rw [lsv156]; omega), fun v156 ev156 => ?_⟩
    conv => whnf
    refine ⟨fun c157 => ?_, fun c157 => ?_⟩
    · skip
      conv => whnf
      obtain ⟨ρ161, w160⟩ := l153.1.2.1
      refine ⟨w160.km, rfl, _, _, _, _, _, _, c_Mo_narrowed w160, ⟨Nat.le_of_ble_eq_true rfl, Nat.le_of_ble_eq_true rfl, by (try dsimp only); omega, by (try dsimp only); omega⟩, fun _ _ z => False.elim z, ?_⟩
      rintro v9 H158 ⟨st9, r9, rfl⟩
      have l159 := l153.mf w160 st9
      exact j_use hF (back _ _ _ l159 (by omega) (by omega)) (And.intro rfl (And.intro rfl (And.intro rfl (And.intro rfl (And.intro rfl trivial)))))
    · skip
      conv => whnf
      obtain ⟨ρ165, w164⟩ := l153.1.2.1
      refine ⟨w164.km, rfl, _, _, _, _, _, _, c_Mo_narrowed w164, ⟨Nat.le_of_ble_eq_true rfl, Nat.le_of_ble_eq_true rfl, by (try dsimp only); omega, by (try dsimp only); omega⟩, fun _ _ z => False.elim z, ?_⟩
      rintro v9 H162 ⟨st9, r9, rfl⟩
      have l163 := l153.mf w164 st9
      exact j_use hF (back _ _ _ l163 (by omega) (by omega)) (And.intro rfl (And.intro rfl (And.intro rfl (And.intro rfl (And.intro rfl trivial)))))
set_option maxHeartbeats 4000000 in
set_option maxRecDepth 20000 in
theorem j_turn14 {J : j_J} {L sc x m out P G R Q cn sn : Nat} {i : Int32} {h : j_H} (hJ : j_Cl k_law j_lF j_lP j_no J) (hF : j_Fg J) (hL : L ≤ 2560) (i0 : 0 ≤ i.toInt) (i1 : i.toInt + 5 ≤ (L : Int)) (hc : cn ≤ 500000) (hs : sn ≤ 6000000) (lw : j_LW L sc x m out P G R Q h) (back : ∀ (h' : j_H) (cn' sn' : Nat), j_LW L sc x m out P G R Q h' → cn' ≤ cn + 200 → sn' ≤ sn + 2000 → J 1161 [some (j_r (some sc)), some (j_r (some x)), some (j_r (some m)), some (j_r (some out)), some (j_i i), none, none] [] h' cn' sn') : J 773 [some (j_r (some sc)), some (j_r (some x)), some (j_r (some m)), some (j_r (some out)), some (j_i i), none, none] [] h cn sn := by
  have q1 : (i + Int32.ofInt (1)).toInt = i.toInt + 1 := j_inc1 (by omega)
  have q2 : (i + Int32.ofInt (2)).toInt = i.toInt + 2 := j_i2 i0 (by omega)
  have q3 : (i + Int32.ofInt (3)).toInt = i.toInt + 3 := j_i3 i0 (by omega)
  have q4 : (i + Int32.ofInt (4)).toInt = i.toInt + 4 := j_i4 i0 (by omega)
  refine hJ [1161] 400 _ _ _ _ _ _ ?_
  conv => whnf
  have lsv166 : j_ln h sc = L := lw.1.2.2.2.2.2.2
  refine ⟨_, _, rfl, lw.1.2.2.2.2.2.1, rfl, j_vp (by omega) (by rw [lsv166]; omega), fun v166 ev166 => ?_⟩
  conv => whnf
  have lsv167 : j_ln h sc = L := lw.1.2.2.2.2.2.2
  refine ⟨_, _, rfl, lw.1.2.2.2.2.2.1, rfl, j_vp (by omega) (by rw [lsv167]; omega), fun v167 ev167 => ?_⟩
  conv => whnf
  refine ⟨rfl, _, _, _, _, _, _, c_Lw_ofPrint lw.1.1 lw.1.2.2.1, ⟨Nat.le_of_ble_eq_true rfl, Nat.le_of_ble_eq_true rfl, by (try dsimp only); omega, by (try dsimp only); omega⟩, fun _ _ z => False.elim z, ?_⟩
  rintro v9 H168 ⟨⟨r170, rfl⟩, fo⟩
  have l169 := (lw.fo fo).1
  conv => whnf
  have lsv171 : j_ln H168 sc = L := l169.1.2.2.2.2.2.2
  refine ⟨_, _, rfl, l169.1.2.2.2.2.2.1, rfl, j_vp (by omega) (by rw [lsv171]; omega), fun v171 ev171 => ?_⟩
  conv => whnf
  have lsv172 : j_ln H168 sc = L := l169.1.2.2.2.2.2.2
  refine ⟨_, _, rfl, l169.1.2.2.2.2.2.1, rfl, j_vp (by omega) (by rw [lsv172]; omega), fun v172 ev172 => ?_⟩
  conv => whnf
  obtain ⟨ρ176, w175⟩ := l169.1.2.1
  refine ⟨w175.km, rfl, _, _, _, _, _, _, c_Mo_ofPrint w175, ⟨Nat.le_of_ble_eq_true rfl, Nat.le_of_ble_eq_true rfl, by (try dsimp only); omega, by (try dsimp only); omega⟩, fun _ _ z => False.elim z, ?_⟩
  rintro v9 H173 ⟨st9, r9, rfl⟩
  have l174 := l169.mf w175 st9
  exact j_use hF (back _ _ _ l174 (by omega) (by omega)) (And.intro rfl (And.intro rfl (And.intro rfl (And.intro rfl (And.intro rfl trivial)))))
set_option maxHeartbeats 4000000 in
set_option maxRecDepth 20000 in
theorem j_turn15 {J : j_J} {L sc x m out P G R Q cn sn : Nat} {i : Int32} {h : j_H} (hJ : j_Cl k_law j_lF j_lP j_no J) (hF : j_Fg J) (hL : L ≤ 2560) (i0 : 0 ≤ i.toInt) (i1 : i.toInt + 5 ≤ (L : Int)) (hc : cn ≤ 500000) (hs : sn ≤ 6000000) (lw : j_LW L sc x m out P G R Q h) (back : ∀ (h' : j_H) (cn' sn' : Nat), j_LW L sc x m out P G R Q h' → cn' ≤ cn + 200 → sn' ≤ sn + 2000 → J 1161 [some (j_r (some sc)), some (j_r (some x)), some (j_r (some m)), some (j_r (some out)), some (j_i i), none, none] [] h' cn' sn') : J 813 [some (j_r (some sc)), some (j_r (some x)), some (j_r (some m)), some (j_r (some out)), some (j_i i), none, none] [] h cn sn := by
  have q1 : (i + Int32.ofInt (1)).toInt = i.toInt + 1 := j_inc1 (by omega)
  have q2 : (i + Int32.ofInt (2)).toInt = i.toInt + 2 := j_i2 i0 (by omega)
  have q3 : (i + Int32.ofInt (3)).toInt = i.toInt + 3 := j_i3 i0 (by omega)
  have q4 : (i + Int32.ofInt (4)).toInt = i.toInt + 4 := j_i4 i0 (by omega)
  refine hJ [1161] 400 _ _ _ _ _ _ ?_
  conv => whnf
  have lsv177 : j_ln h sc = L := lw.1.2.2.2.2.2.2
  refine ⟨_, _, rfl, lw.1.2.2.2.2.2.1, rfl, j_vp (by omega) (by rw [lsv177]; omega), fun v177 ev177 => ?_⟩
  conv => whnf
  refine ⟨rfl, _, _, _, _, _, _, c_Lw_lab lw.1.1 lw.1.2.2.1, ⟨Nat.le_of_ble_eq_true rfl, Nat.le_of_ble_eq_true rfl, by (try dsimp only); omega, by (try dsimp only); omega⟩, fun _ _ z => False.elim z, ?_⟩
  rintro v9 H178 ⟨⟨r180, rfl⟩, fo⟩
  have l179 := (lw.fo fo).1
  conv => whnf
  have lsv181 : j_ln H178 sc = L := l179.1.2.2.2.2.2.2
  refine ⟨_, _, rfl, l179.1.2.2.2.2.2.1, rfl, j_vp (by omega) (by rw [lsv181]; omega), fun v181 ev181 => ?_⟩
  conv => whnf
  obtain ⟨ρ185, w184⟩ := l179.1.2.1
  refine ⟨w184.km, rfl, _, _, _, _, _, _, c_Mo_lab w184, ⟨Nat.le_of_ble_eq_true rfl, Nat.le_of_ble_eq_true rfl, by (try dsimp only); omega, by (try dsimp only); omega⟩, fun _ _ z => False.elim z, ?_⟩
  rintro v9 H182 ⟨st9, r9, rfl⟩
  have l183 := l179.mf w184 st9
  exact j_use hF (back _ _ _ l183 (by omega) (by omega)) (And.intro rfl (And.intro rfl (And.intro rfl (And.intro rfl (And.intro rfl trivial)))))
set_option maxHeartbeats 4000000 in
set_option maxRecDepth 20000 in
theorem j_turn16 {J : j_J} {L sc x m out P G R Q cn sn : Nat} {i : Int32} {h : j_H} (hJ : j_Cl k_law j_lF j_lP j_no J) (hF : j_Fg J) (hL : L ≤ 2560) (i0 : 0 ≤ i.toInt) (i1 : i.toInt + 5 ≤ (L : Int)) (hc : cn ≤ 500000) (hs : sn ≤ 6000000) (lw : j_LW L sc x m out P G R Q h) (back : ∀ (h' : j_H) (cn' sn' : Nat), j_LW L sc x m out P G R Q h' → cn' ≤ cn + 200 → sn' ≤ sn + 2000 → J 1161 [some (j_r (some sc)), some (j_r (some x)), some (j_r (some m)), some (j_r (some out)), some (j_i i), none, none] [] h' cn' sn') : J 841 [some (j_r (some sc)), some (j_r (some x)), some (j_r (some m)), some (j_r (some out)), some (j_i i), none, none] [] h cn sn := by
  have q1 : (i + Int32.ofInt (1)).toInt = i.toInt + 1 := j_inc1 (by omega)
  have q2 : (i + Int32.ofInt (2)).toInt = i.toInt + 2 := j_i2 i0 (by omega)
  have q3 : (i + Int32.ofInt (3)).toInt = i.toInt + 3 := j_i3 i0 (by omega)
  have q4 : (i + Int32.ofInt (4)).toInt = i.toInt + 4 := j_i4 i0 (by omega)
  refine hJ [1161] 400 _ _ _ _ _ _ ?_
  conv => whnf
  have lsv186 : j_ln h sc = L := lw.1.2.2.2.2.2.2
  refine ⟨_, _, rfl, lw.1.2.2.2.2.2.1, rfl, j_vp (by omega) (by rw [lsv186]; omega), fun v186 ev186 => ?_⟩
  conv => whnf
  refine ⟨rfl, _, _, _, _, _, _, c_Lw_text lw.1.1 lw.1.2.2.2.1 lw.1.2.2.1, ⟨Nat.le_of_ble_eq_true rfl, Nat.le_of_ble_eq_true rfl, by (try dsimp only); omega, by (try dsimp only); omega⟩, fun _ _ z => False.elim z, ?_⟩
  rintro v9 H187 ⟨⟨r189, rfl⟩, fo⟩
  have l188 := (lw.fo fo).1
  conv => whnf
  have lsv190 : j_ln H187 sc = L := l188.1.2.2.2.2.2.2
  refine ⟨_, _, rfl, l188.1.2.2.2.2.2.1, rfl, j_vp (by omega) (by rw [lsv190]; omega), fun v190 ev190 => ?_⟩
  conv => whnf
  obtain ⟨ρ194, w193⟩ := l188.1.2.1
  refine ⟨w193.km, rfl, _, _, _, _, _, _, c_Mo_text w193 l188.1.2.2.2.1, ⟨Nat.le_of_ble_eq_true rfl, Nat.le_of_ble_eq_true rfl, by (try dsimp only); omega, by (try dsimp only); omega⟩, fun _ _ z => False.elim z, ?_⟩
  rintro v9 H191 ⟨st9, s9, rfl⟩
  have l192 := l188.mf w193 st9
  exact j_use hF (back _ _ _ l192 (by omega) (by omega)) (And.intro rfl (And.intro rfl (And.intro rfl (And.intro rfl (And.intro rfl trivial)))))
set_option maxHeartbeats 4000000 in
set_option maxRecDepth 20000 in
theorem j_turn17 {J : j_J} {L sc x m out P G R Q cn sn : Nat} {i : Int32} {h : j_H} (hJ : j_Cl k_law j_lF j_lP j_no J) (hF : j_Fg J) (hL : L ≤ 2560) (i0 : 0 ≤ i.toInt) (i1 : i.toInt + 5 ≤ (L : Int)) (hc : cn ≤ 500000) (hs : sn ≤ 6000000) (lw : j_LW L sc x m out P G R Q h) (back : ∀ (h' : j_H) (cn' sn' : Nat), j_LW L sc x m out P G R Q h' → cn' ≤ cn + 200 → sn' ≤ sn + 2000 → J 1161 [some (j_r (some sc)), some (j_r (some x)), some (j_r (some m)), some (j_r (some out)), some (j_i i), none, none] [] h' cn' sn') : J 869 [some (j_r (some sc)), some (j_r (some x)), some (j_r (some m)), some (j_r (some out)), some (j_i i), none, none] [] h cn sn := by
  have q1 : (i + Int32.ofInt (1)).toInt = i.toInt + 1 := j_inc1 (by omega)
  have q2 : (i + Int32.ofInt (2)).toInt = i.toInt + 2 := j_i2 i0 (by omega)
  have q3 : (i + Int32.ofInt (3)).toInt = i.toInt + 3 := j_i3 i0 (by omega)
  have q4 : (i + Int32.ofInt (4)).toInt = i.toInt + 4 := j_i4 i0 (by omega)
  refine hJ [1161] 400 _ _ _ _ _ _ ?_
  conv => whnf
  have lsv195 : j_ln h sc = L := lw.1.2.2.2.2.2.2
  refine ⟨_, _, rfl, lw.1.2.2.2.2.2.1, rfl, j_vp (by omega) (by rw [lsv195]; omega), fun v195 ev195 => ?_⟩
  conv => whnf
  have lsv196 : j_ln h sc = L := lw.1.2.2.2.2.2.2
  refine ⟨_, _, rfl, lw.1.2.2.2.2.2.1, rfl, j_vp (by omega) (by rw [lsv196]; omega), fun v196 ev196 => ?_⟩
  conv => whnf
  have lsv197 : j_ln h sc = L := lw.1.2.2.2.2.2.2
  refine ⟨_, _, rfl, lw.1.2.2.2.2.2.1, rfl, j_vp (by omega) (by rw [lsv197]; omega), fun v197 ev197 => ?_⟩
  conv => whnf
  refine ⟨rfl, _, _, _, _, _, _, c_Lw_left lw.1.1 lw.1.2.2.1, ⟨Nat.le_of_ble_eq_true rfl, Nat.le_of_ble_eq_true rfl, by (try dsimp only); omega, by (try dsimp only); omega⟩, fun _ _ z => False.elim z, ?_⟩
  rintro v9 H198 ⟨⟨r200, rfl⟩, fo⟩
  have l199 := (lw.fo fo).1
  conv => whnf
  have lsv201 : j_ln H198 sc = L := l199.1.2.2.2.2.2.2
  refine ⟨_, _, rfl, l199.1.2.2.2.2.2.1, rfl, j_vp (by omega) (by rw [lsv201]; omega), fun v201 ev201 => ?_⟩
  conv => whnf
  have lsv202 : j_ln H198 sc = L := l199.1.2.2.2.2.2.2
  refine ⟨_, _, rfl, l199.1.2.2.2.2.2.1, rfl, j_vp (by omega) (by rw [lsv202]; omega), fun v202 ev202 => ?_⟩
  conv => whnf
  have lsv203 : j_ln H198 sc = L := l199.1.2.2.2.2.2.2
  refine ⟨_, _, rfl, l199.1.2.2.2.2.2.1, rfl, j_vp (by omega) (by rw [lsv203]; omega), fun v203 ev203 => ?_⟩
  conv => whnf
  obtain ⟨ρ207, w206⟩ := l199.1.2.1
  refine ⟨w206.km, rfl, _, _, _, _, _, _, c_Mo_left w206, ⟨Nat.le_of_ble_eq_true rfl, Nat.le_of_ble_eq_true rfl, by (try dsimp only); omega, by (try dsimp only); omega⟩, fun _ _ z => False.elim z, ?_⟩
  rintro v9 H204 ⟨st9, r9, rfl⟩
  have l205 := l199.mf w206 st9
  exact j_use hF (back _ _ _ l205 (by omega) (by omega)) (And.intro rfl (And.intro rfl (And.intro rfl (And.intro rfl (And.intro rfl trivial)))))
set_option maxHeartbeats 4000000 in
set_option maxRecDepth 20000 in
theorem j_turn18 {J : j_J} {L sc x m out P G R Q cn sn : Nat} {i : Int32} {h : j_H} (hJ : j_Cl k_law j_lF j_lP j_no J) (hF : j_Fg J) (hL : L ≤ 2560) (i0 : 0 ≤ i.toInt) (i1 : i.toInt + 5 ≤ (L : Int)) (hc : cn ≤ 500000) (hs : sn ≤ 6000000) (lw : j_LW L sc x m out P G R Q h) (back : ∀ (h' : j_H) (cn' sn' : Nat), j_LW L sc x m out P G R Q h' → cn' ≤ cn + 200 → sn' ≤ sn + 2000 → J 1161 [some (j_r (some sc)), some (j_r (some x)), some (j_r (some m)), some (j_r (some out)), some (j_i i), none, none] [] h' cn' sn') : J 921 [some (j_r (some sc)), some (j_r (some x)), some (j_r (some m)), some (j_r (some out)), some (j_i i), none, none] [] h cn sn := by
  have q1 : (i + Int32.ofInt (1)).toInt = i.toInt + 1 := j_inc1 (by omega)
  have q2 : (i + Int32.ofInt (2)).toInt = i.toInt + 2 := j_i2 i0 (by omega)
  have q3 : (i + Int32.ofInt (3)).toInt = i.toInt + 3 := j_i3 i0 (by omega)
  have q4 : (i + Int32.ofInt (4)).toInt = i.toInt + 4 := j_i4 i0 (by omega)
  refine hJ [1161] 400 _ _ _ _ _ _ ?_
  conv => whnf
  have lsv208 : j_ln h sc = L := lw.1.2.2.2.2.2.2
  refine ⟨_, _, rfl, lw.1.2.2.2.2.2.1, rfl, j_vp (by omega) (by rw [lsv208]; omega), fun v208 ev208 => ?_⟩
  conv => whnf
  have lsv209 : j_ln h sc = L := lw.1.2.2.2.2.2.2
  refine ⟨_, _, rfl, lw.1.2.2.2.2.2.1, rfl, j_vp (by omega) (by rw [lsv209]; omega), fun v209 ev209 => ?_⟩
  conv => whnf
  have lsv210 : j_ln h sc = L := lw.1.2.2.2.2.2.2
  refine ⟨_, _, rfl, lw.1.2.2.2.2.2.1, rfl, j_vp (by omega) (by rw [lsv210]; omega), fun v210 ev210 => ?_⟩
  conv => whnf
  have lsv211 : j_ln h sc = L := lw.1.2.2.2.2.2.2
  refine ⟨_, _, rfl, lw.1.2.2.2.2.2.1, rfl, j_vp (by omega) (by rw [lsv211]; omega), fun v211 ev211 => ?_⟩
  conv => whnf
  refine ⟨fun c212 => ?_, fun c212 => ?_⟩
  · skip
    conv => whnf
    refine ⟨rfl, _, _, _, _, _, _, c_Lw_age lw.1.1 lw.1.2.2.1, ⟨Nat.le_of_ble_eq_true rfl, Nat.le_of_ble_eq_true rfl, by (try dsimp only); omega, by (try dsimp only); omega⟩, fun _ _ z => False.elim z, ?_⟩
    rintro v9 H213 ⟨⟨r215, rfl⟩, fo⟩
    have l214 := (lw.fo fo).1
    conv => whnf
    have lsv216 : j_ln H213 sc = L := l214.1.2.2.2.2.2.2
    refine ⟨_, _, rfl, l214.1.2.2.2.2.2.1, rfl, j_vp (by omega) (by rw [lsv216]; omega), fun v216 ev216 => ?_⟩
    conv => whnf
    have lsv217 : j_ln H213 sc = L := l214.1.2.2.2.2.2.2
    refine ⟨_, _, rfl, l214.1.2.2.2.2.2.1, rfl, j_vp (by omega) (by rw [lsv217]; omega), fun v217 ev217 => ?_⟩
    conv => whnf
    have lsv218 : j_ln H213 sc = L := l214.1.2.2.2.2.2.2
    refine ⟨_, _, rfl, l214.1.2.2.2.2.2.1, rfl, j_vp (by omega) (by rw [lsv218]; omega), fun v218 ev218 => ?_⟩
    conv => whnf
    have lsv219 : j_ln H213 sc = L := l214.1.2.2.2.2.2.2
    refine ⟨_, _, rfl, l214.1.2.2.2.2.2.1, rfl, j_vp (by omega) (by rw [lsv219]; omega), fun v219 ev219 => ?_⟩
    conv => whnf
    refine ⟨fun c220 => ?_, fun c220 => ?_⟩
    · skip
      conv => whnf
      obtain ⟨ρ224, w223⟩ := l214.1.2.1
      refine ⟨w223.km, rfl, _, _, _, _, _, _, c_Mo_age w223, ⟨Nat.le_of_ble_eq_true rfl, Nat.le_of_ble_eq_true rfl, by (try dsimp only); omega, by (try dsimp only); omega⟩, fun _ _ z => False.elim z, ?_⟩
      rintro v9 H221 ⟨st9, r9, rfl⟩
      have l222 := l214.mf w223 st9
      exact j_use hF (back _ _ _ l222 (by omega) (by omega)) (And.intro rfl (And.intro rfl (And.intro rfl (And.intro rfl (And.intro rfl trivial)))))
    · skip
      conv => whnf
      obtain ⟨ρ228, w227⟩ := l214.1.2.1
      refine ⟨w227.km, rfl, _, _, _, _, _, _, c_Mo_age w227, ⟨Nat.le_of_ble_eq_true rfl, Nat.le_of_ble_eq_true rfl, by (try dsimp only); omega, by (try dsimp only); omega⟩, fun _ _ z => False.elim z, ?_⟩
      rintro v9 H225 ⟨st9, r9, rfl⟩
      have l226 := l214.mf w227 st9
      exact j_use hF (back _ _ _ l226 (by omega) (by omega)) (And.intro rfl (And.intro rfl (And.intro rfl (And.intro rfl (And.intro rfl trivial)))))
  · skip
    conv => whnf
    refine ⟨rfl, _, _, _, _, _, _, c_Lw_age lw.1.1 lw.1.2.2.1, ⟨Nat.le_of_ble_eq_true rfl, Nat.le_of_ble_eq_true rfl, by (try dsimp only); omega, by (try dsimp only); omega⟩, fun _ _ z => False.elim z, ?_⟩
    rintro v9 H229 ⟨⟨r231, rfl⟩, fo⟩
    have l230 := (lw.fo fo).1
    conv => whnf
    have lsv232 : j_ln H229 sc = L := l230.1.2.2.2.2.2.2
    refine ⟨_, _, rfl, l230.1.2.2.2.2.2.1, rfl, j_vp (by omega) (by rw [lsv232]; omega), fun v232 ev232 => ?_⟩
    conv => whnf
    have lsv233 : j_ln H229 sc = L := l230.1.2.2.2.2.2.2
    refine ⟨_, _, rfl, l230.1.2.2.2.2.2.1, rfl, j_vp (by omega) (by rw [lsv233]; omega), fun v233 ev233 => ?_⟩
    conv => whnf
    have lsv234 : j_ln H229 sc = L := l230.1.2.2.2.2.2.2
    refine ⟨_, _, rfl, l230.1.2.2.2.2.2.1, rfl, j_vp (by omega) (by rw [lsv234]; omega), fun v234 ev234 => ?_⟩
    conv => whnf
    have lsv235 : j_ln H229 sc = L := l230.1.2.2.2.2.2.2
    refine ⟨_, _, rfl, l230.1.2.2.2.2.2.1, rfl, j_vp (by omega) (by rw [lsv235]; omega), fun v235 ev235 => ?_⟩
    conv => whnf
    refine ⟨fun c236 => ?_, fun c236 => ?_⟩
    · skip
      conv => whnf
      obtain ⟨ρ240, w239⟩ := l230.1.2.1
      refine ⟨w239.km, rfl, _, _, _, _, _, _, c_Mo_age w239, ⟨Nat.le_of_ble_eq_true rfl, Nat.le_of_ble_eq_true rfl, by (try dsimp only); omega, by (try dsimp only); omega⟩, fun _ _ z => False.elim z, ?_⟩
      rintro v9 H237 ⟨st9, r9, rfl⟩
      have l238 := l230.mf w239 st9
      exact j_use hF (back _ _ _ l238 (by omega) (by omega)) (And.intro rfl (And.intro rfl (And.intro rfl (And.intro rfl (And.intro rfl trivial)))))
    · skip
      conv => whnf
      obtain ⟨ρ244, w243⟩ := l230.1.2.1
      refine ⟨w243.km, rfl, _, _, _, _, _, _, c_Mo_age w243, ⟨Nat.le_of_ble_eq_true rfl, Nat.le_of_ble_eq_true rfl, by (try dsimp only); omega, by (try dsimp only); omega⟩, fun _ _ z => False.elim z, ?_⟩
      rintro v9 H241 ⟨st9, r9, rfl⟩
      have l242 := l230.mf w243 st9
      exact j_use hF (back _ _ _ l242 (by omega) (by omega)) (And.intro rfl (And.intro rfl (And.intro rfl (And.intro rfl (And.intro rfl trivial)))))
set_option maxHeartbeats 4000000 in
set_option maxRecDepth 20000 in
theorem j_turn19 {J : j_J} {L sc x m out P G R Q cn sn : Nat} {i : Int32} {h : j_H} (hJ : j_Cl k_law j_lF j_lP j_no J) (hF : j_Fg J) (hL : L ≤ 2560) (i0 : 0 ≤ i.toInt) (i1 : i.toInt + 5 ≤ (L : Int)) (hc : cn ≤ 500000) (hs : sn ≤ 6000000) (lw : j_LW L sc x m out P G R Q h) (back : ∀ (h' : j_H) (cn' sn' : Nat), j_LW L sc x m out P G R Q h' → cn' ≤ cn + 200 → sn' ≤ sn + 2000 → J 1161 [some (j_r (some sc)), some (j_r (some x)), some (j_r (some m)), some (j_r (some out)), some (j_i i), none, none] [] h' cn' sn') : J 1001 [some (j_r (some sc)), some (j_r (some x)), some (j_r (some m)), some (j_r (some out)), some (j_i i), none, none] [] h cn sn := by
  have q1 : (i + Int32.ofInt (1)).toInt = i.toInt + 1 := j_inc1 (by omega)
  have q2 : (i + Int32.ofInt (2)).toInt = i.toInt + 2 := j_i2 i0 (by omega)
  have q3 : (i + Int32.ofInt (3)).toInt = i.toInt + 3 := j_i3 i0 (by omega)
  have q4 : (i + Int32.ofInt (4)).toInt = i.toInt + 4 := j_i4 i0 (by omega)
  refine hJ [1161] 400 _ _ _ _ _ _ ?_
  conv => whnf
  refine ⟨lw.1.1.1, rfl, _, _, _, _, _, _, c_G_fewest (h := h) lw.1.1 j_Sc.rf, ⟨Nat.le_of_ble_eq_true rfl, Nat.le_of_ble_eq_true rfl, by (try dsimp only); omega, by (try dsimp only); omega⟩, fun _ _ z => False.elim z, ?_⟩
  rintro v9 H245 ⟨it247, e9, s9, r9, rfl⟩
  have fr9 : j_Fr x h H245 := by rw [e9]; exact j_Fr.sc lw.1.1 s9 j_sf_ok j_sf8
  have l246 := (lw.fo fr9.fo).1
  conv => whnf
  obtain ⟨ρ251, w250⟩ := l246.1.2.1
  refine ⟨w250.km, rfl, _, _, _, _, _, _, c_Mo_fewest w250, ⟨Nat.le_of_ble_eq_true rfl, Nat.le_of_ble_eq_true rfl, by (try dsimp only); omega, by (try dsimp only); omega⟩, fun _ _ z => False.elim z, ?_⟩
  rintro v9 H248 ⟨st9, r9, rfl⟩
  have l249 := l246.mf w250 st9
  exact j_use hF (back _ _ _ l249 (by omega) (by omega)) (And.intro rfl (And.intro rfl (And.intro rfl (And.intro rfl (And.intro rfl trivial)))))
set_option maxHeartbeats 4000000 in
set_option maxRecDepth 20000 in
theorem j_turn20 {J : j_J} {L sc x m out P G R Q cn sn : Nat} {i : Int32} {h : j_H} (hJ : j_Cl k_law j_lF j_lP j_no J) (hF : j_Fg J) (hL : L ≤ 2560) (i0 : 0 ≤ i.toInt) (i1 : i.toInt + 5 ≤ (L : Int)) (hc : cn ≤ 500000) (hs : sn ≤ 6000000) (lw : j_LW L sc x m out P G R Q h) (back : ∀ (h' : j_H) (cn' sn' : Nat), j_LW L sc x m out P G R Q h' → cn' ≤ cn + 200 → sn' ≤ sn + 2000 → J 1161 [some (j_r (some sc)), some (j_r (some x)), some (j_r (some m)), some (j_r (some out)), some (j_i i), none, none] [] h' cn' sn') : J 1014 [some (j_r (some sc)), some (j_r (some x)), some (j_r (some m)), some (j_r (some out)), some (j_i i), none, none] [] h cn sn := by
  have q1 : (i + Int32.ofInt (1)).toInt = i.toInt + 1 := j_inc1 (by omega)
  have q2 : (i + Int32.ofInt (2)).toInt = i.toInt + 2 := j_i2 i0 (by omega)
  have q3 : (i + Int32.ofInt (3)).toInt = i.toInt + 3 := j_i3 i0 (by omega)
  have q4 : (i + Int32.ofInt (4)).toInt = i.toInt + 4 := j_i4 i0 (by omega)
  refine hJ [1161] 400 _ _ _ _ _ _ ?_
  conv => whnf
  have lsv252 : j_ln h sc = L := lw.1.2.2.2.2.2.2
  refine ⟨_, _, rfl, lw.1.2.2.2.2.2.1, rfl, j_vp (by omega) (by rw [lsv252]; omega), fun v252 ev252 => ?_⟩
  conv => whnf
  refine ⟨fun c253 => ?_, fun c253 => ?_⟩
  · skip
    conv => whnf
    refine ⟨lw.1.1.1, rfl, _, _, _, _, _, _, c_G_bestSwap (h := h) lw.1.1 j_Sc.rf, ⟨Nat.le_of_ble_eq_true rfl, Nat.le_of_ble_eq_true rfl, by (try dsimp only); omega, by (try dsimp only); omega⟩, fun _ _ z => False.elim z, ?_⟩
    rintro v9 H254 ⟨it256, e9, s9, r9, rfl⟩
    have fr9 : j_Fr x h H254 := by rw [e9]; exact j_Fr.sc lw.1.1 s9 j_sf_ok j_sf8
    have l255 := (lw.fo fr9.fo).1
    conv => whnf
    have lsv257 : j_ln H254 sc = L := l255.1.2.2.2.2.2.2
    refine ⟨_, _, rfl, l255.1.2.2.2.2.2.1, rfl, j_vp (by omega) (by rw [lsv257]; omega), fun v257 ev257 => ?_⟩
    conv => whnf
    refine ⟨fun c258 => ?_, fun c258 => ?_⟩
    · skip
      conv => whnf
      obtain ⟨ρ262, w261⟩ := l255.1.2.1
      refine ⟨w261.km, rfl, _, _, _, _, _, _, c_Mo_bestSwap w261, ⟨Nat.le_of_ble_eq_true rfl, Nat.le_of_ble_eq_true rfl, by (try dsimp only); omega, by (try dsimp only); omega⟩, fun _ _ z => False.elim z, ?_⟩
      rintro v9 H259 ⟨st9, r9, rfl⟩
      have l260 := l255.mf w261 st9
      exact j_use hF (back _ _ _ l260 (by omega) (by omega)) (And.intro rfl (And.intro rfl (And.intro rfl (And.intro rfl (And.intro rfl trivial)))))
    · skip
      conv => whnf
      obtain ⟨ρ266, w265⟩ := l255.1.2.1
      refine ⟨w265.km, rfl, _, _, _, _, _, _, c_Mo_bestSwap w265, ⟨Nat.le_of_ble_eq_true rfl, Nat.le_of_ble_eq_true rfl, by (try dsimp only); omega, by (try dsimp only); omega⟩, fun _ _ z => False.elim z, ?_⟩
      rintro v9 H263 ⟨st9, r9, rfl⟩
      have l264 := l255.mf w265 st9
      exact j_use hF (back _ _ _ l264 (by omega) (by omega)) (And.intro rfl (And.intro rfl (And.intro rfl (And.intro rfl (And.intro rfl trivial)))))
  · skip
    conv => whnf
    refine ⟨lw.1.1.1, rfl, _, _, _, _, _, _, c_G_bestSwap (h := h) lw.1.1 j_Sc.rf, ⟨Nat.le_of_ble_eq_true rfl, Nat.le_of_ble_eq_true rfl, by (try dsimp only); omega, by (try dsimp only); omega⟩, fun _ _ z => False.elim z, ?_⟩
    rintro v9 H267 ⟨it269, e9, s9, r9, rfl⟩
    have fr9 : j_Fr x h H267 := by rw [e9]; exact j_Fr.sc lw.1.1 s9 j_sf_ok j_sf8
    have l268 := (lw.fo fr9.fo).1
    conv => whnf
    have lsv270 : j_ln H267 sc = L := l268.1.2.2.2.2.2.2
    refine ⟨_, _, rfl, l268.1.2.2.2.2.2.1, rfl, j_vp (by omega) (by rw [lsv270]; omega), fun v270 ev270 => ?_⟩
    conv => whnf
    refine ⟨fun c271 => ?_, fun c271 => ?_⟩
    · skip
      conv => whnf
      obtain ⟨ρ275, w274⟩ := l268.1.2.1
      refine ⟨w274.km, rfl, _, _, _, _, _, _, c_Mo_bestSwap w274, ⟨Nat.le_of_ble_eq_true rfl, Nat.le_of_ble_eq_true rfl, by (try dsimp only); omega, by (try dsimp only); omega⟩, fun _ _ z => False.elim z, ?_⟩
      rintro v9 H272 ⟨st9, r9, rfl⟩
      have l273 := l268.mf w274 st9
      exact j_use hF (back _ _ _ l273 (by omega) (by omega)) (And.intro rfl (And.intro rfl (And.intro rfl (And.intro rfl (And.intro rfl trivial)))))
    · skip
      conv => whnf
      obtain ⟨ρ279, w278⟩ := l268.1.2.1
      refine ⟨w278.km, rfl, _, _, _, _, _, _, c_Mo_bestSwap w278, ⟨Nat.le_of_ble_eq_true rfl, Nat.le_of_ble_eq_true rfl, by (try dsimp only); omega, by (try dsimp only); omega⟩, fun _ _ z => False.elim z, ?_⟩
      rintro v9 H276 ⟨st9, r9, rfl⟩
      have l277 := l268.mf w278 st9
      exact j_use hF (back _ _ _ l277 (by omega) (by omega)) (And.intro rfl (And.intro rfl (And.intro rfl (And.intro rfl (And.intro rfl trivial)))))
set_option maxHeartbeats 4000000 in
set_option maxRecDepth 20000 in
theorem j_turn21 {J : j_J} {L sc x m out P G R Q cn sn : Nat} {i : Int32} {h : j_H} (hJ : j_Cl k_law j_lF j_lP j_no J) (hF : j_Fg J) (hL : L ≤ 2560) (i0 : 0 ≤ i.toInt) (i1 : i.toInt + 5 ≤ (L : Int)) (hc : cn ≤ 500000) (hs : sn ≤ 6000000) (lw : j_LW L sc x m out P G R Q h) (back : ∀ (h' : j_H) (cn' sn' : Nat), j_LW L sc x m out P G R Q h' → cn' ≤ cn + 200 → sn' ≤ sn + 2000 → J 1161 [some (j_r (some sc)), some (j_r (some x)), some (j_r (some m)), some (j_r (some out)), some (j_i i), none, none] [] h' cn' sn') : J 1055 [some (j_r (some sc)), some (j_r (some x)), some (j_r (some m)), some (j_r (some out)), some (j_i i), none, none] [] h cn sn := by
  have q1 : (i + Int32.ofInt (1)).toInt = i.toInt + 1 := j_inc1 (by omega)
  have q2 : (i + Int32.ofInt (2)).toInt = i.toInt + 2 := j_i2 i0 (by omega)
  have q3 : (i + Int32.ofInt (3)).toInt = i.toInt + 3 := j_i3 i0 (by omega)
  have q4 : (i + Int32.ofInt (4)).toInt = i.toInt + 4 := j_i4 i0 (by omega)
  refine hJ [1161] 400 _ _ _ _ _ _ ?_
  conv => whnf
  have lsv280 : j_ln h sc = L := lw.1.2.2.2.2.2.2
  refine ⟨_, _, rfl, lw.1.2.2.2.2.2.1, rfl, j_vp (by omega) (by rw [lsv280]; omega), fun v280 ev280 => ?_⟩
  conv => whnf
  have lsv281 : j_ln h sc = L := lw.1.2.2.2.2.2.2
  refine ⟨_, _, rfl, lw.1.2.2.2.2.2.1, rfl, j_vp (by omega) (by rw [lsv281]; omega), fun v281 ev281 => ?_⟩
  conv => whnf
  refine ⟨rfl, _, _, _, _, _, _, c_Lw_changed lw.1.1 lw.1.2.2.1, ⟨Nat.le_of_ble_eq_true rfl, Nat.le_of_ble_eq_true rfl, by (try dsimp only); omega, by (try dsimp only); omega⟩, fun _ _ z => False.elim z, ?_⟩
  rintro v9 H282 ⟨⟨r284, rfl⟩, fo⟩
  have l283 := (lw.fo fo).1
  conv => whnf
  have lsv285 : j_ln H282 sc = L := l283.1.2.2.2.2.2.2
  refine ⟨_, _, rfl, l283.1.2.2.2.2.2.1, rfl, j_vp (by omega) (by rw [lsv285]; omega), fun v285 ev285 => ?_⟩
  conv => whnf
  have lsv286 : j_ln H282 sc = L := l283.1.2.2.2.2.2.2
  refine ⟨_, _, rfl, l283.1.2.2.2.2.2.1, rfl, j_vp (by omega) (by rw [lsv286]; omega), fun v286 ev286 => ?_⟩
  conv => whnf
  obtain ⟨ρ290, w289⟩ := l283.1.2.1
  refine ⟨w289.km, rfl, _, _, _, _, _, _, c_Mo_changed w289, ⟨Nat.le_of_ble_eq_true rfl, Nat.le_of_ble_eq_true rfl, by (try dsimp only); omega, by (try dsimp only); omega⟩, fun _ _ z => False.elim z, ?_⟩
  rintro v9 H287 ⟨st9, r9, rfl⟩
  have l288 := l283.mf w289 st9
  exact j_use hF (back _ _ _ l288 (by omega) (by omega)) (And.intro rfl (And.intro rfl (And.intro rfl (And.intro rfl (And.intro rfl trivial)))))
set_option maxHeartbeats 4000000 in
set_option maxRecDepth 20000 in
theorem j_turn22 {J : j_J} {L sc x m out P G R Q cn sn : Nat} {i : Int32} {h : j_H} (hJ : j_Cl k_law j_lF j_lP j_no J) (hF : j_Fg J) (hL : L ≤ 2560) (i0 : 0 ≤ i.toInt) (i1 : i.toInt + 5 ≤ (L : Int)) (hc : cn ≤ 500000) (hs : sn ≤ 6000000) (lw : j_LW L sc x m out P G R Q h) (back : ∀ (h' : j_H) (cn' sn' : Nat), j_LW L sc x m out P G R Q h' → cn' ≤ cn + 200 → sn' ≤ sn + 2000 → J 1161 [some (j_r (some sc)), some (j_r (some x)), some (j_r (some m)), some (j_r (some out)), some (j_i i), none, none] [] h' cn' sn') : J 1095 [some (j_r (some sc)), some (j_r (some x)), some (j_r (some m)), some (j_r (some out)), some (j_i i), none, none] [] h cn sn := by
  have q1 : (i + Int32.ofInt (1)).toInt = i.toInt + 1 := j_inc1 (by omega)
  have q2 : (i + Int32.ofInt (2)).toInt = i.toInt + 2 := j_i2 i0 (by omega)
  have q3 : (i + Int32.ofInt (3)).toInt = i.toInt + 3 := j_i3 i0 (by omega)
  have q4 : (i + Int32.ofInt (4)).toInt = i.toInt + 4 := j_i4 i0 (by omega)
  refine hJ [1161] 400 _ _ _ _ _ _ ?_
  conv => whnf
  have lsv291 : j_ln h sc = L := lw.1.2.2.2.2.2.2
  refine ⟨_, _, rfl, lw.1.2.2.2.2.2.1, rfl, j_vp (by omega) (by rw [lsv291]; omega), fun v291 ev291 => ?_⟩
  conv => whnf
  have lsv292 : j_ln h sc = L := lw.1.2.2.2.2.2.2
  refine ⟨_, _, rfl, lw.1.2.2.2.2.2.1, rfl, j_vp (by omega) (by rw [lsv292]; omega), fun v292 ev292 => ?_⟩
  conv => whnf
  refine ⟨rfl, _, _, _, _, _, _, c_Lw_wider lw.1.1 lw.1.2.2.1, ⟨Nat.le_of_ble_eq_true rfl, Nat.le_of_ble_eq_true rfl, by (try dsimp only); omega, by (try dsimp only); omega⟩, fun _ _ z => False.elim z, ?_⟩
  rintro v9 H293 ⟨⟨r295, rfl⟩, fo⟩
  have l294 := (lw.fo fo).1
  conv => whnf
  have lsv296 : j_ln H293 sc = L := l294.1.2.2.2.2.2.2
  refine ⟨_, _, rfl, l294.1.2.2.2.2.2.1, rfl, j_vp (by omega) (by rw [lsv296]; omega), fun v296 ev296 => ?_⟩
  conv => whnf
  have lsv297 : j_ln H293 sc = L := l294.1.2.2.2.2.2.2
  refine ⟨_, _, rfl, l294.1.2.2.2.2.2.1, rfl, j_vp (by omega) (by rw [lsv297]; omega), fun v297 ev297 => ?_⟩
  conv => whnf
  obtain ⟨ρ301, w300⟩ := l294.1.2.1
  refine ⟨w300.km, rfl, _, _, _, _, _, _, c_Mo_wider w300, ⟨Nat.le_of_ble_eq_true rfl, Nat.le_of_ble_eq_true rfl, by (try dsimp only); omega, by (try dsimp only); omega⟩, fun _ _ z => False.elim z, ?_⟩
  rintro v9 H298 ⟨st9, r9, rfl⟩
  have l299 := l294.mf w300 st9
  exact j_use hF (back _ _ _ l299 (by omega) (by omega)) (And.intro rfl (And.intro rfl (And.intro rfl (And.intro rfl (And.intro rfl trivial)))))
set_option maxHeartbeats 4000000 in
set_option maxRecDepth 20000 in
theorem j_turn23 {J : j_J} {L sc x m out P G R Q cn sn : Nat} {i : Int32} {h : j_H} (hJ : j_Cl k_law j_lF j_lP j_no J) (hF : j_Fg J) (hL : L ≤ 2560) (i0 : 0 ≤ i.toInt) (i1 : i.toInt + 5 ≤ (L : Int)) (hc : cn ≤ 500000) (hs : sn ≤ 6000000) (lw : j_LW L sc x m out P G R Q h) (back : ∀ (h' : j_H) (cn' sn' : Nat), j_LW L sc x m out P G R Q h' → cn' ≤ cn + 200 → sn' ≤ sn + 2000 → J 1161 [some (j_r (some sc)), some (j_r (some x)), some (j_r (some m)), some (j_r (some out)), some (j_i i), none, none] [] h' cn' sn') : J 1135 [some (j_r (some sc)), some (j_r (some x)), some (j_r (some m)), some (j_r (some out)), some (j_i i), none, none] [] h cn sn := by
  have q1 : (i + Int32.ofInt (1)).toInt = i.toInt + 1 := j_inc1 (by omega)
  have q2 : (i + Int32.ofInt (2)).toInt = i.toInt + 2 := j_i2 i0 (by omega)
  have q3 : (i + Int32.ofInt (3)).toInt = i.toInt + 3 := j_i3 i0 (by omega)
  have q4 : (i + Int32.ofInt (4)).toInt = i.toInt + 4 := j_i4 i0 (by omega)
  refine hJ [1161] 400 _ _ _ _ _ _ ?_
  conv => whnf
  refine ⟨lw.1.1.1, rfl, _, _, _, _, _, _, c_G_isSound (h := h) lw.1.1 j_Sc.rf, ⟨Nat.le_of_ble_eq_true rfl, Nat.le_of_ble_eq_true rfl, by (try dsimp only); omega, by (try dsimp only); omega⟩, fun _ _ z => False.elim z, ?_⟩
  rintro v9 H302 ⟨it304, e9, s9, r9, rfl, -⟩
  have fr9 : j_Fr x h H302 := by rw [e9]; exact j_Fr.sc lw.1.1 s9 j_sf_ok j_sf8
  have l303 := (lw.fo fr9.fo).1
  conv => whnf
  obtain ⟨ρ308, w307⟩ := l303.1.2.1
  refine ⟨w307.km, rfl, _, _, _, _, _, _, c_Mo_isSound w307, ⟨Nat.le_of_ble_eq_true rfl, Nat.le_of_ble_eq_true rfl, by (try dsimp only); omega, by (try dsimp only); omega⟩, fun _ _ z => False.elim z, ?_⟩
  rintro v9 H305 ⟨st9, r9, rfl, -⟩
  have l306 := l303.mf w307 st9
  exact j_use hF (back _ _ _ l306 (by omega) (by omega)) (And.intro rfl (And.intro rfl (And.intro rfl (And.intro rfl (And.intro rfl trivial)))))
set_option maxHeartbeats 4000000 in
set_option maxRecDepth 20000 in
theorem j_turn24 {J : j_J} {L sc x m out P G R Q cn sn : Nat} {i : Int32} {h : j_H} (hJ : j_Cl k_law j_lF j_lP j_no J) (hF : j_Fg J) (hL : L ≤ 2560) (i0 : 0 ≤ i.toInt) (i1 : i.toInt + 5 ≤ (L : Int)) (hc : cn ≤ 500000) (hs : sn ≤ 6000000) (lw : j_LW L sc x m out P G R Q h) (back : ∀ (h' : j_H) (cn' sn' : Nat), j_LW L sc x m out P G R Q h' → cn' ≤ cn + 200 → sn' ≤ sn + 2000 → J 1161 [some (j_r (some sc)), some (j_r (some x)), some (j_r (some m)), some (j_r (some out)), some (j_i i), none, none] [] h' cn' sn') : J 1148 [some (j_r (some sc)), some (j_r (some x)), some (j_r (some m)), some (j_r (some out)), some (j_i i), none, none] [] h cn sn := by
  have q1 : (i + Int32.ofInt (1)).toInt = i.toInt + 1 := j_inc1 (by omega)
  have q2 : (i + Int32.ofInt (2)).toInt = i.toInt + 2 := j_i2 i0 (by omega)
  have q3 : (i + Int32.ofInt (3)).toInt = i.toInt + 3 := j_i3 i0 (by omega)
  have q4 : (i + Int32.ofInt (4)).toInt = i.toInt + 4 := j_i4 i0 (by omega)
  refine hJ [1161] 400 _ _ _ _ _ _ ?_
  conv => whnf
  refine ⟨lw.1.1.1, rfl, _, _, _, _, _, _, c_G_digest (h := h) lw.1.1 j_Sc.rf, ⟨Nat.le_of_ble_eq_true rfl, Nat.le_of_ble_eq_true rfl, by (try dsimp only); omega, by (try dsimp only); omega⟩, fun _ _ z => False.elim z, ?_⟩
  rintro v9 H309 ⟨it311, e9, s9, r9, rfl⟩
  have fr9 : j_Fr x h H309 := by rw [e9]; exact j_Fr.sc lw.1.1 s9 j_sf_ok j_sf8
  have l310 := (lw.fo fr9.fo).1
  conv => whnf
  obtain ⟨ρ315, w314⟩ := l310.1.2.1
  refine ⟨w314.km, rfl, _, _, _, _, _, _, c_Mo_digest w314, ⟨Nat.le_of_ble_eq_true rfl, Nat.le_of_ble_eq_true rfl, by (try dsimp only); omega, by (try dsimp only); omega⟩, fun _ _ z => False.elim z, ?_⟩
  rintro v9 H312 ⟨st9, r9, rfl⟩
  have l313 := l310.mf w314 st9
  exact j_use hF (back _ _ _ l313 (by omega) (by omega)) (And.intro rfl (And.intro rfl (And.intro rfl (And.intro rfl (And.intro rfl trivial)))))
set_option maxHeartbeats 4000000 in
set_option maxRecDepth 20000 in
theorem j_lawloop {J : j_J} {L sc x m out P G R Q : Nat} (hJ : j_Cl k_law j_lF j_lP j_no J) (hF : j_Fg J) (hL : L ≤ 2560) : ∀ (k : Nat) (i : Int32) (h : j_H) (cn sn : Nat), j_LW L sc x m out P G R Q h → 0 ≤ i.toInt → i.toInt ≤ (L : Int) → ((L : Int) + 5 - i.toInt) < (k : Int) → cn ≤ 100 + 40 * i.toInt.toNat → sn ≤ 1000 + 400 * i.toInt.toNat → J 27 [some (j_r (some sc)), some (j_r (some x)), some (j_r (some m)), some (j_r (some out)), some (j_i i), none, none] [] h cn sn := by
  intro k
  induction k with
  | zero => intro i h cn sn lw i0 i1 hk hc hs; omega
  | succ k ih =>
    intro i h cn sn lw i0 i1 hk hc hs
    have q5 : (Int32.ofInt 5).toInt = 5 := by decide
    have ls : j_ln h sc = L := lw.1.2.2.2.2.2.2
    have hn : (nI (j_ln h sc)).toInt = (L : Int) := by rw [ls]; exact nI_toInt (by omega)
    have hs5 : (nI (j_ln h sc) - Int32.ofInt 5).toInt = (L : Int) - 5 := by rw [j_subI (by rw [hn, q5]; omega) (by rw [hn, q5]; omega), hn, q5]
    refine hJ [156, 208, 236, 276, 316, 385, 413, 477, 505, 545, 585, 625, 665, 717, 773, 813, 841, 869, 921, 1001, 1014, 1055, 1095, 1135, 1148, 1161] 400 _ _ _ _ _ _ ?_
    conv => whnf
    refine ⟨_, _, rfl, lw.1.2.2.2.2.2.1, ?_⟩
    conv => whnf
    refine ⟨fun c => ?_, fun c => ?_⟩
    · conv => whnf
      exact ⟨Or.inr rfl, ⟨by (try dsimp only); omega, by (try dsimp only); omega⟩, rfl⟩
    have c : ¬ (nI (j_ln h sc) - Int32.ofInt 5).toInt < i.toInt := c
    rw [hs5] at c
    have back : ∀ (h' : j_H) (cn' sn' : Nat), j_LW L sc x m out P G R Q h' → cn' ≤ cn + 200 → sn' ≤ sn + 2000 → J 1161 [some (j_r (some sc)), some (j_r (some x)), some (j_r (some m)), some (j_r (some out)), some (j_i i), none, none] [] h' cn' sn' := by
      intro h' cn' sn' lw' hc' hs'
      have t : (i + Int32.ofInt (5)).toInt = i.toInt + 5 := j_i5 i0 (by omega)
      refine hJ [27] 400 _ _ _ _ _ _ ?_
      conv => whnf
      exact j_use hF (ih (i + Int32.ofInt (5)) h' cn' sn' lw' (by omega) (by omega) (by omega) (by omega) (by omega)) (And.intro rfl (And.intro rfl (And.intro rfl (And.intro rfl (And.intro rfl trivial)))))
    conv => whnf
    refine ⟨_, _, rfl, lw.1.2.2.2.2.2.1, rfl, j_vp (by omega) (by omega), fun v _ => ?_⟩
    conv => whnf
    refine ⟨And.intro (fun _ => ?_) (And.intro (fun _ => ?_) (And.intro (fun _ => ?_) (And.intro (fun _ => ?_) (And.intro (fun _ => ?_) (And.intro (fun _ => ?_) (And.intro (fun _ => ?_) (And.intro (fun _ => ?_) (And.intro (fun _ => ?_) (And.intro (fun _ => ?_) (And.intro (fun _ => ?_) (And.intro (fun _ => ?_) (And.intro (fun _ => ?_) (And.intro (fun _ => ?_) (And.intro (fun _ => ?_) (And.intro (fun _ => ?_) (And.intro (fun _ => ?_) (And.intro (fun _ => ?_) (And.intro (fun _ => ?_) (And.intro (fun _ => ?_) (And.intro (fun _ => ?_) (And.intro (fun _ => ?_) (And.intro (fun _ => ?_) (And.intro (fun _ => ?_) (And.intro (fun _ => ?_) (trivial))))))))))))))))))))))))), fun _ => ?_⟩
    · exact j_use hF (j_turn0 hJ hF hL i0 (by omega) (by omega) (by omega) lw back) (And.intro rfl (And.intro rfl (And.intro rfl (And.intro rfl (And.intro rfl trivial)))))
    · exact j_use hF (j_turn1 hJ hF hL i0 (by omega) (by omega) (by omega) lw back) (And.intro rfl (And.intro rfl (And.intro rfl (And.intro rfl (And.intro rfl trivial)))))
    · exact j_use hF (j_turn2 hJ hF hL i0 (by omega) (by omega) (by omega) lw back) (And.intro rfl (And.intro rfl (And.intro rfl (And.intro rfl (And.intro rfl trivial)))))
    · exact j_use hF (j_turn3 hJ hF hL i0 (by omega) (by omega) (by omega) lw back) (And.intro rfl (And.intro rfl (And.intro rfl (And.intro rfl (And.intro rfl trivial)))))
    · exact j_use hF (j_turn4 hJ hF hL i0 (by omega) (by omega) (by omega) lw back) (And.intro rfl (And.intro rfl (And.intro rfl (And.intro rfl (And.intro rfl trivial)))))
    · exact j_use hF (j_turn5 hJ hF hL i0 (by omega) (by omega) (by omega) lw back) (And.intro rfl (And.intro rfl (And.intro rfl (And.intro rfl (And.intro rfl trivial)))))
    · exact j_use hF (j_turn6 hJ hF hL i0 (by omega) (by omega) (by omega) lw back) (And.intro rfl (And.intro rfl (And.intro rfl (And.intro rfl (And.intro rfl trivial)))))
    · exact j_use hF (j_turn7 hJ hF hL i0 (by omega) (by omega) (by omega) lw back) (And.intro rfl (And.intro rfl (And.intro rfl (And.intro rfl (And.intro rfl trivial)))))
    · exact j_use hF (j_turn8 hJ hF hL i0 (by omega) (by omega) (by omega) lw back) (And.intro rfl (And.intro rfl (And.intro rfl (And.intro rfl (And.intro rfl trivial)))))
    · exact j_use hF (j_turn9 hJ hF hL i0 (by omega) (by omega) (by omega) lw back) (And.intro rfl (And.intro rfl (And.intro rfl (And.intro rfl (And.intro rfl trivial)))))
    · exact j_use hF (j_turn10 hJ hF hL i0 (by omega) (by omega) (by omega) lw back) (And.intro rfl (And.intro rfl (And.intro rfl (And.intro rfl (And.intro rfl trivial)))))
    · exact j_use hF (j_turn11 hJ hF hL i0 (by omega) (by omega) (by omega) lw back) (And.intro rfl (And.intro rfl (And.intro rfl (And.intro rfl (And.intro rfl trivial)))))
    · exact j_use hF (j_turn12 hJ hF hL i0 (by omega) (by omega) (by omega) lw back) (And.intro rfl (And.intro rfl (And.intro rfl (And.intro rfl (And.intro rfl trivial)))))
    · exact j_use hF (j_turn13 hJ hF hL i0 (by omega) (by omega) (by omega) lw back) (And.intro rfl (And.intro rfl (And.intro rfl (And.intro rfl (And.intro rfl trivial)))))
    · exact j_use hF (j_turn14 hJ hF hL i0 (by omega) (by omega) (by omega) lw back) (And.intro rfl (And.intro rfl (And.intro rfl (And.intro rfl (And.intro rfl trivial)))))
    · exact j_use hF (j_turn15 hJ hF hL i0 (by omega) (by omega) (by omega) lw back) (And.intro rfl (And.intro rfl (And.intro rfl (And.intro rfl (And.intro rfl trivial)))))
    · exact j_use hF (j_turn16 hJ hF hL i0 (by omega) (by omega) (by omega) lw back) (And.intro rfl (And.intro rfl (And.intro rfl (And.intro rfl (And.intro rfl trivial)))))
    · exact j_use hF (j_turn17 hJ hF hL i0 (by omega) (by omega) (by omega) lw back) (And.intro rfl (And.intro rfl (And.intro rfl (And.intro rfl (And.intro rfl trivial)))))
    · exact j_use hF (j_turn18 hJ hF hL i0 (by omega) (by omega) (by omega) lw back) (And.intro rfl (And.intro rfl (And.intro rfl (And.intro rfl (And.intro rfl trivial)))))
    · exact j_use hF (j_turn19 hJ hF hL i0 (by omega) (by omega) (by omega) lw back) (And.intro rfl (And.intro rfl (And.intro rfl (And.intro rfl (And.intro rfl trivial)))))
    · exact j_use hF (j_turn20 hJ hF hL i0 (by omega) (by omega) (by omega) lw back) (And.intro rfl (And.intro rfl (And.intro rfl (And.intro rfl (And.intro rfl trivial)))))
    · exact j_use hF (j_turn21 hJ hF hL i0 (by omega) (by omega) (by omega) lw back) (And.intro rfl (And.intro rfl (And.intro rfl (And.intro rfl (And.intro rfl trivial)))))
    · exact j_use hF (j_turn22 hJ hF hL i0 (by omega) (by omega) (by omega) lw back) (And.intro rfl (And.intro rfl (And.intro rfl (And.intro rfl (And.intro rfl trivial)))))
    · exact j_use hF (j_turn23 hJ hF hL i0 (by omega) (by omega) (by omega) lw back) (And.intro rfl (And.intro rfl (And.intro rfl (And.intro rfl (And.intro rfl trivial)))))
    · exact j_use hF (j_turn24 hJ hF hL i0 (by omega) (by omega) (by omega) lw back) (And.intro rfl (And.intro rfl (And.intro rfl (And.intro rfl (And.intro rfl trivial)))))
    · exact j_use hF (back h cn sn lw (by omega) (by omega)) (And.intro rfl (And.intro rfl (And.intro rfl (And.intro rfl (And.intro rfl trivial)))))
