/-! the law's turns, one by one -/
theorem j_i2 {i : Int32} (h0 : 0 ≤ i.toInt) (h1 : i.toInt ≤ 100000) : (i + Int32.ofInt (2)).toInt = i.toInt + 2 := by
  have e : (Int32.ofInt (2)).toInt = 2 := by decide
  rw [j_addI (by omega) (by omega), e]
theorem j_i3 {i : Int32} (h0 : 0 ≤ i.toInt) (h1 : i.toInt ≤ 100000) : (i + Int32.ofInt (3)).toInt = i.toInt + 3 := by
  have e : (Int32.ofInt (3)).toInt = 3 := by decide
  rw [j_addI (by omega) (by omega), e]
theorem j_i4 {i : Int32} (h0 : 0 ≤ i.toInt) (h1 : i.toInt ≤ 100000) : (i + Int32.ofInt (4)).toInt = i.toInt + 4 := by
  have e : (Int32.ofInt (4)).toInt = 4 := by decide
  rw [j_addI (by omega) (by omega), e]
theorem j_i5 {i : Int32} (h0 : 0 ≤ i.toInt) (h1 : i.toInt ≤ 100000) : (i + Int32.ofInt (5)).toInt = i.toInt + 5 := by
  have e : (Int32.ofInt (5)).toInt = 5 := by decide
  rw [j_addI (by omega) (by omega), e]
abbrev j_lF : j_F := (7, some .boolean, 2048, 84000, 601024, 7293034)
def j_lP : Option j_V → j_H → Prop := fun v _ => v = some (j_i (Int32.ofInt 1))
theorem j_cmp0 (x : Int64) : (lg_cmp x x).toInt = 0 := by
  have e : lg_cmp x x = 0 := by
    unfold lg_cmp
    simp
  rw [e]
  decide
set_option maxHeartbeats 4000000 in
set_option maxRecDepth 20000 in
theorem j_turn0 {J : j_J} {L sc x m out P G R Q cn sn : Nat} {i : Int32} {h : j_H} (hJ : j_Cl k_law j_lF j_lP j_no J) (hF : j_Fg J) (hL : L ≤ 2560) (i0 : 0 ≤ i.toInt) (i1 : i.toInt + 5 ≤ (L : Int)) (hc : cn ≤ 500000) (hs : sn ≤ 6000000) (lw : j_LW L sc x m out P G R Q h) (back : ∀ (h' : j_H) (cn' sn' : Nat), j_LW L sc x m out P G R Q h' → cn' ≤ cn + 200 → sn' ≤ sn + 2000 → J 1161 [some (j_r (some sc)), some (j_r (some x)), some (j_r (some m)), some (j_r (some out)), some (j_i i), none, none] [] h' cn' sn') : J 156 [some (j_r (some sc)), some (j_r (some x)), some (j_r (some m)), some (j_r (some out)), some (j_i i), none, none] [] h cn sn := by
  have q1 : (i + Int32.ofInt (1)).toInt = i.toInt + 1 := j_inc1 (by omega)
  have q2 : (i + Int32.ofInt (2)).toInt = i.toInt + 2 := j_i2 i0 (by omega)
  have q3 : (i + Int32.ofInt (3)).toInt = i.toInt + 3 := j_i3 i0 (by omega)
  have q4 : (i + Int32.ofInt (4)).toInt = i.toInt + 4 := j_i4 i0 (by omega)
  refine hJ [1161] 400 _ _ _ _ _ _ ?_
  conv => whnf
  have lsv1 : j_ln h sc = L := lw.1.2.2.2.2.2.2
  refine ⟨_, _, rfl, lw.1.2.2.2.2.2.1, rfl, j_vp (by omega) (by rw [lsv1]; omega), fun v1 ev1 => ?_⟩
  conv => whnf
  have lsv2 : j_ln h sc = L := lw.1.2.2.2.2.2.2
  refine ⟨_, _, rfl, lw.1.2.2.2.2.2.1, rfl, j_vp (by omega) (by rw [lsv2]; omega), fun v2 ev2 => ?_⟩
  conv => whnf
  have lsv3 : j_ln h sc = L := lw.1.2.2.2.2.2.2
  refine ⟨_, _, rfl, lw.1.2.2.2.2.2.1, rfl, j_vp (by omega) (by rw [lsv3]; omega), fun v3 ev3 => ?_⟩
  conv => whnf
  refine ⟨rfl, _, _, _, _, _, _, c_Lw_grainq lw.1.1 lw.1.2.2.1, ⟨Nat.le_of_ble_eq_true rfl, Nat.le_of_ble_eq_true rfl, by (try dsimp only); omega, by (try dsimp only); omega⟩, fun _ _ z => False.elim z, ?_⟩
  rintro u9 H4 a
  obtain rfl := a.1
  obtain ⟨l1, s1, m1⟩ := lw.1.lq a
  conv => whnf
  have lsv6 : j_ln H4 sc = L := l1.2.2.2.2.2.2
  refine ⟨_, _, rfl, l1.2.2.2.2.2.1, rfl, j_vp (by omega) (by rw [lsv6]; omega), fun v6 ev6 => ?_⟩
  obtain rfl : v1 = v6 := ev1.symm.trans ((s1 _).symm.trans ev6)
  conv => whnf
  have lsv7 : j_ln H4 sc = L := l1.2.2.2.2.2.2
  refine ⟨_, _, rfl, l1.2.2.2.2.2.1, rfl, j_vp (by omega) (by rw [lsv7]; omega), fun v7 ev7 => ?_⟩
  obtain rfl : v2 = v7 := ev2.symm.trans ((s1 _).symm.trans ev7)
  conv => whnf
  have lsv8 : j_ln H4 sc = L := l1.2.2.2.2.2.2
  refine ⟨_, _, rfl, l1.2.2.2.2.2.1, rfl, j_vp (by omega) (by rw [lsv8]; omega), fun v8 ev8 => ?_⟩
  obtain rfl : v3 = v8 := ev3.symm.trans ((s1 _).symm.trans ev8)
  conv => whnf
  obtain ⟨ρ9, w9⟩ := l1.2.1
  have eq9 : ∀ k, j_aK k = true → j_am H4 m P G R k = j_ax h x k := fun k hk => (m1 k hk).trans (lw.2.2 k hk)
  refine ⟨w9.km, rfl, _, _, _, _, _, _, c_Mo_grainq w9, ⟨Nat.le_of_ble_eq_true rfl, Nat.le_of_ble_eq_true rfl, by (try dsimp only); omega, by (try dsimp only); omega⟩, fun _ _ z => False.elim z, ?_⟩
  rintro u9 H9 b
  have hq : q_grain (j_am H4 m P G R) v1 v2 v3 = q_grain (j_ax h x) v1 v2 v3 := q_grain_c eq9
  obtain ⟨lw2, o2⟩ := lw.told a b hq (fun _ => j_u1_c eq9 (by rw [eq9 0 rfl])) (fun _ => j_TV.u1 lw.2.1 (fun z => by omega))
  obtain ⟨r9, rfl⟩ := b.2.2.2.2.2.2
  conv => whnf
  have t2 := b.2.2.1
  rw [hq] at t2
  obtain ⟨ρ8, w8⟩ := lw2.1.2.1
  refine ⟨w8.km, rfl, _, _, _, _, _, _, c_Mo_thrownx w8.km, ⟨Nat.le_of_ble_eq_true rfl, Nat.le_of_ble_eq_true rfl, by (try dsimp only); omega, by (try dsimp only); omega⟩, fun _ _ z => False.elim z, ?_⟩
  rintro v7 h7 ⟨rfl, e7⟩
  obtain rfl : H9 = h7 := e7.symm
  rw [t2]
  conv => whnf
  refine ⟨fun _ => ?_, fun c => absurd rfl c⟩
  conv => whnf
  refine ⟨fun _ => ?_, fun c => ?_⟩
  · exact j_use hF (back _ _ _ lw2 (by omega) (by omega)) (And.intro rfl (And.intro rfl (And.intro rfl (And.intro rfl (And.intro rfl trivial)))))
  have c : ¬ ¬ (Int32.ofInt (q_grain (j_ax h x) v1 v2 v3)).toInt = 0 := c
  have z : q_grain (j_ax h x) v1 v2 v3 = 0 := j_nz q_grain_n (Decidable.not_not.mp c)
  obtain rfl : r9 = (j_ax h x) 0 := (Sum.inl.inj (Option.some.inj (b.2.2.2.2.2.1 (hq.trans z)))).trans (eq9 0 rfl)
  conv => whnf
  refine ⟨_, rfl, lw2.1.2.2.1, fun y ey => ?_⟩
  obtain rfl : y = ((j_ax h x) 0).toInt64 := ey.symm.trans (o2.trans (a.2.2.2.2 z))
  conv => whnf
  refine ⟨fun _ => ?_, fun c => absurd (j_cmp0 _) c⟩
  exact j_use hF (back _ _ _ lw2 (by omega) (by omega)) (And.intro rfl (And.intro rfl (And.intro rfl (And.intro rfl (And.intro rfl trivial)))))
set_option maxHeartbeats 4000000 in
set_option maxRecDepth 20000 in
theorem j_turn1 {J : j_J} {L sc x m out P G R Q cn sn : Nat} {i : Int32} {h : j_H} (hJ : j_Cl k_law j_lF j_lP j_no J) (hF : j_Fg J) (hL : L ≤ 2560) (i0 : 0 ≤ i.toInt) (i1 : i.toInt + 5 ≤ (L : Int)) (hc : cn ≤ 500000) (hs : sn ≤ 6000000) (lw : j_LW L sc x m out P G R Q h) (back : ∀ (h' : j_H) (cn' sn' : Nat), j_LW L sc x m out P G R Q h' → cn' ≤ cn + 200 → sn' ≤ sn + 2000 → J 1161 [some (j_r (some sc)), some (j_r (some x)), some (j_r (some m)), some (j_r (some out)), some (j_i i), none, none] [] h' cn' sn') : J 237 [some (j_r (some sc)), some (j_r (some x)), some (j_r (some m)), some (j_r (some out)), some (j_i i), none, none] [] h cn sn := by
  have q1 : (i + Int32.ofInt (1)).toInt = i.toInt + 1 := j_inc1 (by omega)
  have q2 : (i + Int32.ofInt (2)).toInt = i.toInt + 2 := j_i2 i0 (by omega)
  have q3 : (i + Int32.ofInt (3)).toInt = i.toInt + 3 := j_i3 i0 (by omega)
  have q4 : (i + Int32.ofInt (4)).toInt = i.toInt + 4 := j_i4 i0 (by omega)
  refine hJ [1161] 400 _ _ _ _ _ _ ?_
  conv => whnf
  have lsv13 : j_ln h sc = L := lw.1.2.2.2.2.2.2
  refine ⟨_, _, rfl, lw.1.2.2.2.2.2.1, rfl, j_vp (by omega) (by rw [lsv13]; omega), fun v13 ev13 => ?_⟩
  conv => whnf
  refine ⟨rfl, _, _, _, _, _, _, c_Lw_passq lw.1.1 lw.1.2.2.1, ⟨Nat.le_of_ble_eq_true rfl, Nat.le_of_ble_eq_true rfl, by (try dsimp only); omega, by (try dsimp only); omega⟩, fun _ _ z => False.elim z, ?_⟩
  rintro u9 H14 a
  obtain rfl := a.1
  obtain ⟨l1, s1, m1⟩ := lw.1.lq a
  conv => whnf
  have lsv16 : j_ln H14 sc = L := l1.2.2.2.2.2.2
  refine ⟨_, _, rfl, l1.2.2.2.2.2.1, rfl, j_vp (by omega) (by rw [lsv16]; omega), fun v16 ev16 => ?_⟩
  obtain rfl : v13 = v16 := ev13.symm.trans ((s1 _).symm.trans ev16)
  conv => whnf
  obtain ⟨ρ9, w9⟩ := l1.2.1
  have eq9 : ∀ k, j_aK k = true → j_am H14 m P G R k = j_ax h x k := fun k hk => (m1 k hk).trans (lw.2.2 k hk)
  refine ⟨w9.km, rfl, _, _, _, _, _, _, c_Mo_passq w9, ⟨Nat.le_of_ble_eq_true rfl, Nat.le_of_ble_eq_true rfl, by (try dsimp only); omega, by (try dsimp only); omega⟩, fun _ _ z => False.elim z, ?_⟩
  rintro u9 H17 b
  have hq : q_pass (j_am H14 m P G R) v13 = q_pass (j_ax h x) v13 := q_pass_c eq9
  obtain ⟨lw2, o2⟩ := lw.told a b hq (fun _ => j_u1_c eq9 (by rw [eq9 6 rfl])) (fun _ => j_TV.u1 lw.2.1 (fun z => by omega))
  obtain ⟨r9, rfl⟩ := b.2.2.2.2.2.2
  exact j_use hF (back _ _ _ lw2 (by omega) (by omega)) (And.intro rfl (And.intro rfl (And.intro rfl (And.intro rfl (And.intro rfl trivial)))))
set_option maxHeartbeats 4000000 in
set_option maxRecDepth 20000 in
theorem j_turn2 {J : j_J} {L sc x m out P G R Q cn sn : Nat} {i : Int32} {h : j_H} (hJ : j_Cl k_law j_lF j_lP j_no J) (hF : j_Fg J) (hL : L ≤ 2560) (i0 : 0 ≤ i.toInt) (i1 : i.toInt + 5 ≤ (L : Int)) (hc : cn ≤ 500000) (hs : sn ≤ 6000000) (lw : j_LW L sc x m out P G R Q h) (back : ∀ (h' : j_H) (cn' sn' : Nat), j_LW L sc x m out P G R Q h' → cn' ≤ cn + 200 → sn' ≤ sn + 2000 → J 1161 [some (j_r (some sc)), some (j_r (some x)), some (j_r (some m)), some (j_r (some out)), some (j_i i), none, none] [] h' cn' sn') : J 265 [some (j_r (some sc)), some (j_r (some x)), some (j_r (some m)), some (j_r (some out)), some (j_i i), none, none] [] h cn sn := by
  have q1 : (i + Int32.ofInt (1)).toInt = i.toInt + 1 := j_inc1 (by omega)
  have q2 : (i + Int32.ofInt (2)).toInt = i.toInt + 2 := j_i2 i0 (by omega)
  have q3 : (i + Int32.ofInt (3)).toInt = i.toInt + 3 := j_i3 i0 (by omega)
  have q4 : (i + Int32.ofInt (4)).toInt = i.toInt + 4 := j_i4 i0 (by omega)
  refine hJ [1161] 400 _ _ _ _ _ _ ?_
  conv => whnf
  have lsv19 : j_ln h sc = L := lw.1.2.2.2.2.2.2
  refine ⟨_, _, rfl, lw.1.2.2.2.2.2.1, rfl, j_vp (by omega) (by rw [lsv19]; omega), fun v19 ev19 => ?_⟩
  conv => whnf
  have lsv20 : j_ln h sc = L := lw.1.2.2.2.2.2.2
  refine ⟨_, _, rfl, lw.1.2.2.2.2.2.1, rfl, j_vp (by omega) (by rw [lsv20]; omega), fun v20 ev20 => ?_⟩
  conv => whnf
  refine ⟨rfl, _, _, _, _, _, _, c_Lw_heat lw.1.1 lw.1.2.2.1, ⟨Nat.le_of_ble_eq_true rfl, Nat.le_of_ble_eq_true rfl, by (try dsimp only); omega, by (try dsimp only); omega⟩, fun _ _ z => False.elim z, ?_⟩
  rintro v9 H21 ⟨⟨r23, rfl⟩, fo⟩
  have l22 := (lw.fo fo).1
  conv => whnf
  have lsv24 : j_ln H21 sc = L := l22.1.2.2.2.2.2.2
  refine ⟨_, _, rfl, l22.1.2.2.2.2.2.1, rfl, j_vp (by omega) (by rw [lsv24]; omega), fun v24 ev24 => ?_⟩
  conv => whnf
  have lsv25 : j_ln H21 sc = L := l22.1.2.2.2.2.2.2
  refine ⟨_, _, rfl, l22.1.2.2.2.2.2.1, rfl, j_vp (by omega) (by rw [lsv25]; omega), fun v25 ev25 => ?_⟩
  conv => whnf
  obtain ⟨ρ29, w28⟩ := l22.1.2.1
  refine ⟨w28.km, rfl, _, _, _, _, _, _, c_Mo_heat w28, ⟨Nat.le_of_ble_eq_true rfl, Nat.le_of_ble_eq_true rfl, by (try dsimp only); omega, by (try dsimp only); omega⟩, fun _ _ z => False.elim z, ?_⟩
  rintro v9 H26 ⟨st9, r9, rfl⟩
  have l27 := l22.mf w28 st9
  exact j_use hF (back _ _ _ l27 (by omega) (by omega)) (And.intro rfl (And.intro rfl (And.intro rfl (And.intro rfl (And.intro rfl trivial)))))
set_option maxHeartbeats 4000000 in
set_option maxRecDepth 20000 in
theorem j_turn3 {J : j_J} {L sc x m out P G R Q cn sn : Nat} {i : Int32} {h : j_H} (hJ : j_Cl k_law j_lF j_lP j_no J) (hF : j_Fg J) (hL : L ≤ 2560) (i0 : 0 ≤ i.toInt) (i1 : i.toInt + 5 ≤ (L : Int)) (hc : cn ≤ 500000) (hs : sn ≤ 6000000) (lw : j_LW L sc x m out P G R Q h) (back : ∀ (h' : j_H) (cn' sn' : Nat), j_LW L sc x m out P G R Q h' → cn' ≤ cn + 200 → sn' ≤ sn + 2000 → J 1161 [some (j_r (some sc)), some (j_r (some x)), some (j_r (some m)), some (j_r (some out)), some (j_i i), none, none] [] h' cn' sn') : J 305 [some (j_r (some sc)), some (j_r (some x)), some (j_r (some m)), some (j_r (some out)), some (j_i i), none, none] [] h cn sn := by
  have q1 : (i + Int32.ofInt (1)).toInt = i.toInt + 1 := j_inc1 (by omega)
  have q2 : (i + Int32.ofInt (2)).toInt = i.toInt + 2 := j_i2 i0 (by omega)
  have q3 : (i + Int32.ofInt (3)).toInt = i.toInt + 3 := j_i3 i0 (by omega)
  have q4 : (i + Int32.ofInt (4)).toInt = i.toInt + 4 := j_i4 i0 (by omega)
  refine hJ [1161] 400 _ _ _ _ _ _ ?_
  conv => whnf
  have lsv30 : j_ln h sc = L := lw.1.2.2.2.2.2.2
  refine ⟨_, _, rfl, lw.1.2.2.2.2.2.1, rfl, j_vp (by omega) (by rw [lsv30]; omega), fun v30 ev30 => ?_⟩
  conv => whnf
  have lsv31 : j_ln h sc = L := lw.1.2.2.2.2.2.2
  refine ⟨_, _, rfl, lw.1.2.2.2.2.2.1, rfl, j_vp (by omega) (by rw [lsv31]; omega), fun v31 ev31 => ?_⟩
  conv => whnf
  refine ⟨rfl, _, _, _, _, _, _, c_Lw_wash lw.1.1 lw.1.2.2.1, ⟨Nat.le_of_ble_eq_true rfl, Nat.le_of_ble_eq_true rfl, by (try dsimp only); omega, by (try dsimp only); omega⟩, fun _ _ z => False.elim z, ?_⟩
  rintro v9 H32 ⟨⟨r34, rfl⟩, fo⟩
  have l33 := (lw.fo fo).1
  conv => whnf
  have lsv35 : j_ln H32 sc = L := l33.1.2.2.2.2.2.2
  refine ⟨_, _, rfl, l33.1.2.2.2.2.2.1, rfl, j_vp (by omega) (by rw [lsv35]; omega), fun v35 ev35 => ?_⟩
  conv => whnf
  have lsv36 : j_ln H32 sc = L := l33.1.2.2.2.2.2.2
  refine ⟨_, _, rfl, l33.1.2.2.2.2.2.1, rfl, j_vp (by omega) (by rw [lsv36]; omega), fun v36 ev36 => ?_⟩
  conv => whnf
  obtain ⟨ρ40, w39⟩ := l33.1.2.1
  refine ⟨w39.km, rfl, _, _, _, _, _, _, c_Mo_wash w39, ⟨Nat.le_of_ble_eq_true rfl, Nat.le_of_ble_eq_true rfl, by (try dsimp only); omega, by (try dsimp only); omega⟩, fun _ _ z => False.elim z, ?_⟩
  rintro v9 H37 ⟨st9, r9, rfl⟩
  have l38 := l33.mf w39 st9
  exact j_use hF (back _ _ _ l38 (by omega) (by omega)) (And.intro rfl (And.intro rfl (And.intro rfl (And.intro rfl (And.intro rfl trivial)))))
set_option maxHeartbeats 4000000 in
set_option maxRecDepth 20000 in
theorem j_turn4 {J : j_J} {L sc x m out P G R Q cn sn : Nat} {i : Int32} {h : j_H} (hJ : j_Cl k_law j_lF j_lP j_no J) (hF : j_Fg J) (hL : L ≤ 2560) (i0 : 0 ≤ i.toInt) (i1 : i.toInt + 5 ≤ (L : Int)) (hc : cn ≤ 500000) (hs : sn ≤ 6000000) (lw : j_LW L sc x m out P G R Q h) (back : ∀ (h' : j_H) (cn' sn' : Nat), j_LW L sc x m out P G R Q h' → cn' ≤ cn + 200 → sn' ≤ sn + 2000 → J 1161 [some (j_r (some sc)), some (j_r (some x)), some (j_r (some m)), some (j_r (some out)), some (j_i i), none, none] [] h' cn' sn') : J 345 [some (j_r (some sc)), some (j_r (some x)), some (j_r (some m)), some (j_r (some out)), some (j_i i), none, none] [] h cn sn := by
  have q1 : (i + Int32.ofInt (1)).toInt = i.toInt + 1 := j_inc1 (by omega)
  have q2 : (i + Int32.ofInt (2)).toInt = i.toInt + 2 := j_i2 i0 (by omega)
  have q3 : (i + Int32.ofInt (3)).toInt = i.toInt + 3 := j_i3 i0 (by omega)
  have q4 : (i + Int32.ofInt (4)).toInt = i.toInt + 4 := j_i4 i0 (by omega)
  refine hJ [1161] 400 _ _ _ _ _ _ ?_
  conv => whnf
  have lsv41 : j_ln h sc = L := lw.1.2.2.2.2.2.2
  refine ⟨_, _, rfl, lw.1.2.2.2.2.2.1, rfl, j_vp (by omega) (by rw [lsv41]; omega), fun v41 ev41 => ?_⟩
  conv => whnf
  have lsv42 : j_ln h sc = L := lw.1.2.2.2.2.2.2
  refine ⟨_, _, rfl, lw.1.2.2.2.2.2.1, rfl, j_vp (by omega) (by rw [lsv42]; omega), fun v42 ev42 => ?_⟩
  conv => whnf
  refine ⟨rfl, _, _, _, _, _, _, c_Lw_paceq lw.1.1 lw.1.2.2.1, ⟨Nat.le_of_ble_eq_true rfl, Nat.le_of_ble_eq_true rfl, by (try dsimp only); omega, by (try dsimp only); omega⟩, fun _ _ z => False.elim z, ?_⟩
  rintro u9 H43 a
  obtain rfl := a.1
  obtain ⟨l1, s1, m1⟩ := lw.1.lq a
  conv => whnf
  have lsv45 : j_ln H43 sc = L := l1.2.2.2.2.2.2
  refine ⟨_, _, rfl, l1.2.2.2.2.2.1, rfl, j_vp (by omega) (by rw [lsv45]; omega), fun v45 ev45 => ?_⟩
  obtain rfl : v41 = v45 := ev41.symm.trans ((s1 _).symm.trans ev45)
  conv => whnf
  have lsv46 : j_ln H43 sc = L := l1.2.2.2.2.2.2
  refine ⟨_, _, rfl, l1.2.2.2.2.2.1, rfl, j_vp (by omega) (by rw [lsv46]; omega), fun v46 ev46 => ?_⟩
  obtain rfl : v42 = v46 := ev42.symm.trans ((s1 _).symm.trans ev46)
  conv => whnf
  obtain ⟨ρ9, w9⟩ := l1.2.1
  have eq9 : ∀ k, j_aK k = true → j_am H43 m P G R k = j_ax h x k := fun k hk => (m1 k hk).trans (lw.2.2 k hk)
  refine ⟨w9.km, rfl, _, _, _, _, _, _, c_Mo_paceq w9, ⟨Nat.le_of_ble_eq_true rfl, Nat.le_of_ble_eq_true rfl, by (try dsimp only); omega, by (try dsimp only); omega⟩, fun _ _ z => False.elim z, ?_⟩
  rintro u9 H47 b
  have hq : q_pace v41 v42 = q_pace v41 v42 := rfl
  obtain ⟨lw2, o2⟩ := lw.told a b hq (fun _ => j_u1_c eq9 rfl) (fun z => j_TV.u1 lw.2.1 (fun _ => q_pace_z z))
  obtain ⟨r9, rfl⟩ := b.2.2.2.2.2.2
  exact j_use hF (back _ _ _ lw2 (by omega) (by omega)) (And.intro rfl (And.intro rfl (And.intro rfl (And.intro rfl (And.intro rfl trivial)))))
set_option maxHeartbeats 4000000 in
set_option maxRecDepth 20000 in
theorem j_turn5 {J : j_J} {L sc x m out P G R Q cn sn : Nat} {i : Int32} {h : j_H} (hJ : j_Cl k_law j_lF j_lP j_no J) (hF : j_Fg J) (hL : L ≤ 2560) (i0 : 0 ≤ i.toInt) (i1 : i.toInt + 5 ≤ (L : Int)) (hc : cn ≤ 500000) (hs : sn ≤ 6000000) (lw : j_LW L sc x m out P G R Q h) (back : ∀ (h' : j_H) (cn' sn' : Nat), j_LW L sc x m out P G R Q h' → cn' ≤ cn + 200 → sn' ≤ sn + 2000 → J 1161 [some (j_r (some sc)), some (j_r (some x)), some (j_r (some m)), some (j_r (some out)), some (j_i i), none, none] [] h' cn' sn') : J 385 [some (j_r (some sc)), some (j_r (some x)), some (j_r (some m)), some (j_r (some out)), some (j_i i), none, none] [] h cn sn := by
  have q1 : (i + Int32.ofInt (1)).toInt = i.toInt + 1 := j_inc1 (by omega)
  have q2 : (i + Int32.ofInt (2)).toInt = i.toInt + 2 := j_i2 i0 (by omega)
  have q3 : (i + Int32.ofInt (3)).toInt = i.toInt + 3 := j_i3 i0 (by omega)
  have q4 : (i + Int32.ofInt (4)).toInt = i.toInt + 4 := j_i4 i0 (by omega)
  refine hJ [1161] 400 _ _ _ _ _ _ ?_
  conv => whnf
  have lsv49 : j_ln h sc = L := lw.1.2.2.2.2.2.2
  refine ⟨_, _, rfl, lw.1.2.2.2.2.2.1, rfl, j_vp (by omega) (by rw [lsv49]; omega), fun v49 ev49 => ?_⟩
  conv => whnf
  refine ⟨rfl, _, _, _, _, _, _, c_Lw_slipq lw.1.1 lw.1.2.2.1, ⟨Nat.le_of_ble_eq_true rfl, Nat.le_of_ble_eq_true rfl, by (try dsimp only); omega, by (try dsimp only); omega⟩, fun _ _ z => False.elim z, ?_⟩
  rintro u9 H50 a
  obtain rfl := a.1
  obtain ⟨l1, s1, m1⟩ := lw.1.lq a
  conv => whnf
  have lsv52 : j_ln H50 sc = L := l1.2.2.2.2.2.2
  refine ⟨_, _, rfl, l1.2.2.2.2.2.1, rfl, j_vp (by omega) (by rw [lsv52]; omega), fun v52 ev52 => ?_⟩
  obtain rfl : v49 = v52 := ev49.symm.trans ((s1 _).symm.trans ev52)
  conv => whnf
  obtain ⟨ρ9, w9⟩ := l1.2.1
  have eq9 : ∀ k, j_aK k = true → j_am H50 m P G R k = j_ax h x k := fun k hk => (m1 k hk).trans (lw.2.2 k hk)
  refine ⟨w9.km, rfl, _, _, _, _, _, _, c_Mo_slipq w9, ⟨Nat.le_of_ble_eq_true rfl, Nat.le_of_ble_eq_true rfl, by (try dsimp only); omega, by (try dsimp only); omega⟩, fun _ _ z => False.elim z, ?_⟩
  rintro u9 H53 b
  have hq : q_slip v49 = q_slip v49 := rfl
  obtain ⟨lw2, o2⟩ := lw.told a b hq (fun _ => j_u1_c eq9 rfl) (fun _ => j_TV.u1 lw.2.1 (fun z => by omega))
  obtain ⟨r9, rfl⟩ := b.2.2.2.2.2.2
  exact j_use hF (back _ _ _ lw2 (by omega) (by omega)) (And.intro rfl (And.intro rfl (And.intro rfl (And.intro rfl (And.intro rfl trivial)))))
set_option maxHeartbeats 4000000 in
set_option maxRecDepth 20000 in
theorem j_turn6 {J : j_J} {L sc x m out P G R Q cn sn : Nat} {i : Int32} {h : j_H} (hJ : j_Cl k_law j_lF j_lP j_no J) (hF : j_Fg J) (hL : L ≤ 2560) (i0 : 0 ≤ i.toInt) (i1 : i.toInt + 5 ≤ (L : Int)) (hc : cn ≤ 500000) (hs : sn ≤ 6000000) (lw : j_LW L sc x m out P G R Q h) (back : ∀ (h' : j_H) (cn' sn' : Nat), j_LW L sc x m out P G R Q h' → cn' ≤ cn + 200 → sn' ≤ sn + 2000 → J 1161 [some (j_r (some sc)), some (j_r (some x)), some (j_r (some m)), some (j_r (some out)), some (j_i i), none, none] [] h' cn' sn') : J 413 [some (j_r (some sc)), some (j_r (some x)), some (j_r (some m)), some (j_r (some out)), some (j_i i), none, none] [] h cn sn := by
  have q1 : (i + Int32.ofInt (1)).toInt = i.toInt + 1 := j_inc1 (by omega)
  have q2 : (i + Int32.ofInt (2)).toInt = i.toInt + 2 := j_i2 i0 (by omega)
  have q3 : (i + Int32.ofInt (3)).toInt = i.toInt + 3 := j_i3 i0 (by omega)
  have q4 : (i + Int32.ofInt (4)).toInt = i.toInt + 4 := j_i4 i0 (by omega)
  refine hJ [1161] 400 _ _ _ _ _ _ ?_
  conv => whnf
  have lsv55 : j_ln h sc = L := lw.1.2.2.2.2.2.2
  refine ⟨_, _, rfl, lw.1.2.2.2.2.2.1, rfl, j_vp (by omega) (by rw [lsv55]; omega), fun v55 ev55 => ?_⟩
  conv => whnf
  have lsv56 : j_ln h sc = L := lw.1.2.2.2.2.2.2
  refine ⟨_, _, rfl, lw.1.2.2.2.2.2.1, rfl, j_vp (by omega) (by rw [lsv56]; omega), fun v56 ev56 => ?_⟩
  conv => whnf
  have lsv57 : j_ln h sc = L := lw.1.2.2.2.2.2.2
  refine ⟨_, _, rfl, lw.1.2.2.2.2.2.1, rfl, j_vp (by omega) (by rw [lsv57]; omega), fun v57 ev57 => ?_⟩
  conv => whnf
  have lsv58 : j_ln h sc = L := lw.1.2.2.2.2.2.2
  refine ⟨_, _, rfl, lw.1.2.2.2.2.2.1, rfl, j_vp (by omega) (by rw [lsv58]; omega), fun v58 ev58 => ?_⟩
  conv => whnf
  refine ⟨rfl, _, _, _, _, _, _, c_Lw_runq lw.1.1 lw.1.2.2.1, ⟨Nat.le_of_ble_eq_true rfl, Nat.le_of_ble_eq_true rfl, by (try dsimp only); omega, by (try dsimp only); omega⟩, fun _ _ z => False.elim z, ?_⟩
  rintro u9 H59 a
  obtain rfl := a.1
  obtain ⟨l1, s1, m1⟩ := lw.1.lq a
  conv => whnf
  have lsv61 : j_ln H59 sc = L := l1.2.2.2.2.2.2
  refine ⟨_, _, rfl, l1.2.2.2.2.2.1, rfl, j_vp (by omega) (by rw [lsv61]; omega), fun v61 ev61 => ?_⟩
  obtain rfl : v55 = v61 := ev55.symm.trans ((s1 _).symm.trans ev61)
  conv => whnf
  have lsv62 : j_ln H59 sc = L := l1.2.2.2.2.2.2
  refine ⟨_, _, rfl, l1.2.2.2.2.2.1, rfl, j_vp (by omega) (by rw [lsv62]; omega), fun v62 ev62 => ?_⟩
  obtain rfl : v56 = v62 := ev56.symm.trans ((s1 _).symm.trans ev62)
  conv => whnf
  have lsv63 : j_ln H59 sc = L := l1.2.2.2.2.2.2
  refine ⟨_, _, rfl, l1.2.2.2.2.2.1, rfl, j_vp (by omega) (by rw [lsv63]; omega), fun v63 ev63 => ?_⟩
  obtain rfl : v57 = v63 := ev57.symm.trans ((s1 _).symm.trans ev63)
  conv => whnf
  have lsv64 : j_ln H59 sc = L := l1.2.2.2.2.2.2
  refine ⟨_, _, rfl, l1.2.2.2.2.2.1, rfl, j_vp (by omega) (by rw [lsv64]; omega), fun v64 ev64 => ?_⟩
  obtain rfl : v58 = v64 := ev58.symm.trans ((s1 _).symm.trans ev64)
  conv => whnf
  obtain ⟨ρ9, w9⟩ := l1.2.1
  have eq9 : ∀ k, j_aK k = true → j_am H59 m P G R k = j_ax h x k := fun k hk => (m1 k hk).trans (lw.2.2 k hk)
  refine ⟨w9.km, rfl, _, _, _, _, _, _, c_Mo_runq w9, ⟨Nat.le_of_ble_eq_true rfl, Nat.le_of_ble_eq_true rfl, by (try dsimp only); omega, by (try dsimp only); omega⟩, fun _ _ z => False.elim z, ?_⟩
  rintro u9 H65 b
  have hq : q_run (j_am H59 m P G R) v55 v56 v57 v58 = q_run (j_ax h x) v55 v56 v57 v58 := q_run_c eq9
  obtain ⟨lw2, o2⟩ := lw.told a b hq (fun _ => j_u1_c eq9 (by rw [eq9 1 rfl])) (fun _ => j_TV.u1 lw.2.1 (fun z => by omega))
  obtain ⟨r9, rfl⟩ := b.2.2.2.2.2.2
  exact j_use hF (back _ _ _ lw2 (by omega) (by omega)) (And.intro rfl (And.intro rfl (And.intro rfl (And.intro rfl (And.intro rfl trivial)))))
set_option maxHeartbeats 4000000 in
set_option maxRecDepth 20000 in
theorem j_turn7 {J : j_J} {L sc x m out P G R Q cn sn : Nat} {i : Int32} {h : j_H} (hJ : j_Cl k_law j_lF j_lP j_no J) (hF : j_Fg J) (hL : L ≤ 2560) (i0 : 0 ≤ i.toInt) (i1 : i.toInt + 5 ≤ (L : Int)) (hc : cn ≤ 500000) (hs : sn ≤ 6000000) (lw : j_LW L sc x m out P G R Q h) (back : ∀ (h' : j_H) (cn' sn' : Nat), j_LW L sc x m out P G R Q h' → cn' ≤ cn + 200 → sn' ≤ sn + 2000 → J 1161 [some (j_r (some sc)), some (j_r (some x)), some (j_r (some m)), some (j_r (some out)), some (j_i i), none, none] [] h' cn' sn') : J 477 [some (j_r (some sc)), some (j_r (some x)), some (j_r (some m)), some (j_r (some out)), some (j_i i), none, none] [] h cn sn := by
  have q1 : (i + Int32.ofInt (1)).toInt = i.toInt + 1 := j_inc1 (by omega)
  have q2 : (i + Int32.ofInt (2)).toInt = i.toInt + 2 := j_i2 i0 (by omega)
  have q3 : (i + Int32.ofInt (3)).toInt = i.toInt + 3 := j_i3 i0 (by omega)
  have q4 : (i + Int32.ofInt (4)).toInt = i.toInt + 4 := j_i4 i0 (by omega)
  refine hJ [1161] 400 _ _ _ _ _ _ ?_
  conv => whnf
  have lsv67 : j_ln h sc = L := lw.1.2.2.2.2.2.2
  refine ⟨_, _, rfl, lw.1.2.2.2.2.2.1, rfl, j_vp (by omega) (by rw [lsv67]; omega), fun v67 ev67 => ?_⟩
  conv => whnf
  refine ⟨rfl, _, _, _, _, _, _, c_Lw_withdraw lw.1.1 lw.1.2.2.1, ⟨Nat.le_of_ble_eq_true rfl, Nat.le_of_ble_eq_true rfl, by (try dsimp only); omega, by (try dsimp only); omega⟩, fun _ _ z => False.elim z, ?_⟩
  rintro v9 H68 ⟨⟨r70, rfl⟩, fo⟩
  have l69 := (lw.fo fo).1
  conv => whnf
  have lsv71 : j_ln H68 sc = L := l69.1.2.2.2.2.2.2
  refine ⟨_, _, rfl, l69.1.2.2.2.2.2.1, rfl, j_vp (by omega) (by rw [lsv71]; omega), fun v71 ev71 => ?_⟩
  conv => whnf
  obtain ⟨ρ75, w74⟩ := l69.1.2.1
  refine ⟨w74.km, rfl, _, _, _, _, _, _, c_Mo_withdraw w74, ⟨Nat.le_of_ble_eq_true rfl, Nat.le_of_ble_eq_true rfl, by (try dsimp only); omega, by (try dsimp only); omega⟩, fun _ _ z => False.elim z, ?_⟩
  rintro v9 H72 ⟨st9, r9, rfl⟩
  have l73 := l69.mf w74 st9
  exact j_use hF (back _ _ _ l73 (by omega) (by omega)) (And.intro rfl (And.intro rfl (And.intro rfl (And.intro rfl (And.intro rfl trivial)))))
set_option maxHeartbeats 4000000 in
set_option maxRecDepth 20000 in
theorem j_turn8 {J : j_J} {L sc x m out P G R Q cn sn : Nat} {i : Int32} {h : j_H} (hJ : j_Cl k_law j_lF j_lP j_no J) (hF : j_Fg J) (hL : L ≤ 2560) (i0 : 0 ≤ i.toInt) (i1 : i.toInt + 5 ≤ (L : Int)) (hc : cn ≤ 500000) (hs : sn ≤ 6000000) (lw : j_LW L sc x m out P G R Q h) (back : ∀ (h' : j_H) (cn' sn' : Nat), j_LW L sc x m out P G R Q h' → cn' ≤ cn + 200 → sn' ≤ sn + 2000 → J 1161 [some (j_r (some sc)), some (j_r (some x)), some (j_r (some m)), some (j_r (some out)), some (j_i i), none, none] [] h' cn' sn') : J 505 [some (j_r (some sc)), some (j_r (some x)), some (j_r (some m)), some (j_r (some out)), some (j_i i), none, none] [] h cn sn := by
  have q1 : (i + Int32.ofInt (1)).toInt = i.toInt + 1 := j_inc1 (by omega)
  have q2 : (i + Int32.ofInt (2)).toInt = i.toInt + 2 := j_i2 i0 (by omega)
  have q3 : (i + Int32.ofInt (3)).toInt = i.toInt + 3 := j_i3 i0 (by omega)
  have q4 : (i + Int32.ofInt (4)).toInt = i.toInt + 4 := j_i4 i0 (by omega)
  refine hJ [1161] 400 _ _ _ _ _ _ ?_
  conv => whnf
  have lsv76 : j_ln h sc = L := lw.1.2.2.2.2.2.2
  refine ⟨_, _, rfl, lw.1.2.2.2.2.2.1, rfl, j_vp (by omega) (by rw [lsv76]; omega), fun v76 ev76 => ?_⟩
  conv => whnf
  have lsv77 : j_ln h sc = L := lw.1.2.2.2.2.2.2
  refine ⟨_, _, rfl, lw.1.2.2.2.2.2.1, rfl, j_vp (by omega) (by rw [lsv77]; omega), fun v77 ev77 => ?_⟩
  conv => whnf
  refine ⟨rfl, _, _, _, _, _, _, c_Lw_swap lw.1.1 lw.1.2.2.1, ⟨Nat.le_of_ble_eq_true rfl, Nat.le_of_ble_eq_true rfl, by (try dsimp only); omega, by (try dsimp only); omega⟩, fun _ _ z => False.elim z, ?_⟩
  rintro v9 H78 ⟨⟨r80, rfl⟩, fo⟩
  have l79 := (lw.fo fo).1
  conv => whnf
  have lsv81 : j_ln H78 sc = L := l79.1.2.2.2.2.2.2
  refine ⟨_, _, rfl, l79.1.2.2.2.2.2.1, rfl, j_vp (by omega) (by rw [lsv81]; omega), fun v81 ev81 => ?_⟩
  conv => whnf
  have lsv82 : j_ln H78 sc = L := l79.1.2.2.2.2.2.2
  refine ⟨_, _, rfl, l79.1.2.2.2.2.2.1, rfl, j_vp (by omega) (by rw [lsv82]; omega), fun v82 ev82 => ?_⟩
  conv => whnf
  obtain ⟨ρ86, w85⟩ := l79.1.2.1
  refine ⟨w85.km, rfl, _, _, _, _, _, _, c_Mo_swap w85, ⟨Nat.le_of_ble_eq_true rfl, Nat.le_of_ble_eq_true rfl, by (try dsimp only); omega, by (try dsimp only); omega⟩, fun _ _ z => False.elim z, ?_⟩
  rintro v9 H83 ⟨st9, r9, rfl⟩
  have l84 := l79.mf w85 st9
  exact j_use hF (back _ _ _ l84 (by omega) (by omega)) (And.intro rfl (And.intro rfl (And.intro rfl (And.intro rfl (And.intro rfl trivial)))))
set_option maxHeartbeats 4000000 in
set_option maxRecDepth 20000 in
theorem j_turn9 {J : j_J} {L sc x m out P G R Q cn sn : Nat} {i : Int32} {h : j_H} (hJ : j_Cl k_law j_lF j_lP j_no J) (hF : j_Fg J) (hL : L ≤ 2560) (i0 : 0 ≤ i.toInt) (i1 : i.toInt + 5 ≤ (L : Int)) (hc : cn ≤ 500000) (hs : sn ≤ 6000000) (lw : j_LW L sc x m out P G R Q h) (back : ∀ (h' : j_H) (cn' sn' : Nat), j_LW L sc x m out P G R Q h' → cn' ≤ cn + 200 → sn' ≤ sn + 2000 → J 1161 [some (j_r (some sc)), some (j_r (some x)), some (j_r (some m)), some (j_r (some out)), some (j_i i), none, none] [] h' cn' sn') : J 545 [some (j_r (some sc)), some (j_r (some x)), some (j_r (some m)), some (j_r (some out)), some (j_i i), none, none] [] h cn sn := by
  have q1 : (i + Int32.ofInt (1)).toInt = i.toInt + 1 := j_inc1 (by omega)
  have q2 : (i + Int32.ofInt (2)).toInt = i.toInt + 2 := j_i2 i0 (by omega)
  have q3 : (i + Int32.ofInt (3)).toInt = i.toInt + 3 := j_i3 i0 (by omega)
  have q4 : (i + Int32.ofInt (4)).toInt = i.toInt + 4 := j_i4 i0 (by omega)
  refine hJ [1161] 400 _ _ _ _ _ _ ?_
  conv => whnf
  have lsv87 : j_ln h sc = L := lw.1.2.2.2.2.2.2
  refine ⟨_, _, rfl, lw.1.2.2.2.2.2.1, rfl, j_vp (by omega) (by rw [lsv87]; omega), fun v87 ev87 => ?_⟩
  conv => whnf
  have lsv88 : j_ln h sc = L := lw.1.2.2.2.2.2.2
  refine ⟨_, _, rfl, lw.1.2.2.2.2.2.1, rfl, j_vp (by omega) (by rw [lsv88]; omega), fun v88 ev88 => ?_⟩
  conv => whnf
  refine ⟨rfl, _, _, _, _, _, _, c_Lw_print lw.1.1 lw.1.2.2.1, ⟨Nat.le_of_ble_eq_true rfl, Nat.le_of_ble_eq_true rfl, by (try dsimp only); omega, by (try dsimp only); omega⟩, fun _ _ z => False.elim z, ?_⟩
  rintro v9 H89 ⟨⟨r91, rfl⟩, fo⟩
  have l90 := (lw.fo fo).1
  conv => whnf
  have lsv92 : j_ln H89 sc = L := l90.1.2.2.2.2.2.2
  refine ⟨_, _, rfl, l90.1.2.2.2.2.2.1, rfl, j_vp (by omega) (by rw [lsv92]; omega), fun v92 ev92 => ?_⟩
  conv => whnf
  have lsv93 : j_ln H89 sc = L := l90.1.2.2.2.2.2.2
  refine ⟨_, _, rfl, l90.1.2.2.2.2.2.1, rfl, j_vp (by omega) (by rw [lsv93]; omega), fun v93 ev93 => ?_⟩
  conv => whnf
  obtain ⟨ρ97, w96⟩ := l90.1.2.1
  refine ⟨w96.km, rfl, _, _, _, _, _, _, c_Mo_print w96, ⟨Nat.le_of_ble_eq_true rfl, Nat.le_of_ble_eq_true rfl, by (try dsimp only); omega, by (try dsimp only); omega⟩, fun _ _ z => False.elim z, ?_⟩
  rintro v9 H94 ⟨w9, g9, r9, rfl⟩
  have l95 := l90.mg w9 g9
  exact j_use hF (back _ _ _ l95 (by omega) (by omega)) (And.intro rfl (And.intro rfl (And.intro rfl (And.intro rfl (And.intro rfl trivial)))))
set_option maxHeartbeats 4000000 in
set_option maxRecDepth 20000 in
theorem j_turn10 {J : j_J} {L sc x m out P G R Q cn sn : Nat} {i : Int32} {h : j_H} (hJ : j_Cl k_law j_lF j_lP j_no J) (hF : j_Fg J) (hL : L ≤ 2560) (i0 : 0 ≤ i.toInt) (i1 : i.toInt + 5 ≤ (L : Int)) (hc : cn ≤ 500000) (hs : sn ≤ 6000000) (lw : j_LW L sc x m out P G R Q h) (back : ∀ (h' : j_H) (cn' sn' : Nat), j_LW L sc x m out P G R Q h' → cn' ≤ cn + 200 → sn' ≤ sn + 2000 → J 1161 [some (j_r (some sc)), some (j_r (some x)), some (j_r (some m)), some (j_r (some out)), some (j_i i), none, none] [] h' cn' sn') : J 585 [some (j_r (some sc)), some (j_r (some x)), some (j_r (some m)), some (j_r (some out)), some (j_i i), none, none] [] h cn sn := by
  have q1 : (i + Int32.ofInt (1)).toInt = i.toInt + 1 := j_inc1 (by omega)
  have q2 : (i + Int32.ofInt (2)).toInt = i.toInt + 2 := j_i2 i0 (by omega)
  have q3 : (i + Int32.ofInt (3)).toInt = i.toInt + 3 := j_i3 i0 (by omega)
  have q4 : (i + Int32.ofInt (4)).toInt = i.toInt + 4 := j_i4 i0 (by omega)
  refine hJ [1161] 400 _ _ _ _ _ _ ?_
  conv => whnf
  have lsv98 : j_ln h sc = L := lw.1.2.2.2.2.2.2
  refine ⟨_, _, rfl, lw.1.2.2.2.2.2.1, rfl, j_vp (by omega) (by rw [lsv98]; omega), fun v98 ev98 => ?_⟩
  conv => whnf
  have lsv99 : j_ln h sc = L := lw.1.2.2.2.2.2.2
  refine ⟨_, _, rfl, lw.1.2.2.2.2.2.1, rfl, j_vp (by omega) (by rw [lsv99]; omega), fun v99 ev99 => ?_⟩
  conv => whnf
  refine ⟨rfl, _, _, _, _, _, _, c_Lw_ofGrain lw.1.1 lw.1.2.2.1, ⟨Nat.le_of_ble_eq_true rfl, Nat.le_of_ble_eq_true rfl, by (try dsimp only); omega, by (try dsimp only); omega⟩, fun _ _ z => False.elim z, ?_⟩
  rintro v9 H100 ⟨⟨r102, rfl⟩, fo⟩
  have l101 := (lw.fo fo).1
  conv => whnf
  have lsv103 : j_ln H100 sc = L := l101.1.2.2.2.2.2.2
  refine ⟨_, _, rfl, l101.1.2.2.2.2.2.1, rfl, j_vp (by omega) (by rw [lsv103]; omega), fun v103 ev103 => ?_⟩
  conv => whnf
  have lsv104 : j_ln H100 sc = L := l101.1.2.2.2.2.2.2
  refine ⟨_, _, rfl, l101.1.2.2.2.2.2.1, rfl, j_vp (by omega) (by rw [lsv104]; omega), fun v104 ev104 => ?_⟩
  conv => whnf
  obtain ⟨ρ108, w107⟩ := l101.1.2.1
  refine ⟨w107.km, rfl, _, _, _, _, _, _, c_Mo_ofGrain w107, ⟨Nat.le_of_ble_eq_true rfl, Nat.le_of_ble_eq_true rfl, by (try dsimp only); omega, by (try dsimp only); omega⟩, fun _ _ z => False.elim z, ?_⟩
  rintro v9 H105 ⟨st9, r9, rfl⟩
  have l106 := l101.mf w107 st9
  exact j_use hF (back _ _ _ l106 (by omega) (by omega)) (And.intro rfl (And.intro rfl (And.intro rfl (And.intro rfl (And.intro rfl trivial)))))
set_option maxHeartbeats 4000000 in
set_option maxRecDepth 20000 in
theorem j_turn11 {J : j_J} {L sc x m out P G R Q cn sn : Nat} {i : Int32} {h : j_H} (hJ : j_Cl k_law j_lF j_lP j_no J) (hF : j_Fg J) (hL : L ≤ 2560) (i0 : 0 ≤ i.toInt) (i1 : i.toInt + 5 ≤ (L : Int)) (hc : cn ≤ 500000) (hs : sn ≤ 6000000) (lw : j_LW L sc x m out P G R Q h) (back : ∀ (h' : j_H) (cn' sn' : Nat), j_LW L sc x m out P G R Q h' → cn' ≤ cn + 200 → sn' ≤ sn + 2000 → J 1161 [some (j_r (some sc)), some (j_r (some x)), some (j_r (some m)), some (j_r (some out)), some (j_i i), none, none] [] h' cn' sn') : J 625 [some (j_r (some sc)), some (j_r (some x)), some (j_r (some m)), some (j_r (some out)), some (j_i i), none, none] [] h cn sn := by
  have q1 : (i + Int32.ofInt (1)).toInt = i.toInt + 1 := j_inc1 (by omega)
  have q2 : (i + Int32.ofInt (2)).toInt = i.toInt + 2 := j_i2 i0 (by omega)
  have q3 : (i + Int32.ofInt (3)).toInt = i.toInt + 3 := j_i3 i0 (by omega)
  have q4 : (i + Int32.ofInt (4)).toInt = i.toInt + 4 := j_i4 i0 (by omega)
  refine hJ [1161] 400 _ _ _ _ _ _ ?_
  conv => whnf
  have lsv109 : j_ln h sc = L := lw.1.2.2.2.2.2.2
  refine ⟨_, _, rfl, lw.1.2.2.2.2.2.1, rfl, j_vp (by omega) (by rw [lsv109]; omega), fun v109 ev109 => ?_⟩
  conv => whnf
  have lsv110 : j_ln h sc = L := lw.1.2.2.2.2.2.2
  refine ⟨_, _, rfl, lw.1.2.2.2.2.2.1, rfl, j_vp (by omega) (by rw [lsv110]; omega), fun v110 ev110 => ?_⟩
  conv => whnf
  refine ⟨rfl, _, _, _, _, _, _, c_Lw_ofRun lw.1.1 lw.1.2.2.1, ⟨Nat.le_of_ble_eq_true rfl, Nat.le_of_ble_eq_true rfl, by (try dsimp only); omega, by (try dsimp only); omega⟩, fun _ _ z => False.elim z, ?_⟩
  rintro v9 H111 ⟨⟨r113, rfl⟩, fo⟩
  have l112 := (lw.fo fo).1
  conv => whnf
  have lsv114 : j_ln H111 sc = L := l112.1.2.2.2.2.2.2
  refine ⟨_, _, rfl, l112.1.2.2.2.2.2.1, rfl, j_vp (by omega) (by rw [lsv114]; omega), fun v114 ev114 => ?_⟩
  conv => whnf
  have lsv115 : j_ln H111 sc = L := l112.1.2.2.2.2.2.2
  refine ⟨_, _, rfl, l112.1.2.2.2.2.2.1, rfl, j_vp (by omega) (by rw [lsv115]; omega), fun v115 ev115 => ?_⟩
  conv => whnf
  obtain ⟨ρ119, w118⟩ := l112.1.2.1
  refine ⟨w118.km, rfl, _, _, _, _, _, _, c_Mo_ofRun w118, ⟨Nat.le_of_ble_eq_true rfl, Nat.le_of_ble_eq_true rfl, by (try dsimp only); omega, by (try dsimp only); omega⟩, fun _ _ z => False.elim z, ?_⟩
  rintro v9 H116 ⟨st9, r9, rfl⟩
  have l117 := l112.mf w118 st9
  exact j_use hF (back _ _ _ l117 (by omega) (by omega)) (And.intro rfl (And.intro rfl (And.intro rfl (And.intro rfl (And.intro rfl trivial)))))
set_option maxHeartbeats 4000000 in
set_option maxRecDepth 20000 in
theorem j_turn12 {J : j_J} {L sc x m out P G R Q cn sn : Nat} {i : Int32} {h : j_H} (hJ : j_Cl k_law j_lF j_lP j_no J) (hF : j_Fg J) (hL : L ≤ 2560) (i0 : 0 ≤ i.toInt) (i1 : i.toInt + 5 ≤ (L : Int)) (hc : cn ≤ 500000) (hs : sn ≤ 6000000) (lw : j_LW L sc x m out P G R Q h) (back : ∀ (h' : j_H) (cn' sn' : Nat), j_LW L sc x m out P G R Q h' → cn' ≤ cn + 200 → sn' ≤ sn + 2000 → J 1161 [some (j_r (some sc)), some (j_r (some x)), some (j_r (some m)), some (j_r (some out)), some (j_i i), none, none] [] h' cn' sn') : J 665 [some (j_r (some sc)), some (j_r (some x)), some (j_r (some m)), some (j_r (some out)), some (j_i i), none, none] [] h cn sn := by
  have q1 : (i + Int32.ofInt (1)).toInt = i.toInt + 1 := j_inc1 (by omega)
  have q2 : (i + Int32.ofInt (2)).toInt = i.toInt + 2 := j_i2 i0 (by omega)
  have q3 : (i + Int32.ofInt (3)).toInt = i.toInt + 3 := j_i3 i0 (by omega)
  have q4 : (i + Int32.ofInt (4)).toInt = i.toInt + 4 := j_i4 i0 (by omega)
  refine hJ [1161] 400 _ _ _ _ _ _ ?_
  conv => whnf
  have lsv120 : j_ln h sc = L := lw.1.2.2.2.2.2.2
  refine ⟨_, _, rfl, lw.1.2.2.2.2.2.1, rfl, j_vp (by omega) (by rw [lsv120]; omega), fun v120 ev120 => ?_⟩
  conv => whnf
  have lsv121 : j_ln h sc = L := lw.1.2.2.2.2.2.2
  refine ⟨_, _, rfl, lw.1.2.2.2.2.2.1, rfl, j_vp (by omega) (by rw [lsv121]; omega), fun v121 ev121 => ?_⟩
  conv => whnf
  have lsv122 : j_ln h sc = L := lw.1.2.2.2.2.2.2
  refine ⟨_, _, rfl, lw.1.2.2.2.2.2.1, rfl, j_vp (by omega) (by rw [lsv122]; omega), fun v122 ev122 => ?_⟩
  conv => whnf
  refine ⟨rfl, _, _, _, _, _, _, c_Lw_span lw.1.1 lw.1.2.2.1, ⟨Nat.le_of_ble_eq_true rfl, Nat.le_of_ble_eq_true rfl, by (try dsimp only); omega, by (try dsimp only); omega⟩, fun _ _ z => False.elim z, ?_⟩
  rintro v9 H123 ⟨⟨r125, rfl⟩, fo⟩
  have l124 := (lw.fo fo).1
  conv => whnf
  have lsv126 : j_ln H123 sc = L := l124.1.2.2.2.2.2.2
  refine ⟨_, _, rfl, l124.1.2.2.2.2.2.1, rfl, j_vp (by omega) (by rw [lsv126]; omega), fun v126 ev126 => ?_⟩
  conv => whnf
  have lsv127 : j_ln H123 sc = L := l124.1.2.2.2.2.2.2
  refine ⟨_, _, rfl, l124.1.2.2.2.2.2.1, rfl, j_vp (by omega) (by rw [lsv127]; omega), fun v127 ev127 => ?_⟩
  conv => whnf
  have lsv128 : j_ln H123 sc = L := l124.1.2.2.2.2.2.2
  refine ⟨_, _, rfl, l124.1.2.2.2.2.2.1, rfl, j_vp (by omega) (by rw [lsv128]; omega), fun v128 ev128 => ?_⟩
  conv => whnf
  obtain ⟨ρ132, w131⟩ := l124.1.2.1
  refine ⟨w131.km, rfl, _, _, _, _, _, _, c_Mo_span w131, ⟨Nat.le_of_ble_eq_true rfl, Nat.le_of_ble_eq_true rfl, by (try dsimp only); omega, by (try dsimp only); omega⟩, fun _ _ z => False.elim z, ?_⟩
  rintro v9 H129 ⟨st9, r9, rfl⟩
  have l130 := l124.mf w131 st9
  exact j_use hF (back _ _ _ l130 (by omega) (by omega)) (And.intro rfl (And.intro rfl (And.intro rfl (And.intro rfl (And.intro rfl trivial)))))
set_option maxHeartbeats 4000000 in
set_option maxRecDepth 20000 in
theorem j_turn13 {J : j_J} {L sc x m out P G R Q cn sn : Nat} {i : Int32} {h : j_H} (hJ : j_Cl k_law j_lF j_lP j_no J) (hF : j_Fg J) (hL : L ≤ 2560) (i0 : 0 ≤ i.toInt) (i1 : i.toInt + 5 ≤ (L : Int)) (hc : cn ≤ 500000) (hs : sn ≤ 6000000) (lw : j_LW L sc x m out P G R Q h) (back : ∀ (h' : j_H) (cn' sn' : Nat), j_LW L sc x m out P G R Q h' → cn' ≤ cn + 200 → sn' ≤ sn + 2000 → J 1161 [some (j_r (some sc)), some (j_r (some x)), some (j_r (some m)), some (j_r (some out)), some (j_i i), none, none] [] h' cn' sn') : J 717 [some (j_r (some sc)), some (j_r (some x)), some (j_r (some m)), some (j_r (some out)), some (j_i i), none, none] [] h cn sn := by
  have q1 : (i + Int32.ofInt (1)).toInt = i.toInt + 1 := j_inc1 (by omega)
  have q2 : (i + Int32.ofInt (2)).toInt = i.toInt + 2 := j_i2 i0 (by omega)
  have q3 : (i + Int32.ofInt (3)).toInt = i.toInt + 3 := j_i3 i0 (by omega)
  have q4 : (i + Int32.ofInt (4)).toInt = i.toInt + 4 := j_i4 i0 (by omega)
  refine hJ [1161] 400 _ _ _ _ _ _ ?_
  conv => whnf
  have lsv133 : j_ln h sc = L := lw.1.2.2.2.2.2.2
  refine ⟨_, _, rfl, lw.1.2.2.2.2.2.1, rfl, j_vp (by omega) (by rw [lsv133]; omega), fun v133 ev133 => ?_⟩
  conv => whnf
  have lsv134 : j_ln h sc = L := lw.1.2.2.2.2.2.2
  refine ⟨_, _, rfl, lw.1.2.2.2.2.2.1, rfl, j_vp (by omega) (by rw [lsv134]; omega), fun v134 ev134 => ?_⟩
  conv => whnf
  refine ⟨fun c135 => ?_, fun c135 => ?_⟩
  · skip
    conv => whnf
    refine ⟨rfl, _, _, _, _, _, _, c_Lw_narrowed lw.1.1 lw.1.2.2.1, ⟨Nat.le_of_ble_eq_true rfl, Nat.le_of_ble_eq_true rfl, by (try dsimp only); omega, by (try dsimp only); omega⟩, fun _ _ z => False.elim z, ?_⟩
    rintro v9 H136 ⟨⟨r138, rfl⟩, fo⟩
    have l137 := (lw.fo fo).1
    conv => whnf
    have lsv139 : j_ln H136 sc = L := l137.1.2.2.2.2.2.2
    refine ⟨_, _, rfl, l137.1.2.2.2.2.2.1, rfl, j_vp (by omega) (by rw [lsv139]; omega), fun v139 ev139 => ?_⟩
    conv => whnf
    have lsv140 : j_ln H136 sc = L := l137.1.2.2.2.2.2.2
    refine ⟨_, _, rfl, l137.1.2.2.2.2.2.1, rfl, j_vp (by omega) (by rw [lsv140]; omega), fun v140 ev140 => ?_⟩
    conv => whnf
    refine ⟨fun c141 => ?_, fun c141 => ?_⟩
    · skip
      conv => whnf
      obtain ⟨ρ145, w144⟩ := l137.1.2.1
      refine ⟨w144.km, rfl, _, _, _, _, _, _, c_Mo_narrowed w144, ⟨Nat.le_of_ble_eq_true rfl, Nat.le_of_ble_eq_true rfl, by (try dsimp only); omega, by (try dsimp only); omega⟩, fun _ _ z => False.elim z, ?_⟩
      rintro v9 H142 ⟨st9, r9, rfl⟩
      have l143 := l137.mf w144 st9
      exact j_use hF (back _ _ _ l143 (by omega) (by omega)) (And.intro rfl (And.intro rfl (And.intro rfl (And.intro rfl (And.intro rfl trivial)))))
    · skip
      conv => whnf
      obtain ⟨ρ149, w148⟩ := l137.1.2.1
      refine ⟨w148.km, rfl, _, _, _, _, _, _, c_Mo_narrowed w148, ⟨Nat.le_of_ble_eq_true rfl, Nat.le_of_ble_eq_true rfl, by (try dsimp only); omega, by (try dsimp only); omega⟩, fun _ _ z => False.elim z, ?_⟩
      rintro v9 H146 ⟨st9, r9, rfl⟩
      have l147 := l137.mf w148 st9
      exact j_use hF (back _ _ _ l147 (by omega) (by omega)) (And.intro rfl (And.intro rfl (And.intro rfl (And.intro rfl (And.intro rfl trivial)))))
  · skip
    conv => whnf
    refine ⟨rfl, _, _, _, _, _, _, c_Lw_narrowed lw.1.1 lw.1.2.2.1, ⟨Nat.le_of_ble_eq_true rfl, Nat.le_of_ble_eq_true rfl, by (try dsimp only); omega, by (try dsimp only); omega⟩, fun _ _ z => False.elim z, ?_⟩
    rintro v9 H150 ⟨⟨r152, rfl⟩, fo⟩
    have l151 := (lw.fo fo).1
    conv => whnf
    have lsv153 : j_ln H150 sc = L := l151.1.2.2.2.2.2.2
    refine ⟨_, _, rfl, l151.1.2.2.2.2.2.1, rfl, j_vp (by omega) (by rw [lsv153]; omega), fun v153 ev153 => ?_⟩
    conv => whnf
    have lsv154 : j_ln H150 sc = L := l151.1.2.2.2.2.2.2
    refine ⟨_, _, rfl, l151.1.2.2.2.2.2.1, rfl, j_vp (by omega) (by rw [lsv154]; omega), fun v154 ev154 => ?_⟩
    conv => whnf
    refine ⟨fun c155 => ?_, fun c155 => ?_⟩
    · skip
      conv => whnf
      obtain ⟨ρ159, w158⟩ := l151.1.2.1
      refine ⟨w158.km, rfl, _, _, _, _, _, _, c_Mo_narrowed w158, ⟨Nat.le_of_ble_eq_true rfl, Nat.le_of_ble_eq_true rfl, by (try dsimp only); omega, by (try dsimp only); omega⟩, fun _ _ z => False.elim z, ?_⟩
      rintro v9 H156 ⟨st9, r9, rfl⟩
      have l157 := l151.mf w158 st9
      exact j_use hF (back _ _ _ l157 (by omega) (by omega)) (And.intro rfl (And.intro rfl (And.intro rfl (And.intro rfl (And.intro rfl trivial)))))
    · skip
      conv => whnf
      obtain ⟨ρ163, w162⟩ := l151.1.2.1
      refine ⟨w162.km, rfl, _, _, _, _, _, _, c_Mo_narrowed w162, ⟨Nat.le_of_ble_eq_true rfl, Nat.le_of_ble_eq_true rfl, by (try dsimp only); omega, by (try dsimp only); omega⟩, fun _ _ z => False.elim z, ?_⟩
      rintro v9 H160 ⟨st9, r9, rfl⟩
      have l161 := l151.mf w162 st9
      exact j_use hF (back _ _ _ l161 (by omega) (by omega)) (And.intro rfl (And.intro rfl (And.intro rfl (And.intro rfl (And.intro rfl trivial)))))
set_option maxHeartbeats 4000000 in
set_option maxRecDepth 20000 in
theorem j_turn14 {J : j_J} {L sc x m out P G R Q cn sn : Nat} {i : Int32} {h : j_H} (hJ : j_Cl k_law j_lF j_lP j_no J) (hF : j_Fg J) (hL : L ≤ 2560) (i0 : 0 ≤ i.toInt) (i1 : i.toInt + 5 ≤ (L : Int)) (hc : cn ≤ 500000) (hs : sn ≤ 6000000) (lw : j_LW L sc x m out P G R Q h) (back : ∀ (h' : j_H) (cn' sn' : Nat), j_LW L sc x m out P G R Q h' → cn' ≤ cn + 200 → sn' ≤ sn + 2000 → J 1161 [some (j_r (some sc)), some (j_r (some x)), some (j_r (some m)), some (j_r (some out)), some (j_i i), none, none] [] h' cn' sn') : J 773 [some (j_r (some sc)), some (j_r (some x)), some (j_r (some m)), some (j_r (some out)), some (j_i i), none, none] [] h cn sn := by
  have q1 : (i + Int32.ofInt (1)).toInt = i.toInt + 1 := j_inc1 (by omega)
  have q2 : (i + Int32.ofInt (2)).toInt = i.toInt + 2 := j_i2 i0 (by omega)
  have q3 : (i + Int32.ofInt (3)).toInt = i.toInt + 3 := j_i3 i0 (by omega)
  have q4 : (i + Int32.ofInt (4)).toInt = i.toInt + 4 := j_i4 i0 (by omega)
  refine hJ [1161] 400 _ _ _ _ _ _ ?_
  conv => whnf
  have lsv164 : j_ln h sc = L := lw.1.2.2.2.2.2.2
  refine ⟨_, _, rfl, lw.1.2.2.2.2.2.1, rfl, j_vp (by omega) (by rw [lsv164]; omega), fun v164 ev164 => ?_⟩
  conv => whnf
  have lsv165 : j_ln h sc = L := lw.1.2.2.2.2.2.2
  refine ⟨_, _, rfl, lw.1.2.2.2.2.2.1, rfl, j_vp (by omega) (by rw [lsv165]; omega), fun v165 ev165 => ?_⟩
  conv => whnf
  refine ⟨rfl, _, _, _, _, _, _, c_Lw_ofPrint lw.1.1 lw.1.2.2.1, ⟨Nat.le_of_ble_eq_true rfl, Nat.le_of_ble_eq_true rfl, by (try dsimp only); omega, by (try dsimp only); omega⟩, fun _ _ z => False.elim z, ?_⟩
  rintro v9 H166 ⟨⟨r168, rfl⟩, fo⟩
  have l167 := (lw.fo fo).1
  conv => whnf
  have lsv169 : j_ln H166 sc = L := l167.1.2.2.2.2.2.2
  refine ⟨_, _, rfl, l167.1.2.2.2.2.2.1, rfl, j_vp (by omega) (by rw [lsv169]; omega), fun v169 ev169 => ?_⟩
  conv => whnf
  have lsv170 : j_ln H166 sc = L := l167.1.2.2.2.2.2.2
  refine ⟨_, _, rfl, l167.1.2.2.2.2.2.1, rfl, j_vp (by omega) (by rw [lsv170]; omega), fun v170 ev170 => ?_⟩
  conv => whnf
  obtain ⟨ρ174, w173⟩ := l167.1.2.1
  refine ⟨w173.km, rfl, _, _, _, _, _, _, c_Mo_ofPrint w173, ⟨Nat.le_of_ble_eq_true rfl, Nat.le_of_ble_eq_true rfl, by (try dsimp only); omega, by (try dsimp only); omega⟩, fun _ _ z => False.elim z, ?_⟩
  rintro v9 H171 ⟨st9, r9, rfl⟩
  have l172 := l167.mf w173 st9
  exact j_use hF (back _ _ _ l172 (by omega) (by omega)) (And.intro rfl (And.intro rfl (And.intro rfl (And.intro rfl (And.intro rfl trivial)))))
set_option maxHeartbeats 4000000 in
set_option maxRecDepth 20000 in
theorem j_turn15 {J : j_J} {L sc x m out P G R Q cn sn : Nat} {i : Int32} {h : j_H} (hJ : j_Cl k_law j_lF j_lP j_no J) (hF : j_Fg J) (hL : L ≤ 2560) (i0 : 0 ≤ i.toInt) (i1 : i.toInt + 5 ≤ (L : Int)) (hc : cn ≤ 500000) (hs : sn ≤ 6000000) (lw : j_LW L sc x m out P G R Q h) (back : ∀ (h' : j_H) (cn' sn' : Nat), j_LW L sc x m out P G R Q h' → cn' ≤ cn + 200 → sn' ≤ sn + 2000 → J 1161 [some (j_r (some sc)), some (j_r (some x)), some (j_r (some m)), some (j_r (some out)), some (j_i i), none, none] [] h' cn' sn') : J 813 [some (j_r (some sc)), some (j_r (some x)), some (j_r (some m)), some (j_r (some out)), some (j_i i), none, none] [] h cn sn := by
  have q1 : (i + Int32.ofInt (1)).toInt = i.toInt + 1 := j_inc1 (by omega)
  have q2 : (i + Int32.ofInt (2)).toInt = i.toInt + 2 := j_i2 i0 (by omega)
  have q3 : (i + Int32.ofInt (3)).toInt = i.toInt + 3 := j_i3 i0 (by omega)
  have q4 : (i + Int32.ofInt (4)).toInt = i.toInt + 4 := j_i4 i0 (by omega)
  refine hJ [1161] 400 _ _ _ _ _ _ ?_
  conv => whnf
  have lsv175 : j_ln h sc = L := lw.1.2.2.2.2.2.2
  refine ⟨_, _, rfl, lw.1.2.2.2.2.2.1, rfl, j_vp (by omega) (by rw [lsv175]; omega), fun v175 ev175 => ?_⟩
  conv => whnf
  refine ⟨rfl, _, _, _, _, _, _, c_Lw_lab lw.1.1 lw.1.2.2.1, ⟨Nat.le_of_ble_eq_true rfl, Nat.le_of_ble_eq_true rfl, by (try dsimp only); omega, by (try dsimp only); omega⟩, fun _ _ z => False.elim z, ?_⟩
  rintro v9 H176 ⟨⟨r178, rfl⟩, fo⟩
  have l177 := (lw.fo fo).1
  conv => whnf
  have lsv179 : j_ln H176 sc = L := l177.1.2.2.2.2.2.2
  refine ⟨_, _, rfl, l177.1.2.2.2.2.2.1, rfl, j_vp (by omega) (by rw [lsv179]; omega), fun v179 ev179 => ?_⟩
  conv => whnf
  obtain ⟨ρ183, w182⟩ := l177.1.2.1
  refine ⟨w182.km, rfl, _, _, _, _, _, _, c_Mo_lab w182, ⟨Nat.le_of_ble_eq_true rfl, Nat.le_of_ble_eq_true rfl, by (try dsimp only); omega, by (try dsimp only); omega⟩, fun _ _ z => False.elim z, ?_⟩
  rintro v9 H180 ⟨st9, r9, rfl⟩
  have l181 := l177.mf w182 st9
  exact j_use hF (back _ _ _ l181 (by omega) (by omega)) (And.intro rfl (And.intro rfl (And.intro rfl (And.intro rfl (And.intro rfl trivial)))))
set_option maxHeartbeats 4000000 in
set_option maxRecDepth 20000 in
theorem j_turn16 {J : j_J} {L sc x m out P G R Q cn sn : Nat} {i : Int32} {h : j_H} (hJ : j_Cl k_law j_lF j_lP j_no J) (hF : j_Fg J) (hL : L ≤ 2560) (i0 : 0 ≤ i.toInt) (i1 : i.toInt + 5 ≤ (L : Int)) (hc : cn ≤ 500000) (hs : sn ≤ 6000000) (lw : j_LW L sc x m out P G R Q h) (back : ∀ (h' : j_H) (cn' sn' : Nat), j_LW L sc x m out P G R Q h' → cn' ≤ cn + 200 → sn' ≤ sn + 2000 → J 1161 [some (j_r (some sc)), some (j_r (some x)), some (j_r (some m)), some (j_r (some out)), some (j_i i), none, none] [] h' cn' sn') : J 841 [some (j_r (some sc)), some (j_r (some x)), some (j_r (some m)), some (j_r (some out)), some (j_i i), none, none] [] h cn sn := by
  have q1 : (i + Int32.ofInt (1)).toInt = i.toInt + 1 := j_inc1 (by omega)
  have q2 : (i + Int32.ofInt (2)).toInt = i.toInt + 2 := j_i2 i0 (by omega)
  have q3 : (i + Int32.ofInt (3)).toInt = i.toInt + 3 := j_i3 i0 (by omega)
  have q4 : (i + Int32.ofInt (4)).toInt = i.toInt + 4 := j_i4 i0 (by omega)
  refine hJ [1161] 400 _ _ _ _ _ _ ?_
  conv => whnf
  have lsv184 : j_ln h sc = L := lw.1.2.2.2.2.2.2
  refine ⟨_, _, rfl, lw.1.2.2.2.2.2.1, rfl, j_vp (by omega) (by rw [lsv184]; omega), fun v184 ev184 => ?_⟩
  conv => whnf
  refine ⟨rfl, _, _, _, _, _, _, c_Lw_text lw.1.1 lw.1.2.2.2.1 lw.1.2.2.1, ⟨Nat.le_of_ble_eq_true rfl, Nat.le_of_ble_eq_true rfl, by (try dsimp only); omega, by (try dsimp only); omega⟩, fun _ _ z => False.elim z, ?_⟩
  rintro v9 H185 ⟨⟨r187, rfl⟩, fo⟩
  have l186 := (lw.fo fo).1
  conv => whnf
  have lsv188 : j_ln H185 sc = L := l186.1.2.2.2.2.2.2
  refine ⟨_, _, rfl, l186.1.2.2.2.2.2.1, rfl, j_vp (by omega) (by rw [lsv188]; omega), fun v188 ev188 => ?_⟩
  conv => whnf
  obtain ⟨ρ192, w191⟩ := l186.1.2.1
  refine ⟨w191.km, rfl, _, _, _, _, _, _, c_Mo_text w191 l186.1.2.2.2.1, ⟨Nat.le_of_ble_eq_true rfl, Nat.le_of_ble_eq_true rfl, by (try dsimp only); omega, by (try dsimp only); omega⟩, fun _ _ z => False.elim z, ?_⟩
  rintro v9 H189 ⟨st9, s9, rfl⟩
  have l190 := l186.mf w191 st9
  exact j_use hF (back _ _ _ l190 (by omega) (by omega)) (And.intro rfl (And.intro rfl (And.intro rfl (And.intro rfl (And.intro rfl trivial)))))
set_option maxHeartbeats 4000000 in
set_option maxRecDepth 20000 in
theorem j_turn17 {J : j_J} {L sc x m out P G R Q cn sn : Nat} {i : Int32} {h : j_H} (hJ : j_Cl k_law j_lF j_lP j_no J) (hF : j_Fg J) (hL : L ≤ 2560) (i0 : 0 ≤ i.toInt) (i1 : i.toInt + 5 ≤ (L : Int)) (hc : cn ≤ 500000) (hs : sn ≤ 6000000) (lw : j_LW L sc x m out P G R Q h) (back : ∀ (h' : j_H) (cn' sn' : Nat), j_LW L sc x m out P G R Q h' → cn' ≤ cn + 200 → sn' ≤ sn + 2000 → J 1161 [some (j_r (some sc)), some (j_r (some x)), some (j_r (some m)), some (j_r (some out)), some (j_i i), none, none] [] h' cn' sn') : J 869 [some (j_r (some sc)), some (j_r (some x)), some (j_r (some m)), some (j_r (some out)), some (j_i i), none, none] [] h cn sn := by
  have q1 : (i + Int32.ofInt (1)).toInt = i.toInt + 1 := j_inc1 (by omega)
  have q2 : (i + Int32.ofInt (2)).toInt = i.toInt + 2 := j_i2 i0 (by omega)
  have q3 : (i + Int32.ofInt (3)).toInt = i.toInt + 3 := j_i3 i0 (by omega)
  have q4 : (i + Int32.ofInt (4)).toInt = i.toInt + 4 := j_i4 i0 (by omega)
  refine hJ [1161] 400 _ _ _ _ _ _ ?_
  conv => whnf
  have lsv193 : j_ln h sc = L := lw.1.2.2.2.2.2.2
  refine ⟨_, _, rfl, lw.1.2.2.2.2.2.1, rfl, j_vp (by omega) (by rw [lsv193]; omega), fun v193 ev193 => ?_⟩
  conv => whnf
  have lsv194 : j_ln h sc = L := lw.1.2.2.2.2.2.2
  refine ⟨_, _, rfl, lw.1.2.2.2.2.2.1, rfl, j_vp (by omega) (by rw [lsv194]; omega), fun v194 ev194 => ?_⟩
  conv => whnf
  have lsv195 : j_ln h sc = L := lw.1.2.2.2.2.2.2
  refine ⟨_, _, rfl, lw.1.2.2.2.2.2.1, rfl, j_vp (by omega) (by rw [lsv195]; omega), fun v195 ev195 => ?_⟩
  conv => whnf
  refine ⟨rfl, _, _, _, _, _, _, c_Lw_leftq lw.1.1 lw.1.2.2.1 lw.2.1, ⟨Nat.le_of_ble_eq_true rfl, Nat.le_of_ble_eq_true rfl, by (try dsimp only); omega, by (try dsimp only); omega⟩, fun _ _ z => False.elim z, ?_⟩
  rintro u9 H196 a
  obtain rfl := a.1
  obtain ⟨l1, s1, m1⟩ := lw.1.lq a
  conv => whnf
  have lsv198 : j_ln H196 sc = L := l1.2.2.2.2.2.2
  refine ⟨_, _, rfl, l1.2.2.2.2.2.1, rfl, j_vp (by omega) (by rw [lsv198]; omega), fun v198 ev198 => ?_⟩
  obtain rfl : v193 = v198 := ev193.symm.trans ((s1 _).symm.trans ev198)
  conv => whnf
  have lsv199 : j_ln H196 sc = L := l1.2.2.2.2.2.2
  refine ⟨_, _, rfl, l1.2.2.2.2.2.1, rfl, j_vp (by omega) (by rw [lsv199]; omega), fun v199 ev199 => ?_⟩
  obtain rfl : v194 = v199 := ev194.symm.trans ((s1 _).symm.trans ev199)
  conv => whnf
  have lsv200 : j_ln H196 sc = L := l1.2.2.2.2.2.2
  refine ⟨_, _, rfl, l1.2.2.2.2.2.1, rfl, j_vp (by omega) (by rw [lsv200]; omega), fun v200 ev200 => ?_⟩
  obtain rfl : v195 = v200 := ev195.symm.trans ((s1 _).symm.trans ev200)
  conv => whnf
  obtain ⟨ρ9, w9⟩ := l1.2.1
  have eq9 : ∀ k, j_aK k = true → j_am H196 m P G R k = j_ax h x k := fun k hk => (m1 k hk).trans (lw.2.2 k hk)
  refine ⟨w9.km, rfl, _, _, _, _, _, _, c_Mo_leftq w9 (lw.2.1.eq eq9), ⟨Nat.le_of_ble_eq_true rfl, Nat.le_of_ble_eq_true rfl, by (try dsimp only); omega, by (try dsimp only); omega⟩, fun _ _ z => False.elim z, ?_⟩
  rintro u9 H201 b
  have hq : q_left v193 v194 v195 = q_left v193 v194 v195 := rfl
  obtain ⟨lw2, o2⟩ := lw.told a b hq (fun _ => eq9) (fun _ => lw.2.1)
  obtain ⟨r9, rfl⟩ := b.2.2.2.2.2.2
  exact j_use hF (back _ _ _ lw2 (by omega) (by omega)) (And.intro rfl (And.intro rfl (And.intro rfl (And.intro rfl (And.intro rfl trivial)))))
set_option maxHeartbeats 4000000 in
set_option maxRecDepth 20000 in
theorem j_turn18 {J : j_J} {L sc x m out P G R Q cn sn : Nat} {i : Int32} {h : j_H} (hJ : j_Cl k_law j_lF j_lP j_no J) (hF : j_Fg J) (hL : L ≤ 2560) (i0 : 0 ≤ i.toInt) (i1 : i.toInt + 5 ≤ (L : Int)) (hc : cn ≤ 500000) (hs : sn ≤ 6000000) (lw : j_LW L sc x m out P G R Q h) (back : ∀ (h' : j_H) (cn' sn' : Nat), j_LW L sc x m out P G R Q h' → cn' ≤ cn + 200 → sn' ≤ sn + 2000 → J 1161 [some (j_r (some sc)), some (j_r (some x)), some (j_r (some m)), some (j_r (some out)), some (j_i i), none, none] [] h' cn' sn') : J 921 [some (j_r (some sc)), some (j_r (some x)), some (j_r (some m)), some (j_r (some out)), some (j_i i), none, none] [] h cn sn := by
  have q1 : (i + Int32.ofInt (1)).toInt = i.toInt + 1 := j_inc1 (by omega)
  have q2 : (i + Int32.ofInt (2)).toInt = i.toInt + 2 := j_i2 i0 (by omega)
  have q3 : (i + Int32.ofInt (3)).toInt = i.toInt + 3 := j_i3 i0 (by omega)
  have q4 : (i + Int32.ofInt (4)).toInt = i.toInt + 4 := j_i4 i0 (by omega)
  refine hJ [1161] 400 _ _ _ _ _ _ ?_
  conv => whnf
  have lsv203 : j_ln h sc = L := lw.1.2.2.2.2.2.2
  refine ⟨_, _, rfl, lw.1.2.2.2.2.2.1, rfl, j_vp (by omega) (by rw [lsv203]; omega), fun v203 ev203 => ?_⟩
  conv => whnf
  have lsv204 : j_ln h sc = L := lw.1.2.2.2.2.2.2
  refine ⟨_, _, rfl, lw.1.2.2.2.2.2.1, rfl, j_vp (by omega) (by rw [lsv204]; omega), fun v204 ev204 => ?_⟩
  conv => whnf
  have lsv205 : j_ln h sc = L := lw.1.2.2.2.2.2.2
  refine ⟨_, _, rfl, lw.1.2.2.2.2.2.1, rfl, j_vp (by omega) (by rw [lsv205]; omega), fun v205 ev205 => ?_⟩
  conv => whnf
  have lsv206 : j_ln h sc = L := lw.1.2.2.2.2.2.2
  refine ⟨_, _, rfl, lw.1.2.2.2.2.2.1, rfl, j_vp (by omega) (by rw [lsv206]; omega), fun v206 ev206 => ?_⟩
  conv => whnf
  refine ⟨fun c207 => ?_, fun c207 => ?_⟩
  · skip
    conv => whnf
    refine ⟨rfl, _, _, _, _, _, _, c_Lw_ageq lw.1.1 lw.1.2.2.1 lw.2.1, ⟨Nat.le_of_ble_eq_true rfl, Nat.le_of_ble_eq_true rfl, by (try dsimp only); omega, by (try dsimp only); omega⟩, fun _ _ z => False.elim z, ?_⟩
    rintro u9 H208 a
    obtain rfl := a.1
    obtain ⟨l1, s1, m1⟩ := lw.1.lq a
    conv => whnf
    have lsv210 : j_ln H208 sc = L := l1.2.2.2.2.2.2
    refine ⟨_, _, rfl, l1.2.2.2.2.2.1, rfl, j_vp (by omega) (by rw [lsv210]; omega), fun v210 ev210 => ?_⟩
    obtain rfl : v203 = v210 := ev203.symm.trans ((s1 _).symm.trans ev210)
    conv => whnf
    have lsv211 : j_ln H208 sc = L := l1.2.2.2.2.2.2
    refine ⟨_, _, rfl, l1.2.2.2.2.2.1, rfl, j_vp (by omega) (by rw [lsv211]; omega), fun v211 ev211 => ?_⟩
    obtain rfl : v204 = v211 := ev204.symm.trans ((s1 _).symm.trans ev211)
    conv => whnf
    have lsv212 : j_ln H208 sc = L := l1.2.2.2.2.2.2
    refine ⟨_, _, rfl, l1.2.2.2.2.2.1, rfl, j_vp (by omega) (by rw [lsv212]; omega), fun v212 ev212 => ?_⟩
    obtain rfl : v205 = v212 := ev205.symm.trans ((s1 _).symm.trans ev212)
    conv => whnf
    have lsv213 : j_ln H208 sc = L := l1.2.2.2.2.2.2
    refine ⟨_, _, rfl, l1.2.2.2.2.2.1, rfl, j_vp (by omega) (by rw [lsv213]; omega), fun v213 ev213 => ?_⟩
    obtain rfl : v206 = v213 := ev206.symm.trans ((s1 _).symm.trans ev213)
    conv => whnf
    refine ⟨fun c214 => ?_, fun c214 => ?_⟩
    · skip
      conv => whnf
      obtain ⟨ρ9, w9⟩ := l1.2.1
      have eq9 : ∀ k, j_aK k = true → j_am H208 m P G R k = j_ax h x k := fun k hk => (m1 k hk).trans (lw.2.2 k hk)
      refine ⟨w9.km, rfl, _, _, _, _, _, _, c_Mo_ageq w9 (lw.2.1.eq eq9), ⟨Nat.le_of_ble_eq_true rfl, Nat.le_of_ble_eq_true rfl, by (try dsimp only); omega, by (try dsimp only); omega⟩, fun _ _ z => False.elim z, ?_⟩
      rintro u9 H215 b
      have hq : q_age v203 v204 v205 (Int32.ofInt (0)) = q_age v203 v204 v205 (Int32.ofInt (0)) := rfl
      obtain ⟨lw2, o2⟩ := lw.told a b hq (fun _ => eq9) (fun _ => lw.2.1)
      obtain ⟨r9, rfl⟩ := b.2.2.2.2.2.2
      exact j_use hF (back _ _ _ lw2 (by omega) (by omega)) (And.intro rfl (And.intro rfl (And.intro rfl (And.intro rfl (And.intro rfl trivial)))))
    · exact absurd (show v206.toInt = 0 from c207) c214
  · skip
    conv => whnf
    refine ⟨rfl, _, _, _, _, _, _, c_Lw_ageq lw.1.1 lw.1.2.2.1 lw.2.1, ⟨Nat.le_of_ble_eq_true rfl, Nat.le_of_ble_eq_true rfl, by (try dsimp only); omega, by (try dsimp only); omega⟩, fun _ _ z => False.elim z, ?_⟩
    rintro u9 H217 a
    obtain rfl := a.1
    obtain ⟨l1, s1, m1⟩ := lw.1.lq a
    conv => whnf
    have lsv219 : j_ln H217 sc = L := l1.2.2.2.2.2.2
    refine ⟨_, _, rfl, l1.2.2.2.2.2.1, rfl, j_vp (by omega) (by rw [lsv219]; omega), fun v219 ev219 => ?_⟩
    obtain rfl : v203 = v219 := ev203.symm.trans ((s1 _).symm.trans ev219)
    conv => whnf
    have lsv220 : j_ln H217 sc = L := l1.2.2.2.2.2.2
    refine ⟨_, _, rfl, l1.2.2.2.2.2.1, rfl, j_vp (by omega) (by rw [lsv220]; omega), fun v220 ev220 => ?_⟩
    obtain rfl : v204 = v220 := ev204.symm.trans ((s1 _).symm.trans ev220)
    conv => whnf
    have lsv221 : j_ln H217 sc = L := l1.2.2.2.2.2.2
    refine ⟨_, _, rfl, l1.2.2.2.2.2.1, rfl, j_vp (by omega) (by rw [lsv221]; omega), fun v221 ev221 => ?_⟩
    obtain rfl : v205 = v221 := ev205.symm.trans ((s1 _).symm.trans ev221)
    conv => whnf
    have lsv222 : j_ln H217 sc = L := l1.2.2.2.2.2.2
    refine ⟨_, _, rfl, l1.2.2.2.2.2.1, rfl, j_vp (by omega) (by rw [lsv222]; omega), fun v222 ev222 => ?_⟩
    obtain rfl : v206 = v222 := ev206.symm.trans ((s1 _).symm.trans ev222)
    conv => whnf
    refine ⟨fun c223 => ?_, fun c223 => ?_⟩
    · exact absurd (show v206.toInt = 0 from c223) c207
    · skip
      conv => whnf
      obtain ⟨ρ9, w9⟩ := l1.2.1
      have eq9 : ∀ k, j_aK k = true → j_am H217 m P G R k = j_ax h x k := fun k hk => (m1 k hk).trans (lw.2.2 k hk)
      refine ⟨w9.km, rfl, _, _, _, _, _, _, c_Mo_ageq w9 (lw.2.1.eq eq9), ⟨Nat.le_of_ble_eq_true rfl, Nat.le_of_ble_eq_true rfl, by (try dsimp only); omega, by (try dsimp only); omega⟩, fun _ _ z => False.elim z, ?_⟩
      rintro u9 H224 b
      have hq : q_age v203 v204 v205 (Int32.ofInt (1)) = q_age v203 v204 v205 (Int32.ofInt (1)) := rfl
      obtain ⟨lw2, o2⟩ := lw.told a b hq (fun _ => eq9) (fun _ => lw.2.1)
      obtain ⟨r9, rfl⟩ := b.2.2.2.2.2.2
      exact j_use hF (back _ _ _ lw2 (by omega) (by omega)) (And.intro rfl (And.intro rfl (And.intro rfl (And.intro rfl (And.intro rfl trivial)))))
set_option maxHeartbeats 4000000 in
set_option maxRecDepth 20000 in
theorem j_turn19 {J : j_J} {L sc x m out P G R Q cn sn : Nat} {i : Int32} {h : j_H} (hJ : j_Cl k_law j_lF j_lP j_no J) (hF : j_Fg J) (hL : L ≤ 2560) (i0 : 0 ≤ i.toInt) (i1 : i.toInt + 5 ≤ (L : Int)) (hc : cn ≤ 500000) (hs : sn ≤ 6000000) (lw : j_LW L sc x m out P G R Q h) (back : ∀ (h' : j_H) (cn' sn' : Nat), j_LW L sc x m out P G R Q h' → cn' ≤ cn + 200 → sn' ≤ sn + 2000 → J 1161 [some (j_r (some sc)), some (j_r (some x)), some (j_r (some m)), some (j_r (some out)), some (j_i i), none, none] [] h' cn' sn') : J 1001 [some (j_r (some sc)), some (j_r (some x)), some (j_r (some m)), some (j_r (some out)), some (j_i i), none, none] [] h cn sn := by
  have q1 : (i + Int32.ofInt (1)).toInt = i.toInt + 1 := j_inc1 (by omega)
  have q2 : (i + Int32.ofInt (2)).toInt = i.toInt + 2 := j_i2 i0 (by omega)
  have q3 : (i + Int32.ofInt (3)).toInt = i.toInt + 3 := j_i3 i0 (by omega)
  have q4 : (i + Int32.ofInt (4)).toInt = i.toInt + 4 := j_i4 i0 (by omega)
  refine hJ [1161] 400 _ _ _ _ _ _ ?_
  conv => whnf
  refine ⟨lw.1.1.1, rfl, _, _, _, _, _, _, c_G_fewest (h := h) lw.1.1 j_Sc.rf, ⟨Nat.le_of_ble_eq_true rfl, Nat.le_of_ble_eq_true rfl, by (try dsimp only); omega, by (try dsimp only); omega⟩, fun _ _ z => False.elim z, ?_⟩
  rintro v9 H226 ⟨it228, e9, s9, r9, rfl⟩
  have fr9 : j_Fr x h H226 := by rw [e9]; exact j_Fr.sc lw.1.1 s9 j_sf_ok j_sf8
  have l227 := (lw.fo fr9.fo).1
  conv => whnf
  obtain ⟨ρ232, w231⟩ := l227.1.2.1
  refine ⟨w231.km, rfl, _, _, _, _, _, _, c_Mo_fewest w231, ⟨Nat.le_of_ble_eq_true rfl, Nat.le_of_ble_eq_true rfl, by (try dsimp only); omega, by (try dsimp only); omega⟩, fun _ _ z => False.elim z, ?_⟩
  rintro v9 H229 ⟨st9, r9, rfl⟩
  have l230 := l227.mf w231 st9
  exact j_use hF (back _ _ _ l230 (by omega) (by omega)) (And.intro rfl (And.intro rfl (And.intro rfl (And.intro rfl (And.intro rfl trivial)))))
set_option maxHeartbeats 4000000 in
set_option maxRecDepth 20000 in
theorem j_turn20 {J : j_J} {L sc x m out P G R Q cn sn : Nat} {i : Int32} {h : j_H} (hJ : j_Cl k_law j_lF j_lP j_no J) (hF : j_Fg J) (hL : L ≤ 2560) (i0 : 0 ≤ i.toInt) (i1 : i.toInt + 5 ≤ (L : Int)) (hc : cn ≤ 500000) (hs : sn ≤ 6000000) (lw : j_LW L sc x m out P G R Q h) (back : ∀ (h' : j_H) (cn' sn' : Nat), j_LW L sc x m out P G R Q h' → cn' ≤ cn + 200 → sn' ≤ sn + 2000 → J 1161 [some (j_r (some sc)), some (j_r (some x)), some (j_r (some m)), some (j_r (some out)), some (j_i i), none, none] [] h' cn' sn') : J 1014 [some (j_r (some sc)), some (j_r (some x)), some (j_r (some m)), some (j_r (some out)), some (j_i i), none, none] [] h cn sn := by
  have q1 : (i + Int32.ofInt (1)).toInt = i.toInt + 1 := j_inc1 (by omega)
  have q2 : (i + Int32.ofInt (2)).toInt = i.toInt + 2 := j_i2 i0 (by omega)
  have q3 : (i + Int32.ofInt (3)).toInt = i.toInt + 3 := j_i3 i0 (by omega)
  have q4 : (i + Int32.ofInt (4)).toInt = i.toInt + 4 := j_i4 i0 (by omega)
  refine hJ [1161] 400 _ _ _ _ _ _ ?_
  conv => whnf
  have lsv233 : j_ln h sc = L := lw.1.2.2.2.2.2.2
  refine ⟨_, _, rfl, lw.1.2.2.2.2.2.1, rfl, j_vp (by omega) (by rw [lsv233]; omega), fun v233 ev233 => ?_⟩
  conv => whnf
  refine ⟨fun c234 => ?_, fun c234 => ?_⟩
  · skip
    conv => whnf
    refine ⟨lw.1.1.1, rfl, _, _, _, _, _, _, c_G_bestSwap (h := h) lw.1.1 j_Sc.rf, ⟨Nat.le_of_ble_eq_true rfl, Nat.le_of_ble_eq_true rfl, by (try dsimp only); omega, by (try dsimp only); omega⟩, fun _ _ z => False.elim z, ?_⟩
    rintro v9 H235 ⟨it237, e9, s9, r9, rfl⟩
    have fr9 : j_Fr x h H235 := by rw [e9]; exact j_Fr.sc lw.1.1 s9 j_sf_ok j_sf8
    have l236 := (lw.fo fr9.fo).1
    conv => whnf
    have lsv238 : j_ln H235 sc = L := l236.1.2.2.2.2.2.2
    refine ⟨_, _, rfl, l236.1.2.2.2.2.2.1, rfl, j_vp (by omega) (by rw [lsv238]; omega), fun v238 ev238 => ?_⟩
    conv => whnf
    refine ⟨fun c239 => ?_, fun c239 => ?_⟩
    · skip
      conv => whnf
      obtain ⟨ρ243, w242⟩ := l236.1.2.1
      refine ⟨w242.km, rfl, _, _, _, _, _, _, c_Mo_bestSwap w242, ⟨Nat.le_of_ble_eq_true rfl, Nat.le_of_ble_eq_true rfl, by (try dsimp only); omega, by (try dsimp only); omega⟩, fun _ _ z => False.elim z, ?_⟩
      rintro v9 H240 ⟨st9, r9, rfl⟩
      have l241 := l236.mf w242 st9
      exact j_use hF (back _ _ _ l241 (by omega) (by omega)) (And.intro rfl (And.intro rfl (And.intro rfl (And.intro rfl (And.intro rfl trivial)))))
    · skip
      conv => whnf
      obtain ⟨ρ247, w246⟩ := l236.1.2.1
      refine ⟨w246.km, rfl, _, _, _, _, _, _, c_Mo_bestSwap w246, ⟨Nat.le_of_ble_eq_true rfl, Nat.le_of_ble_eq_true rfl, by (try dsimp only); omega, by (try dsimp only); omega⟩, fun _ _ z => False.elim z, ?_⟩
      rintro v9 H244 ⟨st9, r9, rfl⟩
      have l245 := l236.mf w246 st9
      exact j_use hF (back _ _ _ l245 (by omega) (by omega)) (And.intro rfl (And.intro rfl (And.intro rfl (And.intro rfl (And.intro rfl trivial)))))
  · skip
    conv => whnf
    refine ⟨lw.1.1.1, rfl, _, _, _, _, _, _, c_G_bestSwap (h := h) lw.1.1 j_Sc.rf, ⟨Nat.le_of_ble_eq_true rfl, Nat.le_of_ble_eq_true rfl, by (try dsimp only); omega, by (try dsimp only); omega⟩, fun _ _ z => False.elim z, ?_⟩
    rintro v9 H248 ⟨it250, e9, s9, r9, rfl⟩
    have fr9 : j_Fr x h H248 := by rw [e9]; exact j_Fr.sc lw.1.1 s9 j_sf_ok j_sf8
    have l249 := (lw.fo fr9.fo).1
    conv => whnf
    have lsv251 : j_ln H248 sc = L := l249.1.2.2.2.2.2.2
    refine ⟨_, _, rfl, l249.1.2.2.2.2.2.1, rfl, j_vp (by omega) (by rw [lsv251]; omega), fun v251 ev251 => ?_⟩
    conv => whnf
    refine ⟨fun c252 => ?_, fun c252 => ?_⟩
    · skip
      conv => whnf
      obtain ⟨ρ256, w255⟩ := l249.1.2.1
      refine ⟨w255.km, rfl, _, _, _, _, _, _, c_Mo_bestSwap w255, ⟨Nat.le_of_ble_eq_true rfl, Nat.le_of_ble_eq_true rfl, by (try dsimp only); omega, by (try dsimp only); omega⟩, fun _ _ z => False.elim z, ?_⟩
      rintro v9 H253 ⟨st9, r9, rfl⟩
      have l254 := l249.mf w255 st9
      exact j_use hF (back _ _ _ l254 (by omega) (by omega)) (And.intro rfl (And.intro rfl (And.intro rfl (And.intro rfl (And.intro rfl trivial)))))
    · skip
      conv => whnf
      obtain ⟨ρ260, w259⟩ := l249.1.2.1
      refine ⟨w259.km, rfl, _, _, _, _, _, _, c_Mo_bestSwap w259, ⟨Nat.le_of_ble_eq_true rfl, Nat.le_of_ble_eq_true rfl, by (try dsimp only); omega, by (try dsimp only); omega⟩, fun _ _ z => False.elim z, ?_⟩
      rintro v9 H257 ⟨st9, r9, rfl⟩
      have l258 := l249.mf w259 st9
      exact j_use hF (back _ _ _ l258 (by omega) (by omega)) (And.intro rfl (And.intro rfl (And.intro rfl (And.intro rfl (And.intro rfl trivial)))))
set_option maxHeartbeats 4000000 in
set_option maxRecDepth 20000 in
theorem j_turn21 {J : j_J} {L sc x m out P G R Q cn sn : Nat} {i : Int32} {h : j_H} (hJ : j_Cl k_law j_lF j_lP j_no J) (hF : j_Fg J) (hL : L ≤ 2560) (i0 : 0 ≤ i.toInt) (i1 : i.toInt + 5 ≤ (L : Int)) (hc : cn ≤ 500000) (hs : sn ≤ 6000000) (lw : j_LW L sc x m out P G R Q h) (back : ∀ (h' : j_H) (cn' sn' : Nat), j_LW L sc x m out P G R Q h' → cn' ≤ cn + 200 → sn' ≤ sn + 2000 → J 1161 [some (j_r (some sc)), some (j_r (some x)), some (j_r (some m)), some (j_r (some out)), some (j_i i), none, none] [] h' cn' sn') : J 1055 [some (j_r (some sc)), some (j_r (some x)), some (j_r (some m)), some (j_r (some out)), some (j_i i), none, none] [] h cn sn := by
  have q1 : (i + Int32.ofInt (1)).toInt = i.toInt + 1 := j_inc1 (by omega)
  have q2 : (i + Int32.ofInt (2)).toInt = i.toInt + 2 := j_i2 i0 (by omega)
  have q3 : (i + Int32.ofInt (3)).toInt = i.toInt + 3 := j_i3 i0 (by omega)
  have q4 : (i + Int32.ofInt (4)).toInt = i.toInt + 4 := j_i4 i0 (by omega)
  refine hJ [1161] 400 _ _ _ _ _ _ ?_
  conv => whnf
  have lsv261 : j_ln h sc = L := lw.1.2.2.2.2.2.2
  refine ⟨_, _, rfl, lw.1.2.2.2.2.2.1, rfl, j_vp (by omega) (by rw [lsv261]; omega), fun v261 ev261 => ?_⟩
  conv => whnf
  have lsv262 : j_ln h sc = L := lw.1.2.2.2.2.2.2
  refine ⟨_, _, rfl, lw.1.2.2.2.2.2.1, rfl, j_vp (by omega) (by rw [lsv262]; omega), fun v262 ev262 => ?_⟩
  conv => whnf
  refine ⟨rfl, _, _, _, _, _, _, c_Lw_changed lw.1.1 lw.1.2.2.1, ⟨Nat.le_of_ble_eq_true rfl, Nat.le_of_ble_eq_true rfl, by (try dsimp only); omega, by (try dsimp only); omega⟩, fun _ _ z => False.elim z, ?_⟩
  rintro v9 H263 ⟨⟨r265, rfl⟩, fo⟩
  have l264 := (lw.fo fo).1
  conv => whnf
  have lsv266 : j_ln H263 sc = L := l264.1.2.2.2.2.2.2
  refine ⟨_, _, rfl, l264.1.2.2.2.2.2.1, rfl, j_vp (by omega) (by rw [lsv266]; omega), fun v266 ev266 => ?_⟩
  conv => whnf
  have lsv267 : j_ln H263 sc = L := l264.1.2.2.2.2.2.2
  refine ⟨_, _, rfl, l264.1.2.2.2.2.2.1, rfl, j_vp (by omega) (by rw [lsv267]; omega), fun v267 ev267 => ?_⟩
  conv => whnf
  obtain ⟨ρ271, w270⟩ := l264.1.2.1
  refine ⟨w270.km, rfl, _, _, _, _, _, _, c_Mo_changed w270, ⟨Nat.le_of_ble_eq_true rfl, Nat.le_of_ble_eq_true rfl, by (try dsimp only); omega, by (try dsimp only); omega⟩, fun _ _ z => False.elim z, ?_⟩
  rintro v9 H268 ⟨st9, r9, rfl⟩
  have l269 := l264.mf w270 st9
  exact j_use hF (back _ _ _ l269 (by omega) (by omega)) (And.intro rfl (And.intro rfl (And.intro rfl (And.intro rfl (And.intro rfl trivial)))))
set_option maxHeartbeats 4000000 in
set_option maxRecDepth 20000 in
theorem j_turn22 {J : j_J} {L sc x m out P G R Q cn sn : Nat} {i : Int32} {h : j_H} (hJ : j_Cl k_law j_lF j_lP j_no J) (hF : j_Fg J) (hL : L ≤ 2560) (i0 : 0 ≤ i.toInt) (i1 : i.toInt + 5 ≤ (L : Int)) (hc : cn ≤ 500000) (hs : sn ≤ 6000000) (lw : j_LW L sc x m out P G R Q h) (back : ∀ (h' : j_H) (cn' sn' : Nat), j_LW L sc x m out P G R Q h' → cn' ≤ cn + 200 → sn' ≤ sn + 2000 → J 1161 [some (j_r (some sc)), some (j_r (some x)), some (j_r (some m)), some (j_r (some out)), some (j_i i), none, none] [] h' cn' sn') : J 1095 [some (j_r (some sc)), some (j_r (some x)), some (j_r (some m)), some (j_r (some out)), some (j_i i), none, none] [] h cn sn := by
  have q1 : (i + Int32.ofInt (1)).toInt = i.toInt + 1 := j_inc1 (by omega)
  have q2 : (i + Int32.ofInt (2)).toInt = i.toInt + 2 := j_i2 i0 (by omega)
  have q3 : (i + Int32.ofInt (3)).toInt = i.toInt + 3 := j_i3 i0 (by omega)
  have q4 : (i + Int32.ofInt (4)).toInt = i.toInt + 4 := j_i4 i0 (by omega)
  refine hJ [1161] 400 _ _ _ _ _ _ ?_
  conv => whnf
  have lsv272 : j_ln h sc = L := lw.1.2.2.2.2.2.2
  refine ⟨_, _, rfl, lw.1.2.2.2.2.2.1, rfl, j_vp (by omega) (by rw [lsv272]; omega), fun v272 ev272 => ?_⟩
  conv => whnf
  have lsv273 : j_ln h sc = L := lw.1.2.2.2.2.2.2
  refine ⟨_, _, rfl, lw.1.2.2.2.2.2.1, rfl, j_vp (by omega) (by rw [lsv273]; omega), fun v273 ev273 => ?_⟩
  conv => whnf
  refine ⟨rfl, _, _, _, _, _, _, c_Lw_wider lw.1.1 lw.1.2.2.1, ⟨Nat.le_of_ble_eq_true rfl, Nat.le_of_ble_eq_true rfl, by (try dsimp only); omega, by (try dsimp only); omega⟩, fun _ _ z => False.elim z, ?_⟩
  rintro v9 H274 ⟨⟨r276, rfl⟩, fo⟩
  have l275 := (lw.fo fo).1
  conv => whnf
  have lsv277 : j_ln H274 sc = L := l275.1.2.2.2.2.2.2
  refine ⟨_, _, rfl, l275.1.2.2.2.2.2.1, rfl, j_vp (by omega) (by rw [lsv277]; omega), fun v277 ev277 => ?_⟩
  conv => whnf
  have lsv278 : j_ln H274 sc = L := l275.1.2.2.2.2.2.2
  refine ⟨_, _, rfl, l275.1.2.2.2.2.2.1, rfl, j_vp (by omega) (by rw [lsv278]; omega), fun v278 ev278 => ?_⟩
  conv => whnf
  obtain ⟨ρ282, w281⟩ := l275.1.2.1
  refine ⟨w281.km, rfl, _, _, _, _, _, _, c_Mo_wider w281, ⟨Nat.le_of_ble_eq_true rfl, Nat.le_of_ble_eq_true rfl, by (try dsimp only); omega, by (try dsimp only); omega⟩, fun _ _ z => False.elim z, ?_⟩
  rintro v9 H279 ⟨st9, r9, rfl⟩
  have l280 := l275.mf w281 st9
  exact j_use hF (back _ _ _ l280 (by omega) (by omega)) (And.intro rfl (And.intro rfl (And.intro rfl (And.intro rfl (And.intro rfl trivial)))))
set_option maxHeartbeats 4000000 in
set_option maxRecDepth 20000 in
theorem j_turn23 {J : j_J} {L sc x m out P G R Q cn sn : Nat} {i : Int32} {h : j_H} (hJ : j_Cl k_law j_lF j_lP j_no J) (hF : j_Fg J) (hL : L ≤ 2560) (i0 : 0 ≤ i.toInt) (i1 : i.toInt + 5 ≤ (L : Int)) (hc : cn ≤ 500000) (hs : sn ≤ 6000000) (lw : j_LW L sc x m out P G R Q h) (back : ∀ (h' : j_H) (cn' sn' : Nat), j_LW L sc x m out P G R Q h' → cn' ≤ cn + 200 → sn' ≤ sn + 2000 → J 1161 [some (j_r (some sc)), some (j_r (some x)), some (j_r (some m)), some (j_r (some out)), some (j_i i), none, none] [] h' cn' sn') : J 1135 [some (j_r (some sc)), some (j_r (some x)), some (j_r (some m)), some (j_r (some out)), some (j_i i), none, none] [] h cn sn := by
  have q1 : (i + Int32.ofInt (1)).toInt = i.toInt + 1 := j_inc1 (by omega)
  have q2 : (i + Int32.ofInt (2)).toInt = i.toInt + 2 := j_i2 i0 (by omega)
  have q3 : (i + Int32.ofInt (3)).toInt = i.toInt + 3 := j_i3 i0 (by omega)
  have q4 : (i + Int32.ofInt (4)).toInt = i.toInt + 4 := j_i4 i0 (by omega)
  refine hJ [1161] 400 _ _ _ _ _ _ ?_
  conv => whnf
  refine ⟨lw.1.1.1, rfl, _, _, _, _, _, _, c_G_isSound (h := h) lw.1.1 j_Sc.rf, ⟨Nat.le_of_ble_eq_true rfl, Nat.le_of_ble_eq_true rfl, by (try dsimp only); omega, by (try dsimp only); omega⟩, fun _ _ z => False.elim z, ?_⟩
  rintro v9 H283 ⟨it285, e9, s9, r9, rfl, -⟩
  have fr9 : j_Fr x h H283 := by rw [e9]; exact j_Fr.sc lw.1.1 s9 j_sf_ok j_sf8
  have l284 := (lw.fo fr9.fo).1
  conv => whnf
  obtain ⟨ρ289, w288⟩ := l284.1.2.1
  refine ⟨w288.km, rfl, _, _, _, _, _, _, c_Mo_isSound w288, ⟨Nat.le_of_ble_eq_true rfl, Nat.le_of_ble_eq_true rfl, by (try dsimp only); omega, by (try dsimp only); omega⟩, fun _ _ z => False.elim z, ?_⟩
  rintro v9 H286 ⟨st9, r9, rfl, -⟩
  have l287 := l284.mf w288 st9
  exact j_use hF (back _ _ _ l287 (by omega) (by omega)) (And.intro rfl (And.intro rfl (And.intro rfl (And.intro rfl (And.intro rfl trivial)))))
set_option maxHeartbeats 4000000 in
set_option maxRecDepth 20000 in
theorem j_turn24 {J : j_J} {L sc x m out P G R Q cn sn : Nat} {i : Int32} {h : j_H} (hJ : j_Cl k_law j_lF j_lP j_no J) (hF : j_Fg J) (hL : L ≤ 2560) (i0 : 0 ≤ i.toInt) (i1 : i.toInt + 5 ≤ (L : Int)) (hc : cn ≤ 500000) (hs : sn ≤ 6000000) (lw : j_LW L sc x m out P G R Q h) (back : ∀ (h' : j_H) (cn' sn' : Nat), j_LW L sc x m out P G R Q h' → cn' ≤ cn + 200 → sn' ≤ sn + 2000 → J 1161 [some (j_r (some sc)), some (j_r (some x)), some (j_r (some m)), some (j_r (some out)), some (j_i i), none, none] [] h' cn' sn') : J 1148 [some (j_r (some sc)), some (j_r (some x)), some (j_r (some m)), some (j_r (some out)), some (j_i i), none, none] [] h cn sn := by
  have q1 : (i + Int32.ofInt (1)).toInt = i.toInt + 1 := j_inc1 (by omega)
  have q2 : (i + Int32.ofInt (2)).toInt = i.toInt + 2 := j_i2 i0 (by omega)
  have q3 : (i + Int32.ofInt (3)).toInt = i.toInt + 3 := j_i3 i0 (by omega)
  have q4 : (i + Int32.ofInt (4)).toInt = i.toInt + 4 := j_i4 i0 (by omega)
  refine hJ [1161] 400 _ _ _ _ _ _ ?_
  conv => whnf
  refine ⟨lw.1.1.1, rfl, _, _, _, _, _, _, c_G_digest (h := h) lw.1.1 j_Sc.rf, ⟨Nat.le_of_ble_eq_true rfl, Nat.le_of_ble_eq_true rfl, by (try dsimp only); omega, by (try dsimp only); omega⟩, fun _ _ z => False.elim z, ?_⟩
  rintro v9 H290 ⟨it292, e9, s9, r9, rfl⟩
  have fr9 : j_Fr x h H290 := by rw [e9]; exact j_Fr.sc lw.1.1 s9 j_sf_ok j_sf8
  have l291 := (lw.fo fr9.fo).1
  conv => whnf
  obtain ⟨ρ296, w295⟩ := l291.1.2.1
  refine ⟨w295.km, rfl, _, _, _, _, _, _, c_Mo_digest w295, ⟨Nat.le_of_ble_eq_true rfl, Nat.le_of_ble_eq_true rfl, by (try dsimp only); omega, by (try dsimp only); omega⟩, fun _ _ z => False.elim z, ?_⟩
  rintro v9 H293 ⟨st9, r9, rfl⟩
  have l294 := l291.mf w295 st9
  exact j_use hF (back _ _ _ l294 (by omega) (by omega)) (And.intro rfl (And.intro rfl (And.intro rfl (And.intro rfl (And.intro rfl trivial)))))
set_option maxHeartbeats 4000000 in
set_option maxRecDepth 20000 in
theorem j_lawloop {J : j_J} {L sc x m out P G R Q : Nat} (hJ : j_Cl k_law j_lF j_lP j_no J) (hF : j_Fg J) (hL : L ≤ 2560) : ∀ (k : Nat) (i : Int32) (h : j_H) (cn sn : Nat), j_LW L sc x m out P G R Q h → 0 ≤ i.toInt → i.toInt ≤ (L : Int) → ((L : Int) + 5 - i.toInt) < (k : Int) → cn ≤ 100 + 40 * i.toInt.toNat → sn ≤ 1000 + 400 * i.toInt.toNat → J 27 [some (j_r (some sc)), some (j_r (some x)), some (j_r (some m)), some (j_r (some out)), some (j_i i), none, none] [] h cn sn := by
  intro k
  induction k with
  | zero => intro i h cn sn lw i0 i1 hk hc hs; omega
  | succ k ih =>
    intro i h cn sn lw i0 i1 hk hc hs
    have q5 : (Int32.ofInt 5).toInt = 5 := by decide
    have ls : j_ln h sc = L := lw.1.2.2.2.2.2.2
    have hn : (nI (j_ln h sc)).toInt = (L : Int) := by rw [ls]; exact nI_toInt (by omega)
    have hs5 : (nI (j_ln h sc) - Int32.ofInt 5).toInt = (L : Int) - 5 := by rw [j_subI (by rw [hn, q5]; omega) (by rw [hn, q5]; omega), hn, q5]
    refine hJ [156, 237, 265, 305, 345, 385, 413, 477, 505, 545, 585, 625, 665, 717, 773, 813, 841, 869, 921, 1001, 1014, 1055, 1095, 1135, 1148, 1161] 400 _ _ _ _ _ _ ?_
    conv => whnf
    refine ⟨_, _, rfl, lw.1.2.2.2.2.2.1, ?_⟩
    conv => whnf
    refine ⟨fun c => ?_, fun c => ?_⟩
    · conv => whnf
      exact ⟨Or.inr rfl, ⟨by (try dsimp only); omega, by (try dsimp only); omega⟩, rfl⟩
    have c : ¬ (nI (j_ln h sc) - Int32.ofInt 5).toInt < i.toInt := c
    rw [hs5] at c
    have back : ∀ (h' : j_H) (cn' sn' : Nat), j_LW L sc x m out P G R Q h' → cn' ≤ cn + 200 → sn' ≤ sn + 2000 → J 1161 [some (j_r (some sc)), some (j_r (some x)), some (j_r (some m)), some (j_r (some out)), some (j_i i), none, none] [] h' cn' sn' := by
      intro h' cn' sn' lw' hc' hs'
      have t : (i + Int32.ofInt (5)).toInt = i.toInt + 5 := j_i5 i0 (by omega)
      refine hJ [27] 400 _ _ _ _ _ _ ?_
      conv => whnf
      exact j_use hF (ih (i + Int32.ofInt (5)) h' cn' sn' lw' (by omega) (by omega) (by omega) (by omega) (by omega)) (And.intro rfl (And.intro rfl (And.intro rfl (And.intro rfl (And.intro rfl trivial)))))
    conv => whnf
    refine ⟨_, _, rfl, lw.1.2.2.2.2.2.1, rfl, j_vp (by omega) (by omega), fun v _ => ?_⟩
    conv => whnf
    refine ⟨And.intro (fun _ => ?_) (And.intro (fun _ => ?_) (And.intro (fun _ => ?_) (And.intro (fun _ => ?_) (And.intro (fun _ => ?_) (And.intro (fun _ => ?_) (And.intro (fun _ => ?_) (And.intro (fun _ => ?_) (And.intro (fun _ => ?_) (And.intro (fun _ => ?_) (And.intro (fun _ => ?_) (And.intro (fun _ => ?_) (And.intro (fun _ => ?_) (And.intro (fun _ => ?_) (And.intro (fun _ => ?_) (And.intro (fun _ => ?_) (And.intro (fun _ => ?_) (And.intro (fun _ => ?_) (And.intro (fun _ => ?_) (And.intro (fun _ => ?_) (And.intro (fun _ => ?_) (And.intro (fun _ => ?_) (And.intro (fun _ => ?_) (And.intro (fun _ => ?_) (And.intro (fun _ => ?_) (trivial))))))))))))))))))))))))), fun _ => ?_⟩
    · exact j_use hF (j_turn0 hJ hF hL i0 (by omega) (by omega) (by omega) lw back) (And.intro rfl (And.intro rfl (And.intro rfl (And.intro rfl (And.intro rfl trivial)))))
    · exact j_use hF (j_turn1 hJ hF hL i0 (by omega) (by omega) (by omega) lw back) (And.intro rfl (And.intro rfl (And.intro rfl (And.intro rfl (And.intro rfl trivial)))))
    · exact j_use hF (j_turn2 hJ hF hL i0 (by omega) (by omega) (by omega) lw back) (And.intro rfl (And.intro rfl (And.intro rfl (And.intro rfl (And.intro rfl trivial)))))
    · exact j_use hF (j_turn3 hJ hF hL i0 (by omega) (by omega) (by omega) lw back) (And.intro rfl (And.intro rfl (And.intro rfl (And.intro rfl (And.intro rfl trivial)))))
    · exact j_use hF (j_turn4 hJ hF hL i0 (by omega) (by omega) (by omega) lw back) (And.intro rfl (And.intro rfl (And.intro rfl (And.intro rfl (And.intro rfl trivial)))))
    · exact j_use hF (j_turn5 hJ hF hL i0 (by omega) (by omega) (by omega) lw back) (And.intro rfl (And.intro rfl (And.intro rfl (And.intro rfl (And.intro rfl trivial)))))
    · exact j_use hF (j_turn6 hJ hF hL i0 (by omega) (by omega) (by omega) lw back) (And.intro rfl (And.intro rfl (And.intro rfl (And.intro rfl (And.intro rfl trivial)))))
    · exact j_use hF (j_turn7 hJ hF hL i0 (by omega) (by omega) (by omega) lw back) (And.intro rfl (And.intro rfl (And.intro rfl (And.intro rfl (And.intro rfl trivial)))))
    · exact j_use hF (j_turn8 hJ hF hL i0 (by omega) (by omega) (by omega) lw back) (And.intro rfl (And.intro rfl (And.intro rfl (And.intro rfl (And.intro rfl trivial)))))
    · exact j_use hF (j_turn9 hJ hF hL i0 (by omega) (by omega) (by omega) lw back) (And.intro rfl (And.intro rfl (And.intro rfl (And.intro rfl (And.intro rfl trivial)))))
    · exact j_use hF (j_turn10 hJ hF hL i0 (by omega) (by omega) (by omega) lw back) (And.intro rfl (And.intro rfl (And.intro rfl (And.intro rfl (And.intro rfl trivial)))))
    · exact j_use hF (j_turn11 hJ hF hL i0 (by omega) (by omega) (by omega) lw back) (And.intro rfl (And.intro rfl (And.intro rfl (And.intro rfl (And.intro rfl trivial)))))
    · exact j_use hF (j_turn12 hJ hF hL i0 (by omega) (by omega) (by omega) lw back) (And.intro rfl (And.intro rfl (And.intro rfl (And.intro rfl (And.intro rfl trivial)))))
    · exact j_use hF (j_turn13 hJ hF hL i0 (by omega) (by omega) (by omega) lw back) (And.intro rfl (And.intro rfl (And.intro rfl (And.intro rfl (And.intro rfl trivial)))))
    · exact j_use hF (j_turn14 hJ hF hL i0 (by omega) (by omega) (by omega) lw back) (And.intro rfl (And.intro rfl (And.intro rfl (And.intro rfl (And.intro rfl trivial)))))
    · exact j_use hF (j_turn15 hJ hF hL i0 (by omega) (by omega) (by omega) lw back) (And.intro rfl (And.intro rfl (And.intro rfl (And.intro rfl (And.intro rfl trivial)))))
    · exact j_use hF (j_turn16 hJ hF hL i0 (by omega) (by omega) (by omega) lw back) (And.intro rfl (And.intro rfl (And.intro rfl (And.intro rfl (And.intro rfl trivial)))))
    · exact j_use hF (j_turn17 hJ hF hL i0 (by omega) (by omega) (by omega) lw back) (And.intro rfl (And.intro rfl (And.intro rfl (And.intro rfl (And.intro rfl trivial)))))
    · exact j_use hF (j_turn18 hJ hF hL i0 (by omega) (by omega) (by omega) lw back) (And.intro rfl (And.intro rfl (And.intro rfl (And.intro rfl (And.intro rfl trivial)))))
    · exact j_use hF (j_turn19 hJ hF hL i0 (by omega) (by omega) (by omega) lw back) (And.intro rfl (And.intro rfl (And.intro rfl (And.intro rfl (And.intro rfl trivial)))))
    · exact j_use hF (j_turn20 hJ hF hL i0 (by omega) (by omega) (by omega) lw back) (And.intro rfl (And.intro rfl (And.intro rfl (And.intro rfl (And.intro rfl trivial)))))
    · exact j_use hF (j_turn21 hJ hF hL i0 (by omega) (by omega) (by omega) lw back) (And.intro rfl (And.intro rfl (And.intro rfl (And.intro rfl (And.intro rfl trivial)))))
    · exact j_use hF (j_turn22 hJ hF hL i0 (by omega) (by omega) (by omega) lw back) (And.intro rfl (And.intro rfl (And.intro rfl (And.intro rfl (And.intro rfl trivial)))))
    · exact j_use hF (j_turn23 hJ hF hL i0 (by omega) (by omega) (by omega) lw back) (And.intro rfl (And.intro rfl (And.intro rfl (And.intro rfl (And.intro rfl trivial)))))
    · exact j_use hF (j_turn24 hJ hF hL i0 (by omega) (by omega) (by omega) lw back) (And.intro rfl (And.intro rfl (And.intro rfl (And.intro rfl (And.intro rfl trivial)))))
    · exact j_use hF (back h cn sn lw (by omega) (by omega)) (And.intro rfl (And.intro rfl (And.intro rfl (And.intro rfl (And.intro rfl trivial)))))
