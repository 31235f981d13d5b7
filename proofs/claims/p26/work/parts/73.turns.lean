/-! the law's turns, one by one -/
theorem j_i2 {i : Int32} (h0 : 0 ≤ i.toInt) (h1 : i.toInt ≤ 100000) : (i + Int32.ofInt (2)).toInt = i.toInt + 2 := by
  have e : (Int32.ofInt (2)).toInt = 2 := by decide
  rw [j_addI (by omega) (by omega), e]
theorem j_i3 {i : Int32} (h0 : 0 ≤ i.toInt) (h1 : i.toInt ≤ 100000) : (i + Int32.ofInt (3)).toInt = i.toInt + 3 := by
  have e : (Int32.ofInt (3)).toInt = 3 := by decide
  rw [j_addI (by omega) (by omega), e]
theorem j_i4 {i : Int32} (h0 : 0 ≤ i.toInt) (h1 : i.toInt ≤ 100000) : (i + Int32.ofInt (4)).toInt = i.toInt + 4 := by
  have e : (Int32.ofInt (4)).toInt = 4 := by decide
  rw [j_addI (by omega) (by omega), e]
theorem j_i5 {i : Int32} (h0 : 0 ≤ i.toInt) (h1 : i.toInt ≤ 100000) : (i + Int32.ofInt (5)).toInt = i.toInt + 5 := by
  have e : (Int32.ofInt (5)).toInt = 5 := by decide
  rw [j_addI (by omega) (by omega), e]
abbrev j_lF : j_F := (7, some .boolean, 2048, 84000, 601024, 7293033)
def j_lP : Option j_V → j_H → Prop := fun v _ => v = some (j_i (Int32.ofInt 1))
theorem j_cmp0 (x : Int64) : (lg_cmp x x).toInt = 0 := by
  have e : lg_cmp x x = 0 := by
    unfold lg_cmp
    simp
  rw [e]
  decide
set_option maxHeartbeats 4000000 in
set_option maxRecDepth 20000 in
theorem j_turn0 {J : j_J} {L sc x m out P G R Q cn sn : Nat} {i : Int32} {h : j_H} (hJ : j_Cl k_law j_lF j_lP j_no J) (hF : j_Fg J) (hL : L ≤ 2560) (i0 : 0 ≤ i.toInt) (i1 : i.toInt + 5 ≤ (L : Int)) (hc : cn ≤ 500000) (hs : sn ≤ 6000000) (lw : j_LW L sc x m out P G R Q h) (back : ∀ (h' : j_H) (cn' sn' : Nat), j_LW L sc x m out P G R Q h' → cn' ≤ cn + 200 → sn' ≤ sn + 2000 → J 1133 [some (j_r (some sc)), some (j_r (some x)), some (j_r (some m)), some (j_r (some out)), some (j_i i), none, none] [] h' cn' sn') : J 156 [some (j_r (some sc)), some (j_r (some x)), some (j_r (some m)), some (j_r (some out)), some (j_i i), none, none] [] h cn sn := by
  have q1 : (i + Int32.ofInt (1)).toInt = i.toInt + 1 := j_inc1 (by omega)
  have q2 : (i + Int32.ofInt (2)).toInt = i.toInt + 2 := j_i2 i0 (by omega)
  have q3 : (i + Int32.ofInt (3)).toInt = i.toInt + 3 := j_i3 i0 (by omega)
  have q4 : (i + Int32.ofInt (4)).toInt = i.toInt + 4 := j_i4 i0 (by omega)
  refine hJ [1133] 400 _ _ _ _ _ _ ?_
  conv => whnf
  have lsv1 : j_ln h sc = L := lw.1.2.2.2.2.2.2
  refine ⟨_, _, rfl, lw.1.2.2.2.2.2.1, rfl, j_vp (by omega) (by rw [lsv1]; omega), fun v1 ev1 => ?_⟩
  conv => whnf
  have lsv2 : j_ln h sc = L := lw.1.2.2.2.2.2.2
  refine ⟨_, _, rfl, lw.1.2.2.2.2.2.1, rfl, j_vp (by omega) (by rw [lsv2]; omega), fun v2 ev2 => ?_⟩
  conv => whnf
  have lsv3 : j_ln h sc = L := lw.1.2.2.2.2.2.2
  refine ⟨_, _, rfl, lw.1.2.2.2.2.2.1, rfl, j_vp (by omega) (by rw [lsv3]; omega), fun v3 ev3 => ?_⟩
  conv => whnf
  refine ⟨rfl, _, _, _, _, _, _, c_Lw_grainz lw.1.1 lw.2.1 lw.1.2.2.1, ⟨Nat.le_of_ble_eq_true rfl, Nat.le_of_ble_eq_true rfl, by (try dsimp only); omega, by (try dsimp only); omega⟩, fun _ _ z => False.elim z, ?_⟩
  rintro u9 H4 a
  obtain rfl := a.1
  obtain ⟨l1, s1, m1⟩ := lw.1.lq a
  conv => whnf
  have lsv6 : j_ln H4 sc = L := l1.2.2.2.2.2.2
  refine ⟨_, _, rfl, l1.2.2.2.2.2.1, rfl, j_vp (by omega) (by rw [lsv6]; omega), fun v6 ev6 => ?_⟩
  obtain rfl : v1 = v6 := ev1.symm.trans ((s1 _).symm.trans ev6)
  conv => whnf
  have lsv7 : j_ln H4 sc = L := l1.2.2.2.2.2.2
  refine ⟨_, _, rfl, l1.2.2.2.2.2.1, rfl, j_vp (by omega) (by rw [lsv7]; omega), fun v7 ev7 => ?_⟩
  obtain rfl : v2 = v7 := ev2.symm.trans ((s1 _).symm.trans ev7)
  conv => whnf
  have lsv8 : j_ln H4 sc = L := l1.2.2.2.2.2.2
  refine ⟨_, _, rfl, l1.2.2.2.2.2.1, rfl, j_vp (by omega) (by rw [lsv8]; omega), fun v8 ev8 => ?_⟩
  obtain rfl : v3 = v8 := ev3.symm.trans ((s1 _).symm.trans ev8)
  conv => whnf
  obtain ⟨ρ9, w9⟩ := l1.2.1
  have eq9 : z_eq (z_d H4 m P G R Q) (z_c h x) := m1.tr lw.2.2.2
  have V := lw.2.2.1.1
  have B := lw.2.2.1.2
  refine ⟨w9.km, rfl, _, _, _, _, _, _, c_Mo_grainz w9, ⟨Nat.le_of_ble_eq_true rfl, Nat.le_of_ble_eq_true rfl, by (try dsimp only); omega, by (try dsimp only); omega⟩, fun _ _ z => False.elim z, ?_⟩
  rintro u9 H9 b
  have hq : q_grain (j_am H4 m P G R) v1 v2 v3 = q_grain (z_cn h x) v1 v2 v3 := q_grain_c (z_amc eq9)
  obtain ⟨lw2, o2⟩ := lw.told a b.ms hq (fun _ => cN_grain eq9 w9.b.1.2) (fun z => ⟨cV_grain V z, cB_grain B z⟩)
  obtain ⟨r9, rfl⟩ := b.2.2.2.2.2.2
  exact j_use hF (back _ _ _ lw2 (by omega) (by omega)) (And.intro rfl (And.intro rfl (And.intro rfl (And.intro rfl (And.intro rfl trivial)))))
set_option maxHeartbeats 4000000 in
set_option maxRecDepth 20000 in
theorem j_turn1 {J : j_J} {L sc x m out P G R Q cn sn : Nat} {i : Int32} {h : j_H} (hJ : j_Cl k_law j_lF j_lP j_no J) (hF : j_Fg J) (hL : L ≤ 2560) (i0 : 0 ≤ i.toInt) (i1 : i.toInt + 5 ≤ (L : Int)) (hc : cn ≤ 500000) (hs : sn ≤ 6000000) (lw : j_LW L sc x m out P G R Q h) (back : ∀ (h' : j_H) (cn' sn' : Nat), j_LW L sc x m out P G R Q h' → cn' ≤ cn + 200 → sn' ≤ sn + 2000 → J 1133 [some (j_r (some sc)), some (j_r (some x)), some (j_r (some m)), some (j_r (some out)), some (j_i i), none, none] [] h' cn' sn') : J 208 [some (j_r (some sc)), some (j_r (some x)), some (j_r (some m)), some (j_r (some out)), some (j_i i), none, none] [] h cn sn := by
  have q1 : (i + Int32.ofInt (1)).toInt = i.toInt + 1 := j_inc1 (by omega)
  have q2 : (i + Int32.ofInt (2)).toInt = i.toInt + 2 := j_i2 i0 (by omega)
  have q3 : (i + Int32.ofInt (3)).toInt = i.toInt + 3 := j_i3 i0 (by omega)
  have q4 : (i + Int32.ofInt (4)).toInt = i.toInt + 4 := j_i4 i0 (by omega)
  refine hJ [1133] 400 _ _ _ _ _ _ ?_
  conv => whnf
  have lsv11 : j_ln h sc = L := lw.1.2.2.2.2.2.2
  refine ⟨_, _, rfl, lw.1.2.2.2.2.2.1, rfl, j_vp (by omega) (by rw [lsv11]; omega), fun v11 ev11 => ?_⟩
  conv => whnf
  refine ⟨rfl, _, _, _, _, _, _, c_Lw_passz lw.1.1 lw.2.1 lw.2.2.1.1 lw.1.2.2.1, ⟨Nat.le_of_ble_eq_true rfl, Nat.le_of_ble_eq_true rfl, by (try dsimp only); omega, by (try dsimp only); omega⟩, fun _ _ z => False.elim z, ?_⟩
  rintro u9 H12 a
  obtain rfl := a.1
  obtain ⟨l1, s1, m1⟩ := lw.1.lq a
  conv => whnf
  have lsv14 : j_ln H12 sc = L := l1.2.2.2.2.2.2
  refine ⟨_, _, rfl, l1.2.2.2.2.2.1, rfl, j_vp (by omega) (by rw [lsv14]; omega), fun v14 ev14 => ?_⟩
  obtain rfl : v11 = v14 := ev11.symm.trans ((s1 _).symm.trans ev14)
  conv => whnf
  obtain ⟨ρ9, w9⟩ := l1.2.1
  have eq9 : z_eq (z_d H12 m P G R Q) (z_c h x) := m1.tr lw.2.2.2
  have V := lw.2.2.1.1
  have B := lw.2.2.1.2
  refine ⟨w9.km, rfl, _, _, _, _, _, _, c_Mo_passz w9 (V.eq eq9), ⟨Nat.le_of_ble_eq_true rfl, Nat.le_of_ble_eq_true rfl, by (try dsimp only); omega, by (try dsimp only); omega⟩, fun _ _ z => False.elim z, ?_⟩
  rintro u9 H15 b
  have hq : q_pass (z_dn H12 m P G R Q) v11 = q_pass (z_cn h x) v11 := by unfold q_pass; rw [show (z_dn H12 m P G R Q) 6 = (z_cn h x) 6 from eq9.1 6 (by decide)]
  obtain ⟨lw2, o2⟩ := lw.told a b.ms hq (fun _ => cN_pass eq9) (fun z => ⟨z_V.years V, cB_pass B z⟩)
  obtain ⟨r9, rfl⟩ := b.2.2.2.2.2.2
  exact j_use hF (back _ _ _ lw2 (by omega) (by omega)) (And.intro rfl (And.intro rfl (And.intro rfl (And.intro rfl (And.intro rfl trivial)))))
set_option maxHeartbeats 4000000 in
set_option maxRecDepth 20000 in
theorem j_turn2 {J : j_J} {L sc x m out P G R Q cn sn : Nat} {i : Int32} {h : j_H} (hJ : j_Cl k_law j_lF j_lP j_no J) (hF : j_Fg J) (hL : L ≤ 2560) (i0 : 0 ≤ i.toInt) (i1 : i.toInt + 5 ≤ (L : Int)) (hc : cn ≤ 500000) (hs : sn ≤ 6000000) (lw : j_LW L sc x m out P G R Q h) (back : ∀ (h' : j_H) (cn' sn' : Nat), j_LW L sc x m out P G R Q h' → cn' ≤ cn + 200 → sn' ≤ sn + 2000 → J 1133 [some (j_r (some sc)), some (j_r (some x)), some (j_r (some m)), some (j_r (some out)), some (j_i i), none, none] [] h' cn' sn') : J 236 [some (j_r (some sc)), some (j_r (some x)), some (j_r (some m)), some (j_r (some out)), some (j_i i), none, none] [] h cn sn := by
  have q1 : (i + Int32.ofInt (1)).toInt = i.toInt + 1 := j_inc1 (by omega)
  have q2 : (i + Int32.ofInt (2)).toInt = i.toInt + 2 := j_i2 i0 (by omega)
  have q3 : (i + Int32.ofInt (3)).toInt = i.toInt + 3 := j_i3 i0 (by omega)
  have q4 : (i + Int32.ofInt (4)).toInt = i.toInt + 4 := j_i4 i0 (by omega)
  refine hJ [1133] 400 _ _ _ _ _ _ ?_
  conv => whnf
  have lsv17 : j_ln h sc = L := lw.1.2.2.2.2.2.2
  refine ⟨_, _, rfl, lw.1.2.2.2.2.2.1, rfl, j_vp (by omega) (by rw [lsv17]; omega), fun v17 ev17 => ?_⟩
  conv => whnf
  have lsv18 : j_ln h sc = L := lw.1.2.2.2.2.2.2
  refine ⟨_, _, rfl, lw.1.2.2.2.2.2.1, rfl, j_vp (by omega) (by rw [lsv18]; omega), fun v18 ev18 => ?_⟩
  conv => whnf
  refine ⟨rfl, _, _, _, _, _, _, c_Lw_heatz lw.1.1 lw.2.1 lw.1.2.2.1, ⟨Nat.le_of_ble_eq_true rfl, Nat.le_of_ble_eq_true rfl, by (try dsimp only); omega, by (try dsimp only); omega⟩, fun _ _ z => False.elim z, ?_⟩
  rintro u9 H19 a
  obtain rfl := a.1
  obtain ⟨l1, s1, m1⟩ := lw.1.lq a
  conv => whnf
  have lsv21 : j_ln H19 sc = L := l1.2.2.2.2.2.2
  refine ⟨_, _, rfl, l1.2.2.2.2.2.1, rfl, j_vp (by omega) (by rw [lsv21]; omega), fun v21 ev21 => ?_⟩
  obtain rfl : v17 = v21 := ev17.symm.trans ((s1 _).symm.trans ev21)
  conv => whnf
  have lsv22 : j_ln H19 sc = L := l1.2.2.2.2.2.2
  refine ⟨_, _, rfl, l1.2.2.2.2.2.1, rfl, j_vp (by omega) (by rw [lsv22]; omega), fun v22 ev22 => ?_⟩
  obtain rfl : v18 = v22 := ev18.symm.trans ((s1 _).symm.trans ev22)
  conv => whnf
  obtain ⟨ρ9, w9⟩ := l1.2.1
  have eq9 : z_eq (z_d H19 m P G R Q) (z_c h x) := m1.tr lw.2.2.2
  have V := lw.2.2.1.1
  have B := lw.2.2.1.2
  refine ⟨w9.km, rfl, _, _, _, _, _, _, c_Mo_heatz w9, ⟨Nat.le_of_ble_eq_true rfl, Nat.le_of_ble_eq_true rfl, by (try dsimp only); omega, by (try dsimp only); omega⟩, fun _ _ z => False.elim z, ?_⟩
  rintro u9 H23 b
  have hq : q_touch (z_d H19 m P G R Q) v17 v18 = q_touch (z_c h x) v17 v18 := q_touch_c eq9
  obtain ⟨lw2, o2⟩ := lw.told a b.ms hq (fun _ => n_touch_c (by decide) eq9) (fun z => ⟨cV_touch (by decide) V z, cB_touch (by decide) B⟩)
  obtain ⟨r9, rfl⟩ := b.2.2.2.2.2.2
  exact j_use hF (back _ _ _ lw2 (by omega) (by omega)) (And.intro rfl (And.intro rfl (And.intro rfl (And.intro rfl (And.intro rfl trivial)))))
set_option maxHeartbeats 4000000 in
set_option maxRecDepth 20000 in
theorem j_turn3 {J : j_J} {L sc x m out P G R Q cn sn : Nat} {i : Int32} {h : j_H} (hJ : j_Cl k_law j_lF j_lP j_no J) (hF : j_Fg J) (hL : L ≤ 2560) (i0 : 0 ≤ i.toInt) (i1 : i.toInt + 5 ≤ (L : Int)) (hc : cn ≤ 500000) (hs : sn ≤ 6000000) (lw : j_LW L sc x m out P G R Q h) (back : ∀ (h' : j_H) (cn' sn' : Nat), j_LW L sc x m out P G R Q h' → cn' ≤ cn + 200 → sn' ≤ sn + 2000 → J 1133 [some (j_r (some sc)), some (j_r (some x)), some (j_r (some m)), some (j_r (some out)), some (j_i i), none, none] [] h' cn' sn') : J 276 [some (j_r (some sc)), some (j_r (some x)), some (j_r (some m)), some (j_r (some out)), some (j_i i), none, none] [] h cn sn := by
  have q1 : (i + Int32.ofInt (1)).toInt = i.toInt + 1 := j_inc1 (by omega)
  have q2 : (i + Int32.ofInt (2)).toInt = i.toInt + 2 := j_i2 i0 (by omega)
  have q3 : (i + Int32.ofInt (3)).toInt = i.toInt + 3 := j_i3 i0 (by omega)
  have q4 : (i + Int32.ofInt (4)).toInt = i.toInt + 4 := j_i4 i0 (by omega)
  refine hJ [1133] 400 _ _ _ _ _ _ ?_
  conv => whnf
  have lsv25 : j_ln h sc = L := lw.1.2.2.2.2.2.2
  refine ⟨_, _, rfl, lw.1.2.2.2.2.2.1, rfl, j_vp (by omega) (by rw [lsv25]; omega), fun v25 ev25 => ?_⟩
  conv => whnf
  have lsv26 : j_ln h sc = L := lw.1.2.2.2.2.2.2
  refine ⟨_, _, rfl, lw.1.2.2.2.2.2.1, rfl, j_vp (by omega) (by rw [lsv26]; omega), fun v26 ev26 => ?_⟩
  conv => whnf
  refine ⟨rfl, _, _, _, _, _, _, c_Lw_washz lw.1.1 lw.2.1 lw.1.2.2.1, ⟨Nat.le_of_ble_eq_true rfl, Nat.le_of_ble_eq_true rfl, by (try dsimp only); omega, by (try dsimp only); omega⟩, fun _ _ z => False.elim z, ?_⟩
  rintro u9 H27 a
  obtain rfl := a.1
  obtain ⟨l1, s1, m1⟩ := lw.1.lq a
  conv => whnf
  have lsv29 : j_ln H27 sc = L := l1.2.2.2.2.2.2
  refine ⟨_, _, rfl, l1.2.2.2.2.2.1, rfl, j_vp (by omega) (by rw [lsv29]; omega), fun v29 ev29 => ?_⟩
  obtain rfl : v25 = v29 := ev25.symm.trans ((s1 _).symm.trans ev29)
  conv => whnf
  have lsv30 : j_ln H27 sc = L := l1.2.2.2.2.2.2
  refine ⟨_, _, rfl, l1.2.2.2.2.2.1, rfl, j_vp (by omega) (by rw [lsv30]; omega), fun v30 ev30 => ?_⟩
  obtain rfl : v26 = v30 := ev26.symm.trans ((s1 _).symm.trans ev30)
  conv => whnf
  obtain ⟨ρ9, w9⟩ := l1.2.1
  have eq9 : z_eq (z_d H27 m P G R Q) (z_c h x) := m1.tr lw.2.2.2
  have V := lw.2.2.1.1
  have B := lw.2.2.1.2
  refine ⟨w9.km, rfl, _, _, _, _, _, _, c_Mo_washz w9, ⟨Nat.le_of_ble_eq_true rfl, Nat.le_of_ble_eq_true rfl, by (try dsimp only); omega, by (try dsimp only); omega⟩, fun _ _ z => False.elim z, ?_⟩
  rintro u9 H31 b
  have hq : q_touch (z_d H27 m P G R Q) v25 v26 = q_touch (z_c h x) v25 v26 := q_touch_c eq9
  obtain ⟨lw2, o2⟩ := lw.told a b.ms hq (fun _ => n_touch_c (by decide) eq9) (fun z => ⟨cV_touch (by decide) V z, cB_touch (by decide) B⟩)
  obtain ⟨r9, rfl⟩ := b.2.2.2.2.2.2
  exact j_use hF (back _ _ _ lw2 (by omega) (by omega)) (And.intro rfl (And.intro rfl (And.intro rfl (And.intro rfl (And.intro rfl trivial)))))
set_option maxHeartbeats 4000000 in
set_option maxRecDepth 20000 in
theorem j_turn4 {J : j_J} {L sc x m out P G R Q cn sn : Nat} {i : Int32} {h : j_H} (hJ : j_Cl k_law j_lF j_lP j_no J) (hF : j_Fg J) (hL : L ≤ 2560) (i0 : 0 ≤ i.toInt) (i1 : i.toInt + 5 ≤ (L : Int)) (hc : cn ≤ 500000) (hs : sn ≤ 6000000) (lw : j_LW L sc x m out P G R Q h) (back : ∀ (h' : j_H) (cn' sn' : Nat), j_LW L sc x m out P G R Q h' → cn' ≤ cn + 200 → sn' ≤ sn + 2000 → J 1133 [some (j_r (some sc)), some (j_r (some x)), some (j_r (some m)), some (j_r (some out)), some (j_i i), none, none] [] h' cn' sn') : J 316 [some (j_r (some sc)), some (j_r (some x)), some (j_r (some m)), some (j_r (some out)), some (j_i i), none, none] [] h cn sn := by
  have q1 : (i + Int32.ofInt (1)).toInt = i.toInt + 1 := j_inc1 (by omega)
  have q2 : (i + Int32.ofInt (2)).toInt = i.toInt + 2 := j_i2 i0 (by omega)
  have q3 : (i + Int32.ofInt (3)).toInt = i.toInt + 3 := j_i3 i0 (by omega)
  have q4 : (i + Int32.ofInt (4)).toInt = i.toInt + 4 := j_i4 i0 (by omega)
  refine hJ [1133] 400 _ _ _ _ _ _ ?_
  conv => whnf
  have lsv33 : j_ln h sc = L := lw.1.2.2.2.2.2.2
  refine ⟨_, _, rfl, lw.1.2.2.2.2.2.1, rfl, j_vp (by omega) (by rw [lsv33]; omega), fun v33 ev33 => ?_⟩
  conv => whnf
  have lsv34 : j_ln h sc = L := lw.1.2.2.2.2.2.2
  refine ⟨_, _, rfl, lw.1.2.2.2.2.2.1, rfl, j_vp (by omega) (by rw [lsv34]; omega), fun v34 ev34 => ?_⟩
  conv => whnf
  refine ⟨rfl, _, _, _, _, _, _, c_Lw_pacez lw.1.1 lw.2.1 lw.2.2.1.1 lw.1.2.2.1, ⟨Nat.le_of_ble_eq_true rfl, Nat.le_of_ble_eq_true rfl, by (try dsimp only); omega, by (try dsimp only); omega⟩, fun _ _ z => False.elim z, ?_⟩
  rintro u9 H35 a
  obtain rfl := a.1
  obtain ⟨l1, s1, m1⟩ := lw.1.lq a
  conv => whnf
  have lsv37 : j_ln H35 sc = L := l1.2.2.2.2.2.2
  refine ⟨_, _, rfl, l1.2.2.2.2.2.1, rfl, j_vp (by omega) (by rw [lsv37]; omega), fun v37 ev37 => ?_⟩
  obtain rfl : v33 = v37 := ev33.symm.trans ((s1 _).symm.trans ev37)
  conv => whnf
  have lsv38 : j_ln H35 sc = L := l1.2.2.2.2.2.2
  refine ⟨_, _, rfl, l1.2.2.2.2.2.1, rfl, j_vp (by omega) (by rw [lsv38]; omega), fun v38 ev38 => ?_⟩
  obtain rfl : v34 = v38 := ev34.symm.trans ((s1 _).symm.trans ev38)
  conv => whnf
  obtain ⟨ρ9, w9⟩ := l1.2.1
  have eq9 : z_eq (z_d H35 m P G R Q) (z_c h x) := m1.tr lw.2.2.2
  have V := lw.2.2.1.1
  have B := lw.2.2.1.2
  refine ⟨w9.km, rfl, _, _, _, _, _, _, c_Mo_pacez w9, ⟨Nat.le_of_ble_eq_true rfl, Nat.le_of_ble_eq_true rfl, by (try dsimp only); omega, by (try dsimp only); omega⟩, fun _ _ z => False.elim z, ?_⟩
  rintro u9 H39 b
  have hq : q_pace v33 v34 = q_pace v33 v34 := rfl
  obtain ⟨lw2, o2⟩ := lw.told a b.ms hq (fun _ => n_pacez_c eq9) (fun z => ⟨z_V.pace V (q_pace_z z), cB_pace B⟩)
  obtain ⟨r9, rfl⟩ := b.2.2.2.2.2.2
  exact j_use hF (back _ _ _ lw2 (by omega) (by omega)) (And.intro rfl (And.intro rfl (And.intro rfl (And.intro rfl (And.intro rfl trivial)))))
set_option maxHeartbeats 4000000 in
set_option maxRecDepth 20000 in
theorem j_turn5 {J : j_J} {L sc x m out P G R Q cn sn : Nat} {i : Int32} {h : j_H} (hJ : j_Cl k_law j_lF j_lP j_no J) (hF : j_Fg J) (hL : L ≤ 2560) (i0 : 0 ≤ i.toInt) (i1 : i.toInt + 5 ≤ (L : Int)) (hc : cn ≤ 500000) (hs : sn ≤ 6000000) (lw : j_LW L sc x m out P G R Q h) (back : ∀ (h' : j_H) (cn' sn' : Nat), j_LW L sc x m out P G R Q h' → cn' ≤ cn + 200 → sn' ≤ sn + 2000 → J 1133 [some (j_r (some sc)), some (j_r (some x)), some (j_r (some m)), some (j_r (some out)), some (j_i i), none, none] [] h' cn' sn') : J 356 [some (j_r (some sc)), some (j_r (some x)), some (j_r (some m)), some (j_r (some out)), some (j_i i), none, none] [] h cn sn := by
  have q1 : (i + Int32.ofInt (1)).toInt = i.toInt + 1 := j_inc1 (by omega)
  have q2 : (i + Int32.ofInt (2)).toInt = i.toInt + 2 := j_i2 i0 (by omega)
  have q3 : (i + Int32.ofInt (3)).toInt = i.toInt + 3 := j_i3 i0 (by omega)
  have q4 : (i + Int32.ofInt (4)).toInt = i.toInt + 4 := j_i4 i0 (by omega)
  refine hJ [1133] 400 _ _ _ _ _ _ ?_
  conv => whnf
  have lsv41 : j_ln h sc = L := lw.1.2.2.2.2.2.2
  refine ⟨_, _, rfl, lw.1.2.2.2.2.2.1, rfl, j_vp (by omega) (by rw [lsv41]; omega), fun v41 ev41 => ?_⟩
  conv => whnf
  refine ⟨rfl, _, _, _, _, _, _, c_Lw_slipz lw.1.1 lw.2.1 lw.1.2.2.1, ⟨Nat.le_of_ble_eq_true rfl, Nat.le_of_ble_eq_true rfl, by (try dsimp only); omega, by (try dsimp only); omega⟩, fun _ _ z => False.elim z, ?_⟩
  rintro u9 H42 a
  obtain rfl := a.1
  obtain ⟨l1, s1, m1⟩ := lw.1.lq a
  conv => whnf
  have lsv44 : j_ln H42 sc = L := l1.2.2.2.2.2.2
  refine ⟨_, _, rfl, l1.2.2.2.2.2.1, rfl, j_vp (by omega) (by rw [lsv44]; omega), fun v44 ev44 => ?_⟩
  obtain rfl : v41 = v44 := ev41.symm.trans ((s1 _).symm.trans ev44)
  conv => whnf
  obtain ⟨ρ9, w9⟩ := l1.2.1
  have eq9 : z_eq (z_d H42 m P G R Q) (z_c h x) := m1.tr lw.2.2.2
  have V := lw.2.2.1.1
  have B := lw.2.2.1.2
  refine ⟨w9.km, rfl, _, _, _, _, _, _, c_Mo_slipz w9, ⟨Nat.le_of_ble_eq_true rfl, Nat.le_of_ble_eq_true rfl, by (try dsimp only); omega, by (try dsimp only); omega⟩, fun _ _ z => False.elim z, ?_⟩
  rintro u9 H45 b
  have hq : q_slip v41 = q_slip v41 := rfl
  obtain ⟨lw2, o2⟩ := lw.told a b.ms hq (fun _ => n_slipz_c eq9) (fun z => ⟨z_V.slip V (q_slip_z z), cB_slip B⟩)
  obtain ⟨r9, rfl⟩ := b.2.2.2.2.2.2
  exact j_use hF (back _ _ _ lw2 (by omega) (by omega)) (And.intro rfl (And.intro rfl (And.intro rfl (And.intro rfl (And.intro rfl trivial)))))
set_option maxHeartbeats 4000000 in
set_option maxRecDepth 20000 in
theorem j_turn6 {J : j_J} {L sc x m out P G R Q cn sn : Nat} {i : Int32} {h : j_H} (hJ : j_Cl k_law j_lF j_lP j_no J) (hF : j_Fg J) (hL : L ≤ 2560) (i0 : 0 ≤ i.toInt) (i1 : i.toInt + 5 ≤ (L : Int)) (hc : cn ≤ 500000) (hs : sn ≤ 6000000) (lw : j_LW L sc x m out P G R Q h) (back : ∀ (h' : j_H) (cn' sn' : Nat), j_LW L sc x m out P G R Q h' → cn' ≤ cn + 200 → sn' ≤ sn + 2000 → J 1133 [some (j_r (some sc)), some (j_r (some x)), some (j_r (some m)), some (j_r (some out)), some (j_i i), none, none] [] h' cn' sn') : J 384 [some (j_r (some sc)), some (j_r (some x)), some (j_r (some m)), some (j_r (some out)), some (j_i i), none, none] [] h cn sn := by
  have q1 : (i + Int32.ofInt (1)).toInt = i.toInt + 1 := j_inc1 (by omega)
  have q2 : (i + Int32.ofInt (2)).toInt = i.toInt + 2 := j_i2 i0 (by omega)
  have q3 : (i + Int32.ofInt (3)).toInt = i.toInt + 3 := j_i3 i0 (by omega)
  have q4 : (i + Int32.ofInt (4)).toInt = i.toInt + 4 := j_i4 i0 (by omega)
  refine hJ [1133] 400 _ _ _ _ _ _ ?_
  conv => whnf
  have lsv47 : j_ln h sc = L := lw.1.2.2.2.2.2.2
  refine ⟨_, _, rfl, lw.1.2.2.2.2.2.1, rfl, j_vp (by omega) (by rw [lsv47]; omega), fun v47 ev47 => ?_⟩
  conv => whnf
  have lsv48 : j_ln h sc = L := lw.1.2.2.2.2.2.2
  refine ⟨_, _, rfl, lw.1.2.2.2.2.2.1, rfl, j_vp (by omega) (by rw [lsv48]; omega), fun v48 ev48 => ?_⟩
  conv => whnf
  have lsv49 : j_ln h sc = L := lw.1.2.2.2.2.2.2
  refine ⟨_, _, rfl, lw.1.2.2.2.2.2.1, rfl, j_vp (by omega) (by rw [lsv49]; omega), fun v49 ev49 => ?_⟩
  conv => whnf
  have lsv50 : j_ln h sc = L := lw.1.2.2.2.2.2.2
  refine ⟨_, _, rfl, lw.1.2.2.2.2.2.1, rfl, j_vp (by omega) (by rw [lsv50]; omega), fun v50 ev50 => ?_⟩
  conv => whnf
  refine ⟨rfl, _, _, _, _, _, _, c_Lw_runz lw.1.1 lw.2.1 lw.2.2.1.1 lw.1.2.2.1, ⟨Nat.le_of_ble_eq_true rfl, Nat.le_of_ble_eq_true rfl, by (try dsimp only); omega, by (try dsimp only); omega⟩, fun _ _ z => False.elim z, ?_⟩
  rintro u9 H51 a
  obtain rfl := a.1
  obtain ⟨l1, s1, m1⟩ := lw.1.lq a
  conv => whnf
  have lsv53 : j_ln H51 sc = L := l1.2.2.2.2.2.2
  refine ⟨_, _, rfl, l1.2.2.2.2.2.1, rfl, j_vp (by omega) (by rw [lsv53]; omega), fun v53 ev53 => ?_⟩
  obtain rfl : v47 = v53 := ev47.symm.trans ((s1 _).symm.trans ev53)
  conv => whnf
  have lsv54 : j_ln H51 sc = L := l1.2.2.2.2.2.2
  refine ⟨_, _, rfl, l1.2.2.2.2.2.1, rfl, j_vp (by omega) (by rw [lsv54]; omega), fun v54 ev54 => ?_⟩
  obtain rfl : v48 = v54 := ev48.symm.trans ((s1 _).symm.trans ev54)
  conv => whnf
  have lsv55 : j_ln H51 sc = L := l1.2.2.2.2.2.2
  refine ⟨_, _, rfl, l1.2.2.2.2.2.1, rfl, j_vp (by omega) (by rw [lsv55]; omega), fun v55 ev55 => ?_⟩
  obtain rfl : v49 = v55 := ev49.symm.trans ((s1 _).symm.trans ev55)
  conv => whnf
  have lsv56 : j_ln H51 sc = L := l1.2.2.2.2.2.2
  refine ⟨_, _, rfl, l1.2.2.2.2.2.1, rfl, j_vp (by omega) (by rw [lsv56]; omega), fun v56 ev56 => ?_⟩
  obtain rfl : v50 = v56 := ev50.symm.trans ((s1 _).symm.trans ev56)
  conv => whnf
  obtain ⟨ρ9, w9⟩ := l1.2.1
  have eq9 : z_eq (z_d H51 m P G R Q) (z_c h x) := m1.tr lw.2.2.2
  have V := lw.2.2.1.1
  have B := lw.2.2.1.2
  refine ⟨w9.km, rfl, _, _, _, _, _, _, c_Mo_runz w9, ⟨Nat.le_of_ble_eq_true rfl, Nat.le_of_ble_eq_true rfl, by (try dsimp only); omega, by (try dsimp only); omega⟩, fun _ _ z => False.elim z, ?_⟩
  rintro u9 H57 b
  have hq : q_run (j_am H51 m P G R) v47 v48 v49 v50 = q_run (z_cn h x) v47 v48 v49 v50 := q_run_c (z_amc eq9)
  obtain ⟨lw2, o2⟩ := lw.told a b.ms hq (fun z => (cN_run eq9.sy (by rw [← eq9.1 1 (by decide)]; exact w9.b.2.1.2) z).sy) (fun z => ⟨cV_run V z, cB_run B z⟩)
  obtain ⟨r9, rfl⟩ := b.2.2.2.2.2.2
  exact j_use hF (back _ _ _ lw2 (by omega) (by omega)) (And.intro rfl (And.intro rfl (And.intro rfl (And.intro rfl (And.intro rfl trivial)))))
set_option maxHeartbeats 4000000 in
set_option maxRecDepth 20000 in
theorem j_turn7 {J : j_J} {L sc x m out P G R Q cn sn : Nat} {i : Int32} {h : j_H} (hJ : j_Cl k_law j_lF j_lP j_no J) (hF : j_Fg J) (hL : L ≤ 2560) (i0 : 0 ≤ i.toInt) (i1 : i.toInt + 5 ≤ (L : Int)) (hc : cn ≤ 500000) (hs : sn ≤ 6000000) (lw : j_LW L sc x m out P G R Q h) (back : ∀ (h' : j_H) (cn' sn' : Nat), j_LW L sc x m out P G R Q h' → cn' ≤ cn + 200 → sn' ≤ sn + 2000 → J 1133 [some (j_r (some sc)), some (j_r (some x)), some (j_r (some m)), some (j_r (some out)), some (j_i i), none, none] [] h' cn' sn') : J 448 [some (j_r (some sc)), some (j_r (some x)), some (j_r (some m)), some (j_r (some out)), some (j_i i), none, none] [] h cn sn := by
  have q1 : (i + Int32.ofInt (1)).toInt = i.toInt + 1 := j_inc1 (by omega)
  have q2 : (i + Int32.ofInt (2)).toInt = i.toInt + 2 := j_i2 i0 (by omega)
  have q3 : (i + Int32.ofInt (3)).toInt = i.toInt + 3 := j_i3 i0 (by omega)
  have q4 : (i + Int32.ofInt (4)).toInt = i.toInt + 4 := j_i4 i0 (by omega)
  refine hJ [1133] 400 _ _ _ _ _ _ ?_
  conv => whnf
  have lsv59 : j_ln h sc = L := lw.1.2.2.2.2.2.2
  refine ⟨_, _, rfl, lw.1.2.2.2.2.2.1, rfl, j_vp (by omega) (by rw [lsv59]; omega), fun v59 ev59 => ?_⟩
  conv => whnf
  refine ⟨rfl, _, _, _, _, _, _, c_Lw_withdrawz lw.1.1 lw.2.1 lw.1.2.2.1, ⟨Nat.le_of_ble_eq_true rfl, Nat.le_of_ble_eq_true rfl, by (try dsimp only); omega, by (try dsimp only); omega⟩, fun _ _ z => False.elim z, ?_⟩
  rintro u9 H60 a
  obtain rfl := a.1
  obtain ⟨l1, s1, m1⟩ := lw.1.lq a
  conv => whnf
  have lsv62 : j_ln H60 sc = L := l1.2.2.2.2.2.2
  refine ⟨_, _, rfl, l1.2.2.2.2.2.1, rfl, j_vp (by omega) (by rw [lsv62]; omega), fun v62 ev62 => ?_⟩
  obtain rfl : v59 = v62 := ev59.symm.trans ((s1 _).symm.trans ev62)
  conv => whnf
  obtain ⟨ρ9, w9⟩ := l1.2.1
  have eq9 : z_eq (z_d H60 m P G R Q) (z_c h x) := m1.tr lw.2.2.2
  have V := lw.2.2.1.1
  have B := lw.2.2.1.2
  refine ⟨w9.km, rfl, _, _, _, _, _, _, c_Mo_withdrawz w9, ⟨Nat.le_of_ble_eq_true rfl, Nat.le_of_ble_eq_true rfl, by (try dsimp only); omega, by (try dsimp only); omega⟩, fun _ _ z => False.elim z, ?_⟩
  rintro u9 H63 b
  have hq : q_withdraw (z_d H60 m P G R Q) v59 = q_withdraw (z_c h x) v59 := q_withdraw_c eq9
  obtain ⟨lw2, o2⟩ := lw.told a b.ms hq (fun _ => n_withdraw_c eq9) (fun z => ⟨z_V.withdraw V, cB_withdraw B⟩)
  obtain ⟨r9, rfl⟩ := b.2.2.2.2.2.2
  exact j_use hF (back _ _ _ lw2 (by omega) (by omega)) (And.intro rfl (And.intro rfl (And.intro rfl (And.intro rfl (And.intro rfl trivial)))))
set_option maxHeartbeats 4000000 in
set_option maxRecDepth 20000 in
theorem j_turn8 {J : j_J} {L sc x m out P G R Q cn sn : Nat} {i : Int32} {h : j_H} (hJ : j_Cl k_law j_lF j_lP j_no J) (hF : j_Fg J) (hL : L ≤ 2560) (i0 : 0 ≤ i.toInt) (i1 : i.toInt + 5 ≤ (L : Int)) (hc : cn ≤ 500000) (hs : sn ≤ 6000000) (lw : j_LW L sc x m out P G R Q h) (back : ∀ (h' : j_H) (cn' sn' : Nat), j_LW L sc x m out P G R Q h' → cn' ≤ cn + 200 → sn' ≤ sn + 2000 → J 1133 [some (j_r (some sc)), some (j_r (some x)), some (j_r (some m)), some (j_r (some out)), some (j_i i), none, none] [] h' cn' sn') : J 476 [some (j_r (some sc)), some (j_r (some x)), some (j_r (some m)), some (j_r (some out)), some (j_i i), none, none] [] h cn sn := by
  have q1 : (i + Int32.ofInt (1)).toInt = i.toInt + 1 := j_inc1 (by omega)
  have q2 : (i + Int32.ofInt (2)).toInt = i.toInt + 2 := j_i2 i0 (by omega)
  have q3 : (i + Int32.ofInt (3)).toInt = i.toInt + 3 := j_i3 i0 (by omega)
  have q4 : (i + Int32.ofInt (4)).toInt = i.toInt + 4 := j_i4 i0 (by omega)
  refine hJ [1133] 400 _ _ _ _ _ _ ?_
  conv => whnf
  have lsv65 : j_ln h sc = L := lw.1.2.2.2.2.2.2
  refine ⟨_, _, rfl, lw.1.2.2.2.2.2.1, rfl, j_vp (by omega) (by rw [lsv65]; omega), fun v65 ev65 => ?_⟩
  conv => whnf
  have lsv66 : j_ln h sc = L := lw.1.2.2.2.2.2.2
  refine ⟨_, _, rfl, lw.1.2.2.2.2.2.1, rfl, j_vp (by omega) (by rw [lsv66]; omega), fun v66 ev66 => ?_⟩
  conv => whnf
  refine ⟨rfl, _, _, _, _, _, _, c_Lw_swapz lw.1.1 lw.2.1 lw.1.2.2.1, ⟨Nat.le_of_ble_eq_true rfl, Nat.le_of_ble_eq_true rfl, by (try dsimp only); omega, by (try dsimp only); omega⟩, fun _ _ z => False.elim z, ?_⟩
  rintro u9 H67 ⟨A9, a⟩
  obtain rfl := a.1
  obtain ⟨l1, s1, m1⟩ := lw.1.lq a
  conv => whnf
  have lsv69 : j_ln H67 sc = L := l1.2.2.2.2.2.2
  refine ⟨_, _, rfl, l1.2.2.2.2.2.1, rfl, j_vp (by omega) (by rw [lsv69]; omega), fun v69 ev69 => ?_⟩
  obtain rfl : v65 = v69 := ev65.symm.trans ((s1 _).symm.trans ev69)
  conv => whnf
  have lsv70 : j_ln H67 sc = L := l1.2.2.2.2.2.2
  refine ⟨_, _, rfl, l1.2.2.2.2.2.1, rfl, j_vp (by omega) (by rw [lsv70]; omega), fun v70 ev70 => ?_⟩
  obtain rfl : v66 = v70 := ev66.symm.trans ((s1 _).symm.trans ev70)
  conv => whnf
  obtain ⟨ρ9, w9⟩ := l1.2.1
  have eq9 : z_eq (z_d H67 m P G R Q) (z_c h x) := m1.tr lw.2.2.2
  have V := lw.2.2.1.1
  have B := lw.2.2.1.2
  refine ⟨w9.km, rfl, _, _, _, _, _, _, c_Mo_swapz w9, ⟨Nat.le_of_ble_eq_true rfl, Nat.le_of_ble_eq_true rfl, by (try dsimp only); omega, by (try dsimp only); omega⟩, fun _ _ z => False.elim z, ?_⟩
  rintro u9 H71 ⟨b, r9, rfl⟩
  have hq : q_swap (z_d H67 m P G R Q) v65 v66 = q_swap (z_c h x) v65 v66 := q_swap_c eq9
  obtain ⟨lw2, o2⟩ := lw.told a b hq (fun z => (cN_swap eq9.sy z).sy) (fun z => ⟨z_V.swap V, cB_swap B⟩)
  exact j_use hF (back _ _ _ lw2 (by omega) (by omega)) (And.intro rfl (And.intro rfl (And.intro rfl (And.intro rfl (And.intro rfl trivial)))))
set_option maxHeartbeats 4000000 in
set_option maxRecDepth 20000 in
theorem j_turn9 {J : j_J} {L sc x m out P G R Q cn sn : Nat} {i : Int32} {h : j_H} (hJ : j_Cl k_law j_lF j_lP j_no J) (hF : j_Fg J) (hL : L ≤ 2560) (i0 : 0 ≤ i.toInt) (i1 : i.toInt + 5 ≤ (L : Int)) (hc : cn ≤ 500000) (hs : sn ≤ 6000000) (lw : j_LW L sc x m out P G R Q h) (back : ∀ (h' : j_H) (cn' sn' : Nat), j_LW L sc x m out P G R Q h' → cn' ≤ cn + 200 → sn' ≤ sn + 2000 → J 1133 [some (j_r (some sc)), some (j_r (some x)), some (j_r (some m)), some (j_r (some out)), some (j_i i), none, none] [] h' cn' sn') : J 516 [some (j_r (some sc)), some (j_r (some x)), some (j_r (some m)), some (j_r (some out)), some (j_i i), none, none] [] h cn sn := by
  have q1 : (i + Int32.ofInt (1)).toInt = i.toInt + 1 := j_inc1 (by omega)
  have q2 : (i + Int32.ofInt (2)).toInt = i.toInt + 2 := j_i2 i0 (by omega)
  have q3 : (i + Int32.ofInt (3)).toInt = i.toInt + 3 := j_i3 i0 (by omega)
  have q4 : (i + Int32.ofInt (4)).toInt = i.toInt + 4 := j_i4 i0 (by omega)
  refine hJ [1133] 400 _ _ _ _ _ _ ?_
  conv => whnf
  have lsv73 : j_ln h sc = L := lw.1.2.2.2.2.2.2
  refine ⟨_, _, rfl, lw.1.2.2.2.2.2.1, rfl, j_vp (by omega) (by rw [lsv73]; omega), fun v73 ev73 => ?_⟩
  conv => whnf
  have lsv74 : j_ln h sc = L := lw.1.2.2.2.2.2.2
  refine ⟨_, _, rfl, lw.1.2.2.2.2.2.1, rfl, j_vp (by omega) (by rw [lsv74]; omega), fun v74 ev74 => ?_⟩
  conv => whnf
  refine ⟨rfl, _, _, _, _, _, _, c_Lw_printz lw.1.1 lw.2.1 lw.1.2.2.1, ⟨Nat.le_of_ble_eq_true rfl, Nat.le_of_ble_eq_true rfl, by (try dsimp only); omega, by (try dsimp only); omega⟩, fun _ _ z => False.elim z, ?_⟩
  rintro u9 H75 a
  obtain rfl := a.1
  obtain ⟨l1, s1, m1⟩ := lw.1.lq a
  conv => whnf
  have lsv77 : j_ln H75 sc = L := l1.2.2.2.2.2.2
  refine ⟨_, _, rfl, l1.2.2.2.2.2.1, rfl, j_vp (by omega) (by rw [lsv77]; omega), fun v77 ev77 => ?_⟩
  obtain rfl : v73 = v77 := ev73.symm.trans ((s1 _).symm.trans ev77)
  conv => whnf
  have lsv78 : j_ln H75 sc = L := l1.2.2.2.2.2.2
  refine ⟨_, _, rfl, l1.2.2.2.2.2.1, rfl, j_vp (by omega) (by rw [lsv78]; omega), fun v78 ev78 => ?_⟩
  obtain rfl : v74 = v78 := ev74.symm.trans ((s1 _).symm.trans ev78)
  conv => whnf
  obtain ⟨ρ9, w9⟩ := l1.2.1
  have eq9 : z_eq (z_d H75 m P G R Q) (z_c h x) := m1.tr lw.2.2.2
  have V := lw.2.2.1.1
  have B := lw.2.2.1.2
  refine ⟨w9.km, rfl, _, _, _, _, _, _, c_Mo_printz w9, ⟨Nat.le_of_ble_eq_true rfl, Nat.le_of_ble_eq_true rfl, by (try dsimp only); omega, by (try dsimp only); omega⟩, fun _ _ z => False.elim z, ?_⟩
  rintro u9 H79 b
  have hq : q_print (z_d H75 m P G R Q) v73 v74 = q_print (z_c h x) v73 v74 := q_print_c eq9 w9.Pp
  obtain ⟨lw2, o2⟩ := lw.told a b.ms hq (fun z => (cN_print eq9.sy (by rw [← eq9.1 2 (by decide)]; exact w9.b.2.2.2) z).sy) (fun z => ⟨z_V.print V, cB_print B⟩)
  obtain ⟨r9, rfl⟩ := b.2.2.2.2.2.2
  exact j_use hF (back _ _ _ lw2 (by omega) (by omega)) (And.intro rfl (And.intro rfl (And.intro rfl (And.intro rfl (And.intro rfl trivial)))))
set_option maxHeartbeats 4000000 in
set_option maxRecDepth 20000 in
theorem j_turn10 {J : j_J} {L sc x m out P G R Q cn sn : Nat} {i : Int32} {h : j_H} (hJ : j_Cl k_law j_lF j_lP j_no J) (hF : j_Fg J) (hL : L ≤ 2560) (i0 : 0 ≤ i.toInt) (i1 : i.toInt + 5 ≤ (L : Int)) (hc : cn ≤ 500000) (hs : sn ≤ 6000000) (lw : j_LW L sc x m out P G R Q h) (back : ∀ (h' : j_H) (cn' sn' : Nat), j_LW L sc x m out P G R Q h' → cn' ≤ cn + 200 → sn' ≤ sn + 2000 → J 1133 [some (j_r (some sc)), some (j_r (some x)), some (j_r (some m)), some (j_r (some out)), some (j_i i), none, none] [] h' cn' sn') : J 556 [some (j_r (some sc)), some (j_r (some x)), some (j_r (some m)), some (j_r (some out)), some (j_i i), none, none] [] h cn sn := by
  have q1 : (i + Int32.ofInt (1)).toInt = i.toInt + 1 := j_inc1 (by omega)
  have q2 : (i + Int32.ofInt (2)).toInt = i.toInt + 2 := j_i2 i0 (by omega)
  have q3 : (i + Int32.ofInt (3)).toInt = i.toInt + 3 := j_i3 i0 (by omega)
  have q4 : (i + Int32.ofInt (4)).toInt = i.toInt + 4 := j_i4 i0 (by omega)
  refine hJ [1133] 400 _ _ _ _ _ _ ?_
  conv => whnf
  have lsv81 : j_ln h sc = L := lw.1.2.2.2.2.2.2
  refine ⟨_, _, rfl, lw.1.2.2.2.2.2.1, rfl, j_vp (by omega) (by rw [lsv81]; omega), fun v81 ev81 => ?_⟩
  conv => whnf
  have lsv82 : j_ln h sc = L := lw.1.2.2.2.2.2.2
  refine ⟨_, _, rfl, lw.1.2.2.2.2.2.1, rfl, j_vp (by omega) (by rw [lsv82]; omega), fun v82 ev82 => ?_⟩
  conv => whnf
  refine ⟨rfl, _, _, _, _, _, _, c_Lw_ofGrainz lw.1.1 lw.2.1 lw.1.2.2.1, ⟨Nat.le_of_ble_eq_true rfl, Nat.le_of_ble_eq_true rfl, by (try dsimp only); omega, by (try dsimp only); omega⟩, fun _ _ z => False.elim z, ?_⟩
  rintro v9 H83 ⟨⟨r85, rfl⟩, fo⟩
  have l84 := (lw.fo fo).1
  conv => whnf
  have lsv86 : j_ln H83 sc = L := l84.1.2.2.2.2.2.2
  refine ⟨_, _, rfl, l84.1.2.2.2.2.2.1, rfl, j_vp (by omega) (by rw [lsv86]; omega), fun v86 ev86 => ?_⟩
  conv => whnf
  have lsv87 : j_ln H83 sc = L := l84.1.2.2.2.2.2.2
  refine ⟨_, _, rfl, l84.1.2.2.2.2.2.1, rfl, j_vp (by omega) (by rw [lsv87]; omega), fun v87 ev87 => ?_⟩
  conv => whnf
  obtain ⟨ρ91, w90⟩ := l84.1.2.1
  refine ⟨w90.km, rfl, _, _, _, _, _, _, c_Mo_ofGrain w90, ⟨Nat.le_of_ble_eq_true rfl, Nat.le_of_ble_eq_true rfl, by (try dsimp only); omega, by (try dsimp only); omega⟩, fun _ _ z => False.elim z, ?_⟩
  rintro v9 H88 ⟨st9, r9, rfl⟩
  have l89 := l84.mf w90 st9
  exact j_use hF (back _ _ _ l89 (by omega) (by omega)) (And.intro rfl (And.intro rfl (And.intro rfl (And.intro rfl (And.intro rfl trivial)))))
set_option maxHeartbeats 4000000 in
set_option maxRecDepth 20000 in
theorem j_turn11 {J : j_J} {L sc x m out P G R Q cn sn : Nat} {i : Int32} {h : j_H} (hJ : j_Cl k_law j_lF j_lP j_no J) (hF : j_Fg J) (hL : L ≤ 2560) (i0 : 0 ≤ i.toInt) (i1 : i.toInt + 5 ≤ (L : Int)) (hc : cn ≤ 500000) (hs : sn ≤ 6000000) (lw : j_LW L sc x m out P G R Q h) (back : ∀ (h' : j_H) (cn' sn' : Nat), j_LW L sc x m out P G R Q h' → cn' ≤ cn + 200 → sn' ≤ sn + 2000 → J 1133 [some (j_r (some sc)), some (j_r (some x)), some (j_r (some m)), some (j_r (some out)), some (j_i i), none, none] [] h' cn' sn') : J 596 [some (j_r (some sc)), some (j_r (some x)), some (j_r (some m)), some (j_r (some out)), some (j_i i), none, none] [] h cn sn := by
  have q1 : (i + Int32.ofInt (1)).toInt = i.toInt + 1 := j_inc1 (by omega)
  have q2 : (i + Int32.ofInt (2)).toInt = i.toInt + 2 := j_i2 i0 (by omega)
  have q3 : (i + Int32.ofInt (3)).toInt = i.toInt + 3 := j_i3 i0 (by omega)
  have q4 : (i + Int32.ofInt (4)).toInt = i.toInt + 4 := j_i4 i0 (by omega)
  refine hJ [1133] 400 _ _ _ _ _ _ ?_
  conv => whnf
  have lsv92 : j_ln h sc = L := lw.1.2.2.2.2.2.2
  refine ⟨_, _, rfl, lw.1.2.2.2.2.2.1, rfl, j_vp (by omega) (by rw [lsv92]; omega), fun v92 ev92 => ?_⟩
  conv => whnf
  have lsv93 : j_ln h sc = L := lw.1.2.2.2.2.2.2
  refine ⟨_, _, rfl, lw.1.2.2.2.2.2.1, rfl, j_vp (by omega) (by rw [lsv93]; omega), fun v93 ev93 => ?_⟩
  conv => whnf
  refine ⟨rfl, _, _, _, _, _, _, c_Lw_ofRunz lw.1.1 lw.2.1 lw.1.2.2.1, ⟨Nat.le_of_ble_eq_true rfl, Nat.le_of_ble_eq_true rfl, by (try dsimp only); omega, by (try dsimp only); omega⟩, fun _ _ z => False.elim z, ?_⟩
  rintro v9 H94 ⟨⟨r96, rfl⟩, fo⟩
  have l95 := (lw.fo fo).1
  conv => whnf
  have lsv97 : j_ln H94 sc = L := l95.1.2.2.2.2.2.2
  refine ⟨_, _, rfl, l95.1.2.2.2.2.2.1, rfl, j_vp (by omega) (by rw [lsv97]; omega), fun v97 ev97 => ?_⟩
  conv => whnf
  have lsv98 : j_ln H94 sc = L := l95.1.2.2.2.2.2.2
  refine ⟨_, _, rfl, l95.1.2.2.2.2.2.1, rfl, j_vp (by omega) (by rw [lsv98]; omega), fun v98 ev98 => ?_⟩
  conv => whnf
  obtain ⟨ρ102, w101⟩ := l95.1.2.1
  refine ⟨w101.km, rfl, _, _, _, _, _, _, c_Mo_ofRun w101, ⟨Nat.le_of_ble_eq_true rfl, Nat.le_of_ble_eq_true rfl, by (try dsimp only); omega, by (try dsimp only); omega⟩, fun _ _ z => False.elim z, ?_⟩
  rintro v9 H99 ⟨st9, r9, rfl⟩
  have l100 := l95.mf w101 st9
  exact j_use hF (back _ _ _ l100 (by omega) (by omega)) (And.intro rfl (And.intro rfl (And.intro rfl (And.intro rfl (And.intro rfl trivial)))))
set_option maxHeartbeats 4000000 in
set_option maxRecDepth 20000 in
theorem j_turn12 {J : j_J} {L sc x m out P G R Q cn sn : Nat} {i : Int32} {h : j_H} (hJ : j_Cl k_law j_lF j_lP j_no J) (hF : j_Fg J) (hL : L ≤ 2560) (i0 : 0 ≤ i.toInt) (i1 : i.toInt + 5 ≤ (L : Int)) (hc : cn ≤ 500000) (hs : sn ≤ 6000000) (lw : j_LW L sc x m out P G R Q h) (back : ∀ (h' : j_H) (cn' sn' : Nat), j_LW L sc x m out P G R Q h' → cn' ≤ cn + 200 → sn' ≤ sn + 2000 → J 1133 [some (j_r (some sc)), some (j_r (some x)), some (j_r (some m)), some (j_r (some out)), some (j_i i), none, none] [] h' cn' sn') : J 636 [some (j_r (some sc)), some (j_r (some x)), some (j_r (some m)), some (j_r (some out)), some (j_i i), none, none] [] h cn sn := by
  have q1 : (i + Int32.ofInt (1)).toInt = i.toInt + 1 := j_inc1 (by omega)
  have q2 : (i + Int32.ofInt (2)).toInt = i.toInt + 2 := j_i2 i0 (by omega)
  have q3 : (i + Int32.ofInt (3)).toInt = i.toInt + 3 := j_i3 i0 (by omega)
  have q4 : (i + Int32.ofInt (4)).toInt = i.toInt + 4 := j_i4 i0 (by omega)
  refine hJ [1133] 400 _ _ _ _ _ _ ?_
  conv => whnf
  have lsv103 : j_ln h sc = L := lw.1.2.2.2.2.2.2
  refine ⟨_, _, rfl, lw.1.2.2.2.2.2.1, rfl, j_vp (by omega) (by rw [lsv103]; omega), fun v103 ev103 => ?_⟩
  conv => whnf
  have lsv104 : j_ln h sc = L := lw.1.2.2.2.2.2.2
  refine ⟨_, _, rfl, lw.1.2.2.2.2.2.1, rfl, j_vp (by omega) (by rw [lsv104]; omega), fun v104 ev104 => ?_⟩
  conv => whnf
  have lsv105 : j_ln h sc = L := lw.1.2.2.2.2.2.2
  refine ⟨_, _, rfl, lw.1.2.2.2.2.2.1, rfl, j_vp (by omega) (by rw [lsv105]; omega), fun v105 ev105 => ?_⟩
  conv => whnf
  refine ⟨rfl, _, _, _, _, _, _, c_Lw_spanz lw.1.1 lw.2.1 lw.1.2.2.1, ⟨Nat.le_of_ble_eq_true rfl, Nat.le_of_ble_eq_true rfl, by (try dsimp only); omega, by (try dsimp only); omega⟩, fun _ _ z => False.elim z, ?_⟩
  rintro v9 H106 ⟨⟨r108, rfl⟩, fo⟩
  have l107 := (lw.fo fo).1
  conv => whnf
  have lsv109 : j_ln H106 sc = L := l107.1.2.2.2.2.2.2
  refine ⟨_, _, rfl, l107.1.2.2.2.2.2.1, rfl, j_vp (by omega) (by rw [lsv109]; omega), fun v109 ev109 => ?_⟩
  conv => whnf
  have lsv110 : j_ln H106 sc = L := l107.1.2.2.2.2.2.2
  refine ⟨_, _, rfl, l107.1.2.2.2.2.2.1, rfl, j_vp (by omega) (by rw [lsv110]; omega), fun v110 ev110 => ?_⟩
  conv => whnf
  have lsv111 : j_ln H106 sc = L := l107.1.2.2.2.2.2.2
  refine ⟨_, _, rfl, l107.1.2.2.2.2.2.1, rfl, j_vp (by omega) (by rw [lsv111]; omega), fun v111 ev111 => ?_⟩
  conv => whnf
  obtain ⟨ρ115, w114⟩ := l107.1.2.1
  refine ⟨w114.km, rfl, _, _, _, _, _, _, c_Mo_span w114, ⟨Nat.le_of_ble_eq_true rfl, Nat.le_of_ble_eq_true rfl, by (try dsimp only); omega, by (try dsimp only); omega⟩, fun _ _ z => False.elim z, ?_⟩
  rintro v9 H112 ⟨st9, r9, rfl⟩
  have l113 := l107.mf w114 st9
  exact j_use hF (back _ _ _ l113 (by omega) (by omega)) (And.intro rfl (And.intro rfl (And.intro rfl (And.intro rfl (And.intro rfl trivial)))))
set_option maxHeartbeats 4000000 in
set_option maxRecDepth 20000 in
theorem j_turn13 {J : j_J} {L sc x m out P G R Q cn sn : Nat} {i : Int32} {h : j_H} (hJ : j_Cl k_law j_lF j_lP j_no J) (hF : j_Fg J) (hL : L ≤ 2560) (i0 : 0 ≤ i.toInt) (i1 : i.toInt + 5 ≤ (L : Int)) (hc : cn ≤ 500000) (hs : sn ≤ 6000000) (lw : j_LW L sc x m out P G R Q h) (back : ∀ (h' : j_H) (cn' sn' : Nat), j_LW L sc x m out P G R Q h' → cn' ≤ cn + 200 → sn' ≤ sn + 2000 → J 1133 [some (j_r (some sc)), some (j_r (some x)), some (j_r (some m)), some (j_r (some out)), some (j_i i), none, none] [] h' cn' sn') : J 688 [some (j_r (some sc)), some (j_r (some x)), some (j_r (some m)), some (j_r (some out)), some (j_i i), none, none] [] h cn sn := by
  have q1 : (i + Int32.ofInt (1)).toInt = i.toInt + 1 := j_inc1 (by omega)
  have q2 : (i + Int32.ofInt (2)).toInt = i.toInt + 2 := j_i2 i0 (by omega)
  have q3 : (i + Int32.ofInt (3)).toInt = i.toInt + 3 := j_i3 i0 (by omega)
  have q4 : (i + Int32.ofInt (4)).toInt = i.toInt + 4 := j_i4 i0 (by omega)
  refine hJ [1133] 400 _ _ _ _ _ _ ?_
  conv => whnf
  have lsv116 : j_ln h sc = L := lw.1.2.2.2.2.2.2
  refine ⟨_, _, rfl, lw.1.2.2.2.2.2.1, rfl, j_vp (by omega) (by rw [lsv116]; omega), fun v116 ev116 => ?_⟩
  conv => whnf
  have lsv117 : j_ln h sc = L := lw.1.2.2.2.2.2.2
  refine ⟨_, _, rfl, lw.1.2.2.2.2.2.1, rfl, j_vp (by omega) (by rw [lsv117]; omega), fun v117 ev117 => ?_⟩
  conv => whnf
  refine ⟨fun c118 => ?_, fun c118 => ?_⟩
  · skip
    conv => whnf
    refine ⟨rfl, _, _, _, _, _, _, c_Lw_narrowedz lw.1.1 lw.2.1 lw.1.2.2.1, ⟨Nat.le_of_ble_eq_true rfl, Nat.le_of_ble_eq_true rfl, by (try dsimp only); omega, by (try dsimp only); omega⟩, fun _ _ z => False.elim z, ?_⟩
    rintro v9 H119 ⟨⟨r121, rfl⟩, fo⟩
    have l120 := (lw.fo fo).1
    conv => whnf
    have lsv122 : j_ln H119 sc = L := l120.1.2.2.2.2.2.2
    refine ⟨_, _, rfl, l120.1.2.2.2.2.2.1, rfl, j_vp (by omega) (by rw [lsv122]; omega), fun v122 ev122 => ?_⟩
    conv => whnf
    have lsv123 : j_ln H119 sc = L := l120.1.2.2.2.2.2.2
    refine ⟨_, _, rfl, l120.1.2.2.2.2.2.1, rfl, j_vp (by omega) (by rw [lsv123]; omega), fun v123 ev123 => ?_⟩
    conv => whnf
    refine ⟨fun c124 => ?_, fun c124 => ?_⟩
    · skip
      conv => whnf
      obtain ⟨ρ128, w127⟩ := l120.1.2.1
      refine ⟨w127.km, rfl, _, _, _, _, _, _, c_Mo_narrowed w127, ⟨Nat.le_of_ble_eq_true rfl, Nat.le_of_ble_eq_true rfl, by (try dsimp only); omega, by (try dsimp only); omega⟩, fun _ _ z => False.elim z, ?_⟩
      rintro v9 H125 ⟨st9, r9, rfl⟩
      have l126 := l120.mf w127 st9
      exact j_use hF (back _ _ _ l126 (by omega) (by omega)) (And.intro rfl (And.intro rfl (And.intro rfl (And.intro rfl (And.intro rfl trivial)))))
    · skip
      conv => whnf
      obtain ⟨ρ132, w131⟩ := l120.1.2.1
      refine ⟨w131.km, rfl, _, _, _, _, _, _, c_Mo_narrowed w131, ⟨Nat.le_of_ble_eq_true rfl, Nat.le_of_ble_eq_true rfl, by (try dsimp only); omega, by (try dsimp only); omega⟩, fun _ _ z => False.elim z, ?_⟩
      rintro v9 H129 ⟨st9, r9, rfl⟩
      have l130 := l120.mf w131 st9
      exact j_use hF (back _ _ _ l130 (by omega) (by omega)) (And.intro rfl (And.intro rfl (And.intro rfl (And.intro rfl (And.intro rfl trivial)))))
  · skip
    conv => whnf
    refine ⟨rfl, _, _, _, _, _, _, c_Lw_narrowedz lw.1.1 lw.2.1 lw.1.2.2.1, ⟨Nat.le_of_ble_eq_true rfl, Nat.le_of_ble_eq_true rfl, by (try dsimp only); omega, by (try dsimp only); omega⟩, fun _ _ z => False.elim z, ?_⟩
    rintro v9 H133 ⟨⟨r135, rfl⟩, fo⟩
    have l134 := (lw.fo fo).1
    conv => whnf
    have lsv136 : j_ln H133 sc = L := l134.1.2.2.2.2.2.2
    refine ⟨_, _, rfl, l134.1.2.2.2.2.2.1, rfl, j_vp (by omega) (by rw [lsv136]; omega), fun v136 ev136 => ?_⟩
    conv => whnf
    have lsv137 : j_ln H133 sc = L := l134.1.2.2.2.2.2.2
    refine ⟨_, _, rfl, l134.1.2.2.2.2.2.1, rfl, j_vp (by omega) (by rw [lsv137]; omega), fun v137 ev137 => ?_⟩
    conv => whnf
    refine ⟨fun c138 => ?_, fun c138 => ?_⟩
    · skip
      conv => whnf
      obtain ⟨ρ142, w141⟩ := l134.1.2.1
      refine ⟨w141.km, rfl, _, _, _, _, _, _, c_Mo_narrowed w141, ⟨Nat.le_of_ble_eq_true rfl, Nat.le_of_ble_eq_true rfl, by (try dsimp only); omega, by (try dsimp only); omega⟩, fun _ _ z => False.elim z, ?_⟩
      rintro v9 H139 ⟨st9, r9, rfl⟩
      have l140 := l134.mf w141 st9
      exact j_use hF (back _ _ _ l140 (by omega) (by omega)) (And.intro rfl (And.intro rfl (And.intro rfl (And.intro rfl (And.intro rfl trivial)))))
    · skip
      conv => whnf
      obtain ⟨ρ146, w145⟩ := l134.1.2.1
      refine ⟨w145.km, rfl, _, _, _, _, _, _, c_Mo_narrowed w145, ⟨Nat.le_of_ble_eq_true rfl, Nat.le_of_ble_eq_true rfl, by (try dsimp only); omega, by (try dsimp only); omega⟩, fun _ _ z => False.elim z, ?_⟩
      rintro v9 H143 ⟨st9, r9, rfl⟩
      have l144 := l134.mf w145 st9
      exact j_use hF (back _ _ _ l144 (by omega) (by omega)) (And.intro rfl (And.intro rfl (And.intro rfl (And.intro rfl (And.intro rfl trivial)))))
set_option maxHeartbeats 4000000 in
set_option maxRecDepth 20000 in
theorem j_turn14 {J : j_J} {L sc x m out P G R Q cn sn : Nat} {i : Int32} {h : j_H} (hJ : j_Cl k_law j_lF j_lP j_no J) (hF : j_Fg J) (hL : L ≤ 2560) (i0 : 0 ≤ i.toInt) (i1 : i.toInt + 5 ≤ (L : Int)) (hc : cn ≤ 500000) (hs : sn ≤ 6000000) (lw : j_LW L sc x m out P G R Q h) (back : ∀ (h' : j_H) (cn' sn' : Nat), j_LW L sc x m out P G R Q h' → cn' ≤ cn + 200 → sn' ≤ sn + 2000 → J 1133 [some (j_r (some sc)), some (j_r (some x)), some (j_r (some m)), some (j_r (some out)), some (j_i i), none, none] [] h' cn' sn') : J 744 [some (j_r (some sc)), some (j_r (some x)), some (j_r (some m)), some (j_r (some out)), some (j_i i), none, none] [] h cn sn := by
  have q1 : (i + Int32.ofInt (1)).toInt = i.toInt + 1 := j_inc1 (by omega)
  have q2 : (i + Int32.ofInt (2)).toInt = i.toInt + 2 := j_i2 i0 (by omega)
  have q3 : (i + Int32.ofInt (3)).toInt = i.toInt + 3 := j_i3 i0 (by omega)
  have q4 : (i + Int32.ofInt (4)).toInt = i.toInt + 4 := j_i4 i0 (by omega)
  refine hJ [1133] 400 _ _ _ _ _ _ ?_
  conv => whnf
  have lsv147 : j_ln h sc = L := lw.1.2.2.2.2.2.2
  refine ⟨_, _, rfl, lw.1.2.2.2.2.2.1, rfl, j_vp (by omega) (by rw [lsv147]; omega), fun v147 ev147 => ?_⟩
  conv => whnf
  have lsv148 : j_ln h sc = L := lw.1.2.2.2.2.2.2
  refine ⟨_, _, rfl, lw.1.2.2.2.2.2.1, rfl, j_vp (by omega) (by rw [lsv148]; omega), fun v148 ev148 => ?_⟩
  conv => whnf
  refine ⟨rfl, _, _, _, _, _, _, c_Lw_ofPrintz lw.1.1 lw.2.1 lw.1.2.2.1, ⟨Nat.le_of_ble_eq_true rfl, Nat.le_of_ble_eq_true rfl, by (try dsimp only); omega, by (try dsimp only); omega⟩, fun _ _ z => False.elim z, ?_⟩
  rintro v9 H149 ⟨⟨r151, rfl⟩, fo⟩
  have l150 := (lw.fo fo).1
  conv => whnf
  have lsv152 : j_ln H149 sc = L := l150.1.2.2.2.2.2.2
  refine ⟨_, _, rfl, l150.1.2.2.2.2.2.1, rfl, j_vp (by omega) (by rw [lsv152]; omega), fun v152 ev152 => ?_⟩
  conv => whnf
  have lsv153 : j_ln H149 sc = L := l150.1.2.2.2.2.2.2
  refine ⟨_, _, rfl, l150.1.2.2.2.2.2.1, rfl, j_vp (by omega) (by rw [lsv153]; omega), fun v153 ev153 => ?_⟩
  conv => whnf
  obtain ⟨ρ157, w156⟩ := l150.1.2.1
  refine ⟨w156.km, rfl, _, _, _, _, _, _, c_Mo_ofPrint w156, ⟨Nat.le_of_ble_eq_true rfl, Nat.le_of_ble_eq_true rfl, by (try dsimp only); omega, by (try dsimp only); omega⟩, fun _ _ z => False.elim z, ?_⟩
  rintro v9 H154 ⟨st9, r9, rfl⟩
  have l155 := l150.mf w156 st9
  exact j_use hF (back _ _ _ l155 (by omega) (by omega)) (And.intro rfl (And.intro rfl (And.intro rfl (And.intro rfl (And.intro rfl trivial)))))
set_option maxHeartbeats 4000000 in
set_option maxRecDepth 20000 in
theorem j_turn15 {J : j_J} {L sc x m out P G R Q cn sn : Nat} {i : Int32} {h : j_H} (hJ : j_Cl k_law j_lF j_lP j_no J) (hF : j_Fg J) (hL : L ≤ 2560) (i0 : 0 ≤ i.toInt) (i1 : i.toInt + 5 ≤ (L : Int)) (hc : cn ≤ 500000) (hs : sn ≤ 6000000) (lw : j_LW L sc x m out P G R Q h) (back : ∀ (h' : j_H) (cn' sn' : Nat), j_LW L sc x m out P G R Q h' → cn' ≤ cn + 200 → sn' ≤ sn + 2000 → J 1133 [some (j_r (some sc)), some (j_r (some x)), some (j_r (some m)), some (j_r (some out)), some (j_i i), none, none] [] h' cn' sn') : J 784 [some (j_r (some sc)), some (j_r (some x)), some (j_r (some m)), some (j_r (some out)), some (j_i i), none, none] [] h cn sn := by
  have q1 : (i + Int32.ofInt (1)).toInt = i.toInt + 1 := j_inc1 (by omega)
  have q2 : (i + Int32.ofInt (2)).toInt = i.toInt + 2 := j_i2 i0 (by omega)
  have q3 : (i + Int32.ofInt (3)).toInt = i.toInt + 3 := j_i3 i0 (by omega)
  have q4 : (i + Int32.ofInt (4)).toInt = i.toInt + 4 := j_i4 i0 (by omega)
  refine hJ [1133] 400 _ _ _ _ _ _ ?_
  conv => whnf
  have lsv158 : j_ln h sc = L := lw.1.2.2.2.2.2.2
  refine ⟨_, _, rfl, lw.1.2.2.2.2.2.1, rfl, j_vp (by omega) (by rw [lsv158]; omega), fun v158 ev158 => ?_⟩
  conv => whnf
  refine ⟨rfl, _, _, _, _, _, _, c_Lw_labz lw.1.1 lw.2.1 lw.1.2.2.1, ⟨Nat.le_of_ble_eq_true rfl, Nat.le_of_ble_eq_true rfl, by (try dsimp only); omega, by (try dsimp only); omega⟩, fun _ _ z => False.elim z, ?_⟩
  rintro v9 H159 ⟨⟨r161, rfl⟩, fo⟩
  have l160 := (lw.fo fo).1
  conv => whnf
  have lsv162 : j_ln H159 sc = L := l160.1.2.2.2.2.2.2
  refine ⟨_, _, rfl, l160.1.2.2.2.2.2.1, rfl, j_vp (by omega) (by rw [lsv162]; omega), fun v162 ev162 => ?_⟩
  conv => whnf
  obtain ⟨ρ166, w165⟩ := l160.1.2.1
  refine ⟨w165.km, rfl, _, _, _, _, _, _, c_Mo_lab w165, ⟨Nat.le_of_ble_eq_true rfl, Nat.le_of_ble_eq_true rfl, by (try dsimp only); omega, by (try dsimp only); omega⟩, fun _ _ z => False.elim z, ?_⟩
  rintro v9 H163 ⟨st9, r9, rfl⟩
  have l164 := l160.mf w165 st9
  exact j_use hF (back _ _ _ l164 (by omega) (by omega)) (And.intro rfl (And.intro rfl (And.intro rfl (And.intro rfl (And.intro rfl trivial)))))
set_option maxHeartbeats 4000000 in
set_option maxRecDepth 20000 in
theorem j_turn16 {J : j_J} {L sc x m out P G R Q cn sn : Nat} {i : Int32} {h : j_H} (hJ : j_Cl k_law j_lF j_lP j_no J) (hF : j_Fg J) (hL : L ≤ 2560) (i0 : 0 ≤ i.toInt) (i1 : i.toInt + 5 ≤ (L : Int)) (hc : cn ≤ 500000) (hs : sn ≤ 6000000) (lw : j_LW L sc x m out P G R Q h) (back : ∀ (h' : j_H) (cn' sn' : Nat), j_LW L sc x m out P G R Q h' → cn' ≤ cn + 200 → sn' ≤ sn + 2000 → J 1133 [some (j_r (some sc)), some (j_r (some x)), some (j_r (some m)), some (j_r (some out)), some (j_i i), none, none] [] h' cn' sn') : J 812 [some (j_r (some sc)), some (j_r (some x)), some (j_r (some m)), some (j_r (some out)), some (j_i i), none, none] [] h cn sn := by
  have q1 : (i + Int32.ofInt (1)).toInt = i.toInt + 1 := j_inc1 (by omega)
  have q2 : (i + Int32.ofInt (2)).toInt = i.toInt + 2 := j_i2 i0 (by omega)
  have q3 : (i + Int32.ofInt (3)).toInt = i.toInt + 3 := j_i3 i0 (by omega)
  have q4 : (i + Int32.ofInt (4)).toInt = i.toInt + 4 := j_i4 i0 (by omega)
  refine hJ [1133] 400 _ _ _ _ _ _ ?_
  conv => whnf
  have lsv167 : j_ln h sc = L := lw.1.2.2.2.2.2.2
  refine ⟨_, _, rfl, lw.1.2.2.2.2.2.1, rfl, j_vp (by omega) (by rw [lsv167]; omega), fun v167 ev167 => ?_⟩
  conv => whnf
  refine ⟨rfl, _, _, _, _, _, _, c_Lw_textz lw.1.1 lw.2.1 lw.1.2.2.2.1 lw.1.2.2.1, ⟨Nat.le_of_ble_eq_true rfl, Nat.le_of_ble_eq_true rfl, by (try dsimp only); omega, by (try dsimp only); omega⟩, fun _ _ z => False.elim z, ?_⟩
  rintro v9 H168 ⟨⟨r170, rfl⟩, fo⟩
  have l169 := (lw.fo fo).1
  conv => whnf
  have lsv171 : j_ln H168 sc = L := l169.1.2.2.2.2.2.2
  refine ⟨_, _, rfl, l169.1.2.2.2.2.2.1, rfl, j_vp (by omega) (by rw [lsv171]; omega), fun v171 ev171 => ?_⟩
  conv => whnf
  obtain ⟨ρ175, w174⟩ := l169.1.2.1
  refine ⟨w174.km, rfl, _, _, _, _, _, _, c_Mo_text w174 l169.1.2.2.2.1, ⟨Nat.le_of_ble_eq_true rfl, Nat.le_of_ble_eq_true rfl, by (try dsimp only); omega, by (try dsimp only); omega⟩, fun _ _ z => False.elim z, ?_⟩
  rintro v9 H172 ⟨st9, s9, rfl⟩
  have l173 := l169.mf w174 st9
  exact j_use hF (back _ _ _ l173 (by omega) (by omega)) (And.intro rfl (And.intro rfl (And.intro rfl (And.intro rfl (And.intro rfl trivial)))))
set_option maxHeartbeats 4000000 in
set_option maxRecDepth 20000 in
theorem j_turn17 {J : j_J} {L sc x m out P G R Q cn sn : Nat} {i : Int32} {h : j_H} (hJ : j_Cl k_law j_lF j_lP j_no J) (hF : j_Fg J) (hL : L ≤ 2560) (i0 : 0 ≤ i.toInt) (i1 : i.toInt + 5 ≤ (L : Int)) (hc : cn ≤ 500000) (hs : sn ≤ 6000000) (lw : j_LW L sc x m out P G R Q h) (back : ∀ (h' : j_H) (cn' sn' : Nat), j_LW L sc x m out P G R Q h' → cn' ≤ cn + 200 → sn' ≤ sn + 2000 → J 1133 [some (j_r (some sc)), some (j_r (some x)), some (j_r (some m)), some (j_r (some out)), some (j_i i), none, none] [] h' cn' sn') : J 840 [some (j_r (some sc)), some (j_r (some x)), some (j_r (some m)), some (j_r (some out)), some (j_i i), none, none] [] h cn sn := by
  have q1 : (i + Int32.ofInt (1)).toInt = i.toInt + 1 := j_inc1 (by omega)
  have q2 : (i + Int32.ofInt (2)).toInt = i.toInt + 2 := j_i2 i0 (by omega)
  have q3 : (i + Int32.ofInt (3)).toInt = i.toInt + 3 := j_i3 i0 (by omega)
  have q4 : (i + Int32.ofInt (4)).toInt = i.toInt + 4 := j_i4 i0 (by omega)
  refine hJ [1133] 400 _ _ _ _ _ _ ?_
  conv => whnf
  have lsv176 : j_ln h sc = L := lw.1.2.2.2.2.2.2
  refine ⟨_, _, rfl, lw.1.2.2.2.2.2.1, rfl, j_vp (by omega) (by rw [lsv176]; omega), fun v176 ev176 => ?_⟩
  conv => whnf
  have lsv177 : j_ln h sc = L := lw.1.2.2.2.2.2.2
  refine ⟨_, _, rfl, lw.1.2.2.2.2.2.1, rfl, j_vp (by omega) (by rw [lsv177]; omega), fun v177 ev177 => ?_⟩
  conv => whnf
  have lsv178 : j_ln h sc = L := lw.1.2.2.2.2.2.2
  refine ⟨_, _, rfl, lw.1.2.2.2.2.2.1, rfl, j_vp (by omega) (by rw [lsv178]; omega), fun v178 ev178 => ?_⟩
  conv => whnf
  refine ⟨rfl, _, _, _, _, _, _, c_Lw_leftz lw.1.1 lw.2.1 lw.1.2.2.1, ⟨Nat.le_of_ble_eq_true rfl, Nat.le_of_ble_eq_true rfl, by (try dsimp only); omega, by (try dsimp only); omega⟩, fun _ _ z => False.elim z, ?_⟩
  rintro v9 H179 ⟨⟨r181, rfl⟩, fo⟩
  have l180 := (lw.fo fo).1
  conv => whnf
  have lsv182 : j_ln H179 sc = L := l180.1.2.2.2.2.2.2
  refine ⟨_, _, rfl, l180.1.2.2.2.2.2.1, rfl, j_vp (by omega) (by rw [lsv182]; omega), fun v182 ev182 => ?_⟩
  conv => whnf
  have lsv183 : j_ln H179 sc = L := l180.1.2.2.2.2.2.2
  refine ⟨_, _, rfl, l180.1.2.2.2.2.2.1, rfl, j_vp (by omega) (by rw [lsv183]; omega), fun v183 ev183 => ?_⟩
  conv => whnf
  have lsv184 : j_ln H179 sc = L := l180.1.2.2.2.2.2.2
  refine ⟨_, _, rfl, l180.1.2.2.2.2.2.1, rfl, j_vp (by omega) (by rw [lsv184]; omega), fun v184 ev184 => ?_⟩
  conv => whnf
  obtain ⟨ρ188, w187⟩ := l180.1.2.1
  refine ⟨w187.km, rfl, _, _, _, _, _, _, c_Mo_left w187, ⟨Nat.le_of_ble_eq_true rfl, Nat.le_of_ble_eq_true rfl, by (try dsimp only); omega, by (try dsimp only); omega⟩, fun _ _ z => False.elim z, ?_⟩
  rintro v9 H185 ⟨st9, r9, rfl⟩
  have l186 := l180.mf w187 st9
  exact j_use hF (back _ _ _ l186 (by omega) (by omega)) (And.intro rfl (And.intro rfl (And.intro rfl (And.intro rfl (And.intro rfl trivial)))))
set_option maxHeartbeats 4000000 in
set_option maxRecDepth 20000 in
theorem j_turn18 {J : j_J} {L sc x m out P G R Q cn sn : Nat} {i : Int32} {h : j_H} (hJ : j_Cl k_law j_lF j_lP j_no J) (hF : j_Fg J) (hL : L ≤ 2560) (i0 : 0 ≤ i.toInt) (i1 : i.toInt + 5 ≤ (L : Int)) (hc : cn ≤ 500000) (hs : sn ≤ 6000000) (lw : j_LW L sc x m out P G R Q h) (back : ∀ (h' : j_H) (cn' sn' : Nat), j_LW L sc x m out P G R Q h' → cn' ≤ cn + 200 → sn' ≤ sn + 2000 → J 1133 [some (j_r (some sc)), some (j_r (some x)), some (j_r (some m)), some (j_r (some out)), some (j_i i), none, none] [] h' cn' sn') : J 892 [some (j_r (some sc)), some (j_r (some x)), some (j_r (some m)), some (j_r (some out)), some (j_i i), none, none] [] h cn sn := by
  have q1 : (i + Int32.ofInt (1)).toInt = i.toInt + 1 := j_inc1 (by omega)
  have q2 : (i + Int32.ofInt (2)).toInt = i.toInt + 2 := j_i2 i0 (by omega)
  have q3 : (i + Int32.ofInt (3)).toInt = i.toInt + 3 := j_i3 i0 (by omega)
  have q4 : (i + Int32.ofInt (4)).toInt = i.toInt + 4 := j_i4 i0 (by omega)
  refine hJ [1133] 400 _ _ _ _ _ _ ?_
  conv => whnf
  have lsv189 : j_ln h sc = L := lw.1.2.2.2.2.2.2
  refine ⟨_, _, rfl, lw.1.2.2.2.2.2.1, rfl, j_vp (by omega) (by rw [lsv189]; omega), fun v189 ev189 => ?_⟩
  conv => whnf
  have lsv190 : j_ln h sc = L := lw.1.2.2.2.2.2.2
  refine ⟨_, _, rfl, lw.1.2.2.2.2.2.1, rfl, j_vp (by omega) (by rw [lsv190]; omega), fun v190 ev190 => ?_⟩
  conv => whnf
  have lsv191 : j_ln h sc = L := lw.1.2.2.2.2.2.2
  refine ⟨_, _, rfl, lw.1.2.2.2.2.2.1, rfl, j_vp (by omega) (by rw [lsv191]; omega), fun v191 ev191 => ?_⟩
  conv => whnf
  have lsv192 : j_ln h sc = L := lw.1.2.2.2.2.2.2
  refine ⟨_, _, rfl, lw.1.2.2.2.2.2.1, rfl, j_vp (by omega) (by rw [lsv192]; omega), fun v192 ev192 => ?_⟩
  conv => whnf
  refine ⟨fun c193 => ?_, fun c193 => ?_⟩
  · skip
    conv => whnf
    refine ⟨rfl, _, _, _, _, _, _, c_Lw_agez lw.1.1 lw.2.1 lw.1.2.2.1, ⟨Nat.le_of_ble_eq_true rfl, Nat.le_of_ble_eq_true rfl, by (try dsimp only); omega, by (try dsimp only); omega⟩, fun _ _ z => False.elim z, ?_⟩
    rintro v9 H194 ⟨⟨r196, rfl⟩, fo⟩
    have l195 := (lw.fo fo).1
    conv => whnf
    have lsv197 : j_ln H194 sc = L := l195.1.2.2.2.2.2.2
    refine ⟨_, _, rfl, l195.1.2.2.2.2.2.1, rfl, j_vp (by omega) (by rw [lsv197]; omega), fun v197 ev197 => ?_⟩
    conv => whnf
    have lsv198 : j_ln H194 sc = L := l195.1.2.2.2.2.2.2
    refine ⟨_, _, rfl, l195.1.2.2.2.2.2.1, rfl, j_vp (by omega) (by rw [lsv198]; omega), fun v198 ev198 => ?_⟩
    conv => whnf
    have lsv199 : j_ln H194 sc = L := l195.1.2.2.2.2.2.2
    refine ⟨_, _, rfl, l195.1.2.2.2.2.2.1, rfl, j_vp (by omega) (by rw [lsv199]; omega), fun v199 ev199 => ?_⟩
    conv => whnf
    have lsv200 : j_ln H194 sc = L := l195.1.2.2.2.2.2.2
    refine ⟨_, _, rfl, l195.1.2.2.2.2.2.1, rfl, j_vp (by omega) (by rw [lsv200]; omega), fun v200 ev200 => ?_⟩
    conv => whnf
    refine ⟨fun c201 => ?_, fun c201 => ?_⟩
    · skip
      conv => whnf
      obtain ⟨ρ205, w204⟩ := l195.1.2.1
      refine ⟨w204.km, rfl, _, _, _, _, _, _, c_Mo_age w204, ⟨Nat.le_of_ble_eq_true rfl, Nat.le_of_ble_eq_true rfl, by (try dsimp only); omega, by (try dsimp only); omega⟩, fun _ _ z => False.elim z, ?_⟩
      rintro v9 H202 ⟨st9, r9, rfl⟩
      have l203 := l195.mf w204 st9
      exact j_use hF (back _ _ _ l203 (by omega) (by omega)) (And.intro rfl (And.intro rfl (And.intro rfl (And.intro rfl (And.intro rfl trivial)))))
    · skip
      conv => whnf
      obtain ⟨ρ209, w208⟩ := l195.1.2.1
      refine ⟨w208.km, rfl, _, _, _, _, _, _, c_Mo_age w208, ⟨Nat.le_of_ble_eq_true rfl, Nat.le_of_ble_eq_true rfl, by (try dsimp only); omega, by (try dsimp only); omega⟩, fun _ _ z => False.elim z, ?_⟩
      rintro v9 H206 ⟨st9, r9, rfl⟩
      have l207 := l195.mf w208 st9
      exact j_use hF (back _ _ _ l207 (by omega) (by omega)) (And.intro rfl (And.intro rfl (And.intro rfl (And.intro rfl (And.intro rfl trivial)))))
  · skip
    conv => whnf
    refine ⟨rfl, _, _, _, _, _, _, c_Lw_agez lw.1.1 lw.2.1 lw.1.2.2.1, ⟨Nat.le_of_ble_eq_true rfl, Nat.le_of_ble_eq_true rfl, by (try dsimp only); omega, by (try dsimp only); omega⟩, fun _ _ z => False.elim z, ?_⟩
    rintro v9 H210 ⟨⟨r212, rfl⟩, fo⟩
    have l211 := (lw.fo fo).1
    conv => whnf
    have lsv213 : j_ln H210 sc = L := l211.1.2.2.2.2.2.2
    refine ⟨_, _, rfl, l211.1.2.2.2.2.2.1, rfl, j_vp (by omega) (by rw [lsv213]; omega), fun v213 ev213 => ?_⟩
    conv => whnf
    have lsv214 : j_ln H210 sc = L := l211.1.2.2.2.2.2.2
    refine ⟨_, _, rfl, l211.1.2.2.2.2.2.1, rfl, j_vp (by omega) (by rw [lsv214]; omega), fun v214 ev214 => ?_⟩
    conv => whnf
    have lsv215 : j_ln H210 sc = L := l211.1.2.2.2.2.2.2
    refine ⟨_, _, rfl, l211.1.2.2.2.2.2.1, rfl, j_vp (by omega) (by rw [lsv215]; omega), fun v215 ev215 => ?_⟩
    conv => whnf
    have lsv216 : j_ln H210 sc = L := l211.1.2.2.2.2.2.2
    refine ⟨_, _, rfl, l211.1.2.2.2.2.2.1, rfl, j_vp (by omega) (by rw [lsv216]; omega), fun v216 ev216 => ?_⟩
    conv => whnf
    refine ⟨fun c217 => ?_, fun c217 => ?_⟩
    · skip
      conv => whnf
      obtain ⟨ρ221, w220⟩ := l211.1.2.1
      refine ⟨w220.km, rfl, _, _, _, _, _, _, c_Mo_age w220, ⟨Nat.le_of_ble_eq_true rfl, Nat.le_of_ble_eq_true rfl, by (try dsimp only); omega, by (try dsimp only); omega⟩, fun _ _ z => False.elim z, ?_⟩
      rintro v9 H218 ⟨st9, r9, rfl⟩
      have l219 := l211.mf w220 st9
      exact j_use hF (back _ _ _ l219 (by omega) (by omega)) (And.intro rfl (And.intro rfl (And.intro rfl (And.intro rfl (And.intro rfl trivial)))))
    · skip
      conv => whnf
      obtain ⟨ρ225, w224⟩ := l211.1.2.1
      refine ⟨w224.km, rfl, _, _, _, _, _, _, c_Mo_age w224, ⟨Nat.le_of_ble_eq_true rfl, Nat.le_of_ble_eq_true rfl, by (try dsimp only); omega, by (try dsimp only); omega⟩, fun _ _ z => False.elim z, ?_⟩
      rintro v9 H222 ⟨st9, r9, rfl⟩
      have l223 := l211.mf w224 st9
      exact j_use hF (back _ _ _ l223 (by omega) (by omega)) (And.intro rfl (And.intro rfl (And.intro rfl (And.intro rfl (And.intro rfl trivial)))))
set_option maxHeartbeats 4000000 in
set_option maxRecDepth 20000 in
theorem j_turn19 {J : j_J} {L sc x m out P G R Q cn sn : Nat} {i : Int32} {h : j_H} (hJ : j_Cl k_law j_lF j_lP j_no J) (hF : j_Fg J) (hL : L ≤ 2560) (i0 : 0 ≤ i.toInt) (i1 : i.toInt + 5 ≤ (L : Int)) (hc : cn ≤ 500000) (hs : sn ≤ 6000000) (lw : j_LW L sc x m out P G R Q h) (back : ∀ (h' : j_H) (cn' sn' : Nat), j_LW L sc x m out P G R Q h' → cn' ≤ cn + 200 → sn' ≤ sn + 2000 → J 1133 [some (j_r (some sc)), some (j_r (some x)), some (j_r (some m)), some (j_r (some out)), some (j_i i), none, none] [] h' cn' sn') : J 972 [some (j_r (some sc)), some (j_r (some x)), some (j_r (some m)), some (j_r (some out)), some (j_i i), none, none] [] h cn sn := by
  have q1 : (i + Int32.ofInt (1)).toInt = i.toInt + 1 := j_inc1 (by omega)
  have q2 : (i + Int32.ofInt (2)).toInt = i.toInt + 2 := j_i2 i0 (by omega)
  have q3 : (i + Int32.ofInt (3)).toInt = i.toInt + 3 := j_i3 i0 (by omega)
  have q4 : (i + Int32.ofInt (4)).toInt = i.toInt + 4 := j_i4 i0 (by omega)
  refine hJ [1133] 400 _ _ _ _ _ _ ?_
  conv => whnf
  refine ⟨lw.1.1.1, rfl, _, _, _, _, _, _, c_G_fewest (h := h) lw.1.1 j_Sc.rf, ⟨Nat.le_of_ble_eq_true rfl, Nat.le_of_ble_eq_true rfl, by (try dsimp only); omega, by (try dsimp only); omega⟩, fun _ _ z => False.elim z, ?_⟩
  rintro v9 H226 ⟨it228, e9, s9, r9, rfl⟩
  have fr9 : z_Fo x out h H226 := by rw [e9]; exact z_Fo.of (z_notes lw.1.1 lw.2.1 s9)
  have l227 := (lw.fo fr9).1
  conv => whnf
  obtain ⟨ρ232, w231⟩ := l227.1.2.1
  refine ⟨w231.km, rfl, _, _, _, _, _, _, c_Mo_fewest w231, ⟨Nat.le_of_ble_eq_true rfl, Nat.le_of_ble_eq_true rfl, by (try dsimp only); omega, by (try dsimp only); omega⟩, fun _ _ z => False.elim z, ?_⟩
  rintro v9 H229 ⟨st9, r9, rfl⟩
  have l230 := l227.mf w231 st9
  exact j_use hF (back _ _ _ l230 (by omega) (by omega)) (And.intro rfl (And.intro rfl (And.intro rfl (And.intro rfl (And.intro rfl trivial)))))
set_option maxHeartbeats 4000000 in
set_option maxRecDepth 20000 in
theorem j_turn20 {J : j_J} {L sc x m out P G R Q cn sn : Nat} {i : Int32} {h : j_H} (hJ : j_Cl k_law j_lF j_lP j_no J) (hF : j_Fg J) (hL : L ≤ 2560) (i0 : 0 ≤ i.toInt) (i1 : i.toInt + 5 ≤ (L : Int)) (hc : cn ≤ 500000) (hs : sn ≤ 6000000) (lw : j_LW L sc x m out P G R Q h) (back : ∀ (h' : j_H) (cn' sn' : Nat), j_LW L sc x m out P G R Q h' → cn' ≤ cn + 200 → sn' ≤ sn + 2000 → J 1133 [some (j_r (some sc)), some (j_r (some x)), some (j_r (some m)), some (j_r (some out)), some (j_i i), none, none] [] h' cn' sn') : J 985 [some (j_r (some sc)), some (j_r (some x)), some (j_r (some m)), some (j_r (some out)), some (j_i i), none, none] [] h cn sn := by
  have q1 : (i + Int32.ofInt (1)).toInt = i.toInt + 1 := j_inc1 (by omega)
  have q2 : (i + Int32.ofInt (2)).toInt = i.toInt + 2 := j_i2 i0 (by omega)
  have q3 : (i + Int32.ofInt (3)).toInt = i.toInt + 3 := j_i3 i0 (by omega)
  have q4 : (i + Int32.ofInt (4)).toInt = i.toInt + 4 := j_i4 i0 (by omega)
  refine hJ [1133] 400 _ _ _ _ _ _ ?_
  conv => whnf
  have lsv233 : j_ln h sc = L := lw.1.2.2.2.2.2.2
  refine ⟨_, _, rfl, lw.1.2.2.2.2.2.1, rfl, j_vp (by omega) (by rw [lsv233]; omega), fun v233 ev233 => ?_⟩
  conv => whnf
  refine ⟨fun c234 => ?_, fun c234 => ?_⟩
  · skip
    conv => whnf
    refine ⟨lw.1.1.1, rfl, _, _, _, _, _, _, c_G_bestSwap (h := h) lw.1.1 j_Sc.rf, ⟨Nat.le_of_ble_eq_true rfl, Nat.le_of_ble_eq_true rfl, by (try dsimp only); omega, by (try dsimp only); omega⟩, fun _ _ z => False.elim z, ?_⟩
    rintro v9 H235 ⟨it237, e9, s9, r9, rfl⟩
    have fr9 : z_Fo x out h H235 := by rw [e9]; exact z_Fo.of (z_notes lw.1.1 lw.2.1 s9)
    have l236 := (lw.fo fr9).1
    conv => whnf
    have lsv238 : j_ln H235 sc = L := l236.1.2.2.2.2.2.2
    refine ⟨_, _, rfl, l236.1.2.2.2.2.2.1, rfl, j_vp (by omega) (by rw [lsv238]; omega), fun v238 ev238 => ?_⟩
    conv => whnf
    refine ⟨fun c239 => ?_, fun c239 => ?_⟩
    · skip
      conv => whnf
      obtain ⟨ρ243, w242⟩ := l236.1.2.1
      refine ⟨w242.km, rfl, _, _, _, _, _, _, c_Mo_bestSwap w242, ⟨Nat.le_of_ble_eq_true rfl, Nat.le_of_ble_eq_true rfl, by (try dsimp only); omega, by (try dsimp only); omega⟩, fun _ _ z => False.elim z, ?_⟩
      rintro v9 H240 ⟨st9, r9, rfl⟩
      have l241 := l236.mf w242 st9
      exact j_use hF (back _ _ _ l241 (by omega) (by omega)) (And.intro rfl (And.intro rfl (And.intro rfl (And.intro rfl (And.intro rfl trivial)))))
    · skip
      conv => whnf
      obtain ⟨ρ247, w246⟩ := l236.1.2.1
      refine ⟨w246.km, rfl, _, _, _, _, _, _, c_Mo_bestSwap w246, ⟨Nat.le_of_ble_eq_true rfl, Nat.le_of_ble_eq_true rfl, by (try dsimp only); omega, by (try dsimp only); omega⟩, fun _ _ z => False.elim z, ?_⟩
      rintro v9 H244 ⟨st9, r9, rfl⟩
      have l245 := l236.mf w246 st9
      exact j_use hF (back _ _ _ l245 (by omega) (by omega)) (And.intro rfl (And.intro rfl (And.intro rfl (And.intro rfl (And.intro rfl trivial)))))
  · skip
    conv => whnf
    refine ⟨lw.1.1.1, rfl, _, _, _, _, _, _, c_G_bestSwap (h := h) lw.1.1 j_Sc.rf, ⟨Nat.le_of_ble_eq_true rfl, Nat.le_of_ble_eq_true rfl, by (try dsimp only); omega, by (try dsimp only); omega⟩, fun _ _ z => False.elim z, ?_⟩
    rintro v9 H248 ⟨it250, e9, s9, r9, rfl⟩
    have fr9 : z_Fo x out h H248 := by rw [e9]; exact z_Fo.of (z_notes lw.1.1 lw.2.1 s9)
    have l249 := (lw.fo fr9).1
    conv => whnf
    have lsv251 : j_ln H248 sc = L := l249.1.2.2.2.2.2.2
    refine ⟨_, _, rfl, l249.1.2.2.2.2.2.1, rfl, j_vp (by omega) (by rw [lsv251]; omega), fun v251 ev251 => ?_⟩
    conv => whnf
    refine ⟨fun c252 => ?_, fun c252 => ?_⟩
    · skip
      conv => whnf
      obtain ⟨ρ256, w255⟩ := l249.1.2.1
      refine ⟨w255.km, rfl, _, _, _, _, _, _, c_Mo_bestSwap w255, ⟨Nat.le_of_ble_eq_true rfl, Nat.le_of_ble_eq_true rfl, by (try dsimp only); omega, by (try dsimp only); omega⟩, fun _ _ z => False.elim z, ?_⟩
      rintro v9 H253 ⟨st9, r9, rfl⟩
      have l254 := l249.mf w255 st9
      exact j_use hF (back _ _ _ l254 (by omega) (by omega)) (And.intro rfl (And.intro rfl (And.intro rfl (And.intro rfl (And.intro rfl trivial)))))
    · skip
      conv => whnf
      obtain ⟨ρ260, w259⟩ := l249.1.2.1
      refine ⟨w259.km, rfl, _, _, _, _, _, _, c_Mo_bestSwap w259, ⟨Nat.le_of_ble_eq_true rfl, Nat.le_of_ble_eq_true rfl, by (try dsimp only); omega, by (try dsimp only); omega⟩, fun _ _ z => False.elim z, ?_⟩
      rintro v9 H257 ⟨st9, r9, rfl⟩
      have l258 := l249.mf w259 st9
      exact j_use hF (back _ _ _ l258 (by omega) (by omega)) (And.intro rfl (And.intro rfl (And.intro rfl (And.intro rfl (And.intro rfl trivial)))))
set_option maxHeartbeats 4000000 in
set_option maxRecDepth 20000 in
theorem j_turn21 {J : j_J} {L sc x m out P G R Q cn sn : Nat} {i : Int32} {h : j_H} (hJ : j_Cl k_law j_lF j_lP j_no J) (hF : j_Fg J) (hL : L ≤ 2560) (i0 : 0 ≤ i.toInt) (i1 : i.toInt + 5 ≤ (L : Int)) (hc : cn ≤ 500000) (hs : sn ≤ 6000000) (lw : j_LW L sc x m out P G R Q h) (back : ∀ (h' : j_H) (cn' sn' : Nat), j_LW L sc x m out P G R Q h' → cn' ≤ cn + 200 → sn' ≤ sn + 2000 → J 1133 [some (j_r (some sc)), some (j_r (some x)), some (j_r (some m)), some (j_r (some out)), some (j_i i), none, none] [] h' cn' sn') : J 1026 [some (j_r (some sc)), some (j_r (some x)), some (j_r (some m)), some (j_r (some out)), some (j_i i), none, none] [] h cn sn := by
  have q1 : (i + Int32.ofInt (1)).toInt = i.toInt + 1 := j_inc1 (by omega)
  have q2 : (i + Int32.ofInt (2)).toInt = i.toInt + 2 := j_i2 i0 (by omega)
  have q3 : (i + Int32.ofInt (3)).toInt = i.toInt + 3 := j_i3 i0 (by omega)
  have q4 : (i + Int32.ofInt (4)).toInt = i.toInt + 4 := j_i4 i0 (by omega)
  refine hJ [1133] 400 _ _ _ _ _ _ ?_
  conv => whnf
  have lsv261 : j_ln h sc = L := lw.1.2.2.2.2.2.2
  refine ⟨_, _, rfl, lw.1.2.2.2.2.2.1, rfl, j_vp (by omega) (by rw [lsv261]; omega), fun v261 ev261 => ?_⟩
  conv => whnf
  have lsv262 : j_ln h sc = L := lw.1.2.2.2.2.2.2
  refine ⟨_, _, rfl, lw.1.2.2.2.2.2.1, rfl, j_vp (by omega) (by rw [lsv262]; omega), fun v262 ev262 => ?_⟩
  conv => whnf
  refine ⟨rfl, _, _, _, _, _, _, c_Lw_changedz lw.1.1 lw.2.1 lw.1.2.2.1, ⟨Nat.le_of_ble_eq_true rfl, Nat.le_of_ble_eq_true rfl, by (try dsimp only); omega, by (try dsimp only); omega⟩, fun _ _ z => False.elim z, ?_⟩
  rintro v9 H263 ⟨⟨r265, rfl⟩, fo⟩
  have l264 := (lw.fo fo).1
  conv => whnf
  have lsv266 : j_ln H263 sc = L := l264.1.2.2.2.2.2.2
  refine ⟨_, _, rfl, l264.1.2.2.2.2.2.1, rfl, j_vp (by omega) (by rw [lsv266]; omega), fun v266 ev266 => ?_⟩
  conv => whnf
  have lsv267 : j_ln H263 sc = L := l264.1.2.2.2.2.2.2
  refine ⟨_, _, rfl, l264.1.2.2.2.2.2.1, rfl, j_vp (by omega) (by rw [lsv267]; omega), fun v267 ev267 => ?_⟩
  conv => whnf
  obtain ⟨ρ271, w270⟩ := l264.1.2.1
  refine ⟨w270.km, rfl, _, _, _, _, _, _, c_Mo_changed w270, ⟨Nat.le_of_ble_eq_true rfl, Nat.le_of_ble_eq_true rfl, by (try dsimp only); omega, by (try dsimp only); omega⟩, fun _ _ z => False.elim z, ?_⟩
  rintro v9 H268 ⟨st9, r9, rfl⟩
  have l269 := l264.mf w270 st9
  exact j_use hF (back _ _ _ l269 (by omega) (by omega)) (And.intro rfl (And.intro rfl (And.intro rfl (And.intro rfl (And.intro rfl trivial)))))
set_option maxHeartbeats 4000000 in
set_option maxRecDepth 20000 in
theorem j_turn22 {J : j_J} {L sc x m out P G R Q cn sn : Nat} {i : Int32} {h : j_H} (hJ : j_Cl k_law j_lF j_lP j_no J) (hF : j_Fg J) (hL : L ≤ 2560) (i0 : 0 ≤ i.toInt) (i1 : i.toInt + 5 ≤ (L : Int)) (hc : cn ≤ 500000) (hs : sn ≤ 6000000) (lw : j_LW L sc x m out P G R Q h) (back : ∀ (h' : j_H) (cn' sn' : Nat), j_LW L sc x m out P G R Q h' → cn' ≤ cn + 200 → sn' ≤ sn + 2000 → J 1133 [some (j_r (some sc)), some (j_r (some x)), some (j_r (some m)), some (j_r (some out)), some (j_i i), none, none] [] h' cn' sn') : J 1066 [some (j_r (some sc)), some (j_r (some x)), some (j_r (some m)), some (j_r (some out)), some (j_i i), none, none] [] h cn sn := by
  have q1 : (i + Int32.ofInt (1)).toInt = i.toInt + 1 := j_inc1 (by omega)
  have q2 : (i + Int32.ofInt (2)).toInt = i.toInt + 2 := j_i2 i0 (by omega)
  have q3 : (i + Int32.ofInt (3)).toInt = i.toInt + 3 := j_i3 i0 (by omega)
  have q4 : (i + Int32.ofInt (4)).toInt = i.toInt + 4 := j_i4 i0 (by omega)
  refine hJ [1133] 400 _ _ _ _ _ _ ?_
  conv => whnf
  have lsv272 : j_ln h sc = L := lw.1.2.2.2.2.2.2
  refine ⟨_, _, rfl, lw.1.2.2.2.2.2.1, rfl, j_vp (by omega) (by rw [lsv272]; omega), fun v272 ev272 => ?_⟩
  conv => whnf
  have lsv273 : j_ln h sc = L := lw.1.2.2.2.2.2.2
  refine ⟨_, _, rfl, lw.1.2.2.2.2.2.1, rfl, j_vp (by omega) (by rw [lsv273]; omega), fun v273 ev273 => ?_⟩
  conv => whnf
  refine ⟨rfl, _, _, _, _, _, _, c_Lw_widerz lw.1.1 lw.2.1 lw.1.2.2.1, ⟨Nat.le_of_ble_eq_true rfl, Nat.le_of_ble_eq_true rfl, by (try dsimp only); omega, by (try dsimp only); omega⟩, fun _ _ z => False.elim z, ?_⟩
  rintro v9 H274 ⟨⟨r276, rfl⟩, fo⟩
  have l275 := (lw.fo fo).1
  conv => whnf
  have lsv277 : j_ln H274 sc = L := l275.1.2.2.2.2.2.2
  refine ⟨_, _, rfl, l275.1.2.2.2.2.2.1, rfl, j_vp (by omega) (by rw [lsv277]; omega), fun v277 ev277 => ?_⟩
  conv => whnf
  have lsv278 : j_ln H274 sc = L := l275.1.2.2.2.2.2.2
  refine ⟨_, _, rfl, l275.1.2.2.2.2.2.1, rfl, j_vp (by omega) (by rw [lsv278]; omega), fun v278 ev278 => ?_⟩
  conv => whnf
  obtain ⟨ρ282, w281⟩ := l275.1.2.1
  refine ⟨w281.km, rfl, _, _, _, _, _, _, c_Mo_wider w281, ⟨Nat.le_of_ble_eq_true rfl, Nat.le_of_ble_eq_true rfl, by (try dsimp only); omega, by (try dsimp only); omega⟩, fun _ _ z => False.elim z, ?_⟩
  rintro v9 H279 ⟨st9, r9, rfl⟩
  have l280 := l275.mf w281 st9
  exact j_use hF (back _ _ _ l280 (by omega) (by omega)) (And.intro rfl (And.intro rfl (And.intro rfl (And.intro rfl (And.intro rfl trivial)))))
set_option maxHeartbeats 4000000 in
set_option maxRecDepth 20000 in
theorem j_turn23 {J : j_J} {L sc x m out P G R Q cn sn : Nat} {i : Int32} {h : j_H} (hJ : j_Cl k_law j_lF j_lP j_no J) (hF : j_Fg J) (hL : L ≤ 2560) (i0 : 0 ≤ i.toInt) (i1 : i.toInt + 5 ≤ (L : Int)) (hc : cn ≤ 500000) (hs : sn ≤ 6000000) (lw : j_LW L sc x m out P G R Q h) (back : ∀ (h' : j_H) (cn' sn' : Nat), j_LW L sc x m out P G R Q h' → cn' ≤ cn + 200 → sn' ≤ sn + 2000 → J 1133 [some (j_r (some sc)), some (j_r (some x)), some (j_r (some m)), some (j_r (some out)), some (j_i i), none, none] [] h' cn' sn') : J 1106 [some (j_r (some sc)), some (j_r (some x)), some (j_r (some m)), some (j_r (some out)), some (j_i i), none, none] [] h cn sn := by
  have q1 : (i + Int32.ofInt (1)).toInt = i.toInt + 1 := j_inc1 (by omega)
  have q2 : (i + Int32.ofInt (2)).toInt = i.toInt + 2 := j_i2 i0 (by omega)
  have q3 : (i + Int32.ofInt (3)).toInt = i.toInt + 3 := j_i3 i0 (by omega)
  have q4 : (i + Int32.ofInt (4)).toInt = i.toInt + 4 := j_i4 i0 (by omega)
  refine hJ [1133] 400 _ _ _ _ _ _ ?_
  conv => whnf
  refine ⟨lw.1.1.1, rfl, _, _, _, _, _, _, c_G_isSound (h := h) lw.1.1 j_Sc.rf, ⟨Nat.le_of_ble_eq_true rfl, Nat.le_of_ble_eq_true rfl, by (try dsimp only); omega, by (try dsimp only); omega⟩, fun _ _ z => False.elim z, ?_⟩
  rintro v9 H283 ⟨it285, e9, s9, r9, rfl, -⟩
  have fr9 : z_Fo x out h H283 := by rw [e9]; exact z_Fo.of (z_notes lw.1.1 lw.2.1 s9)
  have l284 := (lw.fo fr9).1
  conv => whnf
  obtain ⟨ρ289, w288⟩ := l284.1.2.1
  refine ⟨w288.km, rfl, _, _, _, _, _, _, c_Mo_isSound w288, ⟨Nat.le_of_ble_eq_true rfl, Nat.le_of_ble_eq_true rfl, by (try dsimp only); omega, by (try dsimp only); omega⟩, fun _ _ z => False.elim z, ?_⟩
  rintro v9 H286 ⟨st9, r9, rfl, -⟩
  have l287 := l284.mf w288 st9
  exact j_use hF (back _ _ _ l287 (by omega) (by omega)) (And.intro rfl (And.intro rfl (And.intro rfl (And.intro rfl (And.intro rfl trivial)))))
set_option maxHeartbeats 4000000 in
set_option maxRecDepth 20000 in
theorem j_turn24 {J : j_J} {L sc x m out P G R Q cn sn : Nat} {i : Int32} {h : j_H} (hJ : j_Cl k_law j_lF j_lP j_no J) (hF : j_Fg J) (hL : L ≤ 2560) (i0 : 0 ≤ i.toInt) (i1 : i.toInt + 5 ≤ (L : Int)) (hc : cn ≤ 500000) (hs : sn ≤ 6000000) (lw : j_LW L sc x m out P G R Q h) (back : ∀ (h' : j_H) (cn' sn' : Nat), j_LW L sc x m out P G R Q h' → cn' ≤ cn + 200 → sn' ≤ sn + 2000 → J 1133 [some (j_r (some sc)), some (j_r (some x)), some (j_r (some m)), some (j_r (some out)), some (j_i i), none, none] [] h' cn' sn') : J 1119 [some (j_r (some sc)), some (j_r (some x)), some (j_r (some m)), some (j_r (some out)), some (j_i i), none, none] [] h cn sn := by
  have q1 : (i + Int32.ofInt (1)).toInt = i.toInt + 1 := j_inc1 (by omega)
  have q2 : (i + Int32.ofInt (2)).toInt = i.toInt + 2 := j_i2 i0 (by omega)
  have q3 : (i + Int32.ofInt (3)).toInt = i.toInt + 3 := j_i3 i0 (by omega)
  have q4 : (i + Int32.ofInt (4)).toInt = i.toInt + 4 := j_i4 i0 (by omega)
  refine hJ [1133] 400 _ _ _ _ _ _ ?_
  conv => whnf
  refine ⟨lw.1.1.1, rfl, _, _, _, _, _, _, c_G_digestx (h := h) lw.1.1 lw.2.1 lw.2.2.1.2 j_Sc.rf, ⟨Nat.le_of_ble_eq_true rfl, Nat.le_of_ble_eq_true rfl, by (try dsimp only); omega, by (try dsimp only); omega⟩, fun _ _ z => False.elim z, ?_⟩
  rintro v9 H290 ⟨rfl, it292, e9, s9⟩
  have n9 := z_notes lw.1.1 lw.2.1 s9
  have fr9 : z_Fo x out h H290 := by rw [e9]; exact z_Fo.of n9
  have q9 : z_eq (z_c H290 x) (z_c h x) := by rw [e9]; exact n9.2.2
  obtain ⟨l291, s9f⟩ := lw.fo fr9
  conv => whnf
  obtain ⟨ρ9, w9⟩ := l291.1.2.1
  have eq9 : z_eq (z_d H290 m P G R Q) (z_c h x) := l291.2.2.2.tr q9
  refine ⟨w9.km, rfl, _, _, _, _, _, _, c_Mo_digestz w9 (l291.2.2.1.1.eq l291.2.2.2) (l291.2.2.1.2.eq l291.2.2.2), ⟨Nat.le_of_ble_eq_true rfl, Nat.le_of_ble_eq_true rfl, by (try dsimp only); omega, by (try dsimp only); omega⟩, fun _ _ z => False.elim z, ?_⟩
  rintro v9 H293 ⟨⟨st9, t9⟩, rfl⟩
  have l294 := l291.mf w9 st9
  conv => whnf
  refine ⟨fun _ => ?_, fun c => absurd (show (lg_cmp _ _).toInt = 0 by rw [z_dig_c eq9 w9.b.1.1 w9.b.2.1 w9.b.2.2.1 w9.Pp]; exact j_cmp0 _) c⟩
  exact j_use hF (back _ _ _ l294 (by omega) (by omega)) (And.intro rfl (And.intro rfl (And.intro rfl (And.intro rfl (And.intro rfl trivial)))))
set_option maxHeartbeats 4000000 in
set_option maxRecDepth 20000 in
theorem j_lawloop {J : j_J} {L sc x m out P G R Q : Nat} (hJ : j_Cl k_law j_lF j_lP j_no J) (hF : j_Fg J) (hL : L ≤ 2560) : ∀ (k : Nat) (i : Int32) (h : j_H) (cn sn : Nat), j_LW L sc x m out P G R Q h → 0 ≤ i.toInt → i.toInt ≤ (L : Int) → ((L : Int) + 5 - i.toInt) < (k : Int) → cn ≤ 100 + 40 * i.toInt.toNat → sn ≤ 1000 + 400 * i.toInt.toNat → J 27 [some (j_r (some sc)), some (j_r (some x)), some (j_r (some m)), some (j_r (some out)), some (j_i i), none, none] [] h cn sn := by
  intro k
  induction k with
  | zero => intro i h cn sn lw i0 i1 hk hc hs; omega
  | succ k ih =>
    intro i h cn sn lw i0 i1 hk hc hs
    have q5 : (Int32.ofInt 5).toInt = 5 := by decide
    have ls : j_ln h sc = L := lw.1.2.2.2.2.2.2
    have hn : (nI (j_ln h sc)).toInt = (L : Int) := by rw [ls]; exact nI_toInt (by omega)
    have hs5 : (nI (j_ln h sc) - Int32.ofInt 5).toInt = (L : Int) - 5 := by rw [j_subI (by rw [hn, q5]; omega) (by rw [hn, q5]; omega), hn, q5]
    refine hJ [156, 208, 236, 276, 316, 356, 384, 448, 476, 516, 556, 596, 636, 688, 744, 784, 812, 840, 892, 972, 985, 1026, 1066, 1106, 1119, 1133] 400 _ _ _ _ _ _ ?_
    conv => whnf
    refine ⟨_, _, rfl, lw.1.2.2.2.2.2.1, ?_⟩
    conv => whnf
    refine ⟨fun c => ?_, fun c => ?_⟩
    · conv => whnf
      exact ⟨Or.inr rfl, ⟨by (try dsimp only); omega, by (try dsimp only); omega⟩, rfl⟩
    have c : ¬ (nI (j_ln h sc) - Int32.ofInt 5).toInt < i.toInt := c
    rw [hs5] at c
    have back : ∀ (h' : j_H) (cn' sn' : Nat), j_LW L sc x m out P G R Q h' → cn' ≤ cn + 200 → sn' ≤ sn + 2000 → J 1133 [some (j_r (some sc)), some (j_r (some x)), some (j_r (some m)), some (j_r (some out)), some (j_i i), none, none] [] h' cn' sn' := by
      intro h' cn' sn' lw' hc' hs'
      have t : (i + Int32.ofInt (5)).toInt = i.toInt + 5 := j_i5 i0 (by omega)
      refine hJ [27] 400 _ _ _ _ _ _ ?_
      conv => whnf
      exact j_use hF (ih (i + Int32.ofInt (5)) h' cn' sn' lw' (by omega) (by omega) (by omega) (by omega) (by omega)) (And.intro rfl (And.intro rfl (And.intro rfl (And.intro rfl (And.intro rfl trivial)))))
    conv => whnf
    refine ⟨_, _, rfl, lw.1.2.2.2.2.2.1, rfl, j_vp (by omega) (by omega), fun v _ => ?_⟩
    conv => whnf
    refine ⟨And.intro (fun _ => ?_) (And.intro (fun _ => ?_) (And.intro (fun _ => ?_) (And.intro (fun _ => ?_) (And.intro (fun _ => ?_) (And.intro (fun _ => ?_) (And.intro (fun _ => ?_) (And.intro (fun _ => ?_) (And.intro (fun _ => ?_) (And.intro (fun _ => ?_) (And.intro (fun _ => ?_) (And.intro (fun _ => ?_) (And.intro (fun _ => ?_) (And.intro (fun _ => ?_) (And.intro (fun _ => ?_) (And.intro (fun _ => ?_) (And.intro (fun _ => ?_) (And.intro (fun _ => ?_) (And.intro (fun _ => ?_) (And.intro (fun _ => ?_) (And.intro (fun _ => ?_) (And.intro (fun _ => ?_) (And.intro (fun _ => ?_) (And.intro (fun _ => ?_) (And.intro (fun _ => ?_) (trivial))))))))))))))))))))))))), fun _ => ?_⟩
    · exact j_use hF (j_turn0 hJ hF hL i0 (by omega) (by omega) (by omega) lw back) (And.intro rfl (And.intro rfl (And.intro rfl (And.intro rfl (And.intro rfl trivial)))))
    · exact j_use hF (j_turn1 hJ hF hL i0 (by omega) (by omega) (by omega) lw back) (And.intro rfl (And.intro rfl (And.intro rfl (And.intro rfl (And.intro rfl trivial)))))
    · exact j_use hF (j_turn2 hJ hF hL i0 (by omega) (by omega) (by omega) lw back) (And.intro rfl (And.intro rfl (And.intro rfl (And.intro rfl (And.intro rfl trivial)))))
    · exact j_use hF (j_turn3 hJ hF hL i0 (by omega) (by omega) (by omega) lw back) (And.intro rfl (And.intro rfl (And.intro rfl (And.intro rfl (And.intro rfl trivial)))))
    · exact j_use hF (j_turn4 hJ hF hL i0 (by omega) (by omega) (by omega) lw back) (And.intro rfl (And.intro rfl (And.intro rfl (And.intro rfl (And.intro rfl trivial)))))
    · exact j_use hF (j_turn5 hJ hF hL i0 (by omega) (by omega) (by omega) lw back) (And.intro rfl (And.intro rfl (And.intro rfl (And.intro rfl (And.intro rfl trivial)))))
    · exact j_use hF (j_turn6 hJ hF hL i0 (by omega) (by omega) (by omega) lw back) (And.intro rfl (And.intro rfl (And.intro rfl (And.intro rfl (And.intro rfl trivial)))))
    · exact j_use hF (j_turn7 hJ hF hL i0 (by omega) (by omega) (by omega) lw back) (And.intro rfl (And.intro rfl (And.intro rfl (And.intro rfl (And.intro rfl trivial)))))
    · exact j_use hF (j_turn8 hJ hF hL i0 (by omega) (by omega) (by omega) lw back) (And.intro rfl (And.intro rfl (And.intro rfl (And.intro rfl (And.intro rfl trivial)))))
    · exact j_use hF (j_turn9 hJ hF hL i0 (by omega) (by omega) (by omega) lw back) (And.intro rfl (And.intro rfl (And.intro rfl (And.intro rfl (And.intro rfl trivial)))))
    · exact j_use hF (j_turn10 hJ hF hL i0 (by omega) (by omega) (by omega) lw back) (And.intro rfl (And.intro rfl (And.intro rfl (And.intro rfl (And.intro rfl trivial)))))
    · exact j_use hF (j_turn11 hJ hF hL i0 (by omega) (by omega) (by omega) lw back) (And.intro rfl (And.intro rfl (And.intro rfl (And.intro rfl (And.intro rfl trivial)))))
    · exact j_use hF (j_turn12 hJ hF hL i0 (by omega) (by omega) (by omega) lw back) (And.intro rfl (And.intro rfl (And.intro rfl (And.intro rfl (And.intro rfl trivial)))))
    · exact j_use hF (j_turn13 hJ hF hL i0 (by omega) (by omega) (by omega) lw back) (And.intro rfl (And.intro rfl (And.intro rfl (And.intro rfl (And.intro rfl trivial)))))
    · exact j_use hF (j_turn14 hJ hF hL i0 (by omega) (by omega) (by omega) lw back) (And.intro rfl (And.intro rfl (And.intro rfl (And.intro rfl (And.intro rfl trivial)))))
    · exact j_use hF (j_turn15 hJ hF hL i0 (by omega) (by omega) (by omega) lw back) (And.intro rfl (And.intro rfl (And.intro rfl (And.intro rfl (And.intro rfl trivial)))))
    · exact j_use hF (j_turn16 hJ hF hL i0 (by omega) (by omega) (by omega) lw back) (And.intro rfl (And.intro rfl (And.intro rfl (And.intro rfl (And.intro rfl trivial)))))
    · exact j_use hF (j_turn17 hJ hF hL i0 (by omega) (by omega) (by omega) lw back) (And.intro rfl (And.intro rfl (And.intro rfl (And.intro rfl (And.intro rfl trivial)))))
    · exact j_use hF (j_turn18 hJ hF hL i0 (by omega) (by omega) (by omega) lw back) (And.intro rfl (And.intro rfl (And.intro rfl (And.intro rfl (And.intro rfl trivial)))))
    · exact j_use hF (j_turn19 hJ hF hL i0 (by omega) (by omega) (by omega) lw back) (And.intro rfl (And.intro rfl (And.intro rfl (And.intro rfl (And.intro rfl trivial)))))
    · exact j_use hF (j_turn20 hJ hF hL i0 (by omega) (by omega) (by omega) lw back) (And.intro rfl (And.intro rfl (And.intro rfl (And.intro rfl (And.intro rfl trivial)))))
    · exact j_use hF (j_turn21 hJ hF hL i0 (by omega) (by omega) (by omega) lw back) (And.intro rfl (And.intro rfl (And.intro rfl (And.intro rfl (And.intro rfl trivial)))))
    · exact j_use hF (j_turn22 hJ hF hL i0 (by omega) (by omega) (by omega) lw back) (And.intro rfl (And.intro rfl (And.intro rfl (And.intro rfl (And.intro rfl trivial)))))
    · exact j_use hF (j_turn23 hJ hF hL i0 (by omega) (by omega) (by omega) lw back) (And.intro rfl (And.intro rfl (And.intro rfl (And.intro rfl (And.intro rfl trivial)))))
    · exact j_use hF (j_turn24 hJ hF hL i0 (by omega) (by omega) (by omega) lw back) (And.intro rfl (And.intro rfl (And.intro rfl (And.intro rfl (And.intro rfl trivial)))))
    · exact j_use hF (back h cn sn lw (by omega) (by omega)) (And.intro rfl (And.intro rfl (And.intro rfl (And.intro rfl (And.intro rfl trivial)))))
