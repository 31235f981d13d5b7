/-! the law's turns, one by one -/
theorem j_i2 {i : Int32} (h0 : 0 ≤ i.toInt) (h1 : i.toInt ≤ 100000) : (i + Int32.ofInt (2)).toInt = i.toInt + 2 := by
  have e : (Int32.ofInt (2)).toInt = 2 := by decide
  rw [j_addI (by omega) (by omega), e]
theorem j_i3 {i : Int32} (h0 : 0 ≤ i.toInt) (h1 : i.toInt ≤ 100000) : (i + Int32.ofInt (3)).toInt = i.toInt + 3 := by
  have e : (Int32.ofInt (3)).toInt = 3 := by decide
  rw [j_addI (by omega) (by omega), e]
theorem j_i4 {i : Int32} (h0 : 0 ≤ i.toInt) (h1 : i.toInt ≤ 100000) : (i + Int32.ofInt (4)).toInt = i.toInt + 4 := by
  have e : (Int32.ofInt (4)).toInt = 4 := by decide
  rw [j_addI (by omega) (by omega), e]
theorem j_i5 {i : Int32} (h0 : 0 ≤ i.toInt) (h1 : i.toInt ≤ 100000) : (i + Int32.ofInt (5)).toInt = i.toInt + 5 := by
  have e : (Int32.ofInt (5)).toInt = 5 := by decide
  rw [j_addI (by omega) (by omega), e]
abbrev j_lF : j_F := (7, some .boolean, 2048, 84000, 601024, 7293033)
def j_lP : Option j_V → j_H → Prop := fun v _ => v = some (j_i (Int32.ofInt 1))
theorem j_cmp0 (x : Int64) : (lg_cmp x x).toInt = 0 := by
  have e : lg_cmp x x = 0 := by
    unfold lg_cmp
    simp
  rw [e]
  decide
set_option maxHeartbeats 4000000 in
set_option maxRecDepth 20000 in
theorem j_turn0 {J : j_J} {L sc x m out P G R Q cn sn : Nat} {i : Int32} {h : j_H} (hJ : j_Cl k_law j_lF j_lP j_no J) (hF : j_Fg J) (hL : L ≤ 2560) (i0 : 0 ≤ i.toInt) (i1 : i.toInt + 5 ≤ (L : Int)) (hc : cn ≤ 500000) (hs : sn ≤ 6000000) (lw : j_LW L sc x m out P G R Q h) (back : ∀ (h' : j_H) (cn' sn' : Nat), j_LW L sc x m out P G R Q h' → cn' ≤ cn + 200 → sn' ≤ sn + 2000 → J 1161 [some (j_r (some sc)), some (j_r (some x)), some (j_r (some m)), some (j_r (some out)), some (j_i i), none, none] [] h' cn' sn') : J 156 [some (j_r (some sc)), some (j_r (some x)), some (j_r (some m)), some (j_r (some out)), some (j_i i), none, none] [] h cn sn := by
  have q1 : (i + Int32.ofInt (1)).toInt = i.toInt + 1 := j_inc1 (by omega)
  have q2 : (i + Int32.ofInt (2)).toInt = i.toInt + 2 := j_i2 i0 (by omega)
  have q3 : (i + Int32.ofInt (3)).toInt = i.toInt + 3 := j_i3 i0 (by omega)
  have q4 : (i + Int32.ofInt (4)).toInt = i.toInt + 4 := j_i4 i0 (by omega)
  refine hJ [1161] 400 _ _ _ _ _ _ ?_
  conv => whnf
  have lsv1 : j_ln h sc = L := lw.1.2.2.2.2.2.2
  refine ⟨_, _, rfl, lw.1.2.2.2.2.2.1, rfl, j_vp (by omega) (by rw [lsv1]; omega), fun v1 ev1 => ?_⟩
  conv => whnf
  have lsv2 : j_ln h sc = L := lw.1.2.2.2.2.2.2
  refine ⟨_, _, rfl, lw.1.2.2.2.2.2.1, rfl, j_vp (by omega) (by rw [lsv2]; omega), fun v2 ev2 => ?_⟩
  conv => whnf
  have lsv3 : j_ln h sc = L := lw.1.2.2.2.2.2.2
  refine ⟨_, _, rfl, lw.1.2.2.2.2.2.1, rfl, j_vp (by omega) (by rw [lsv3]; omega), fun v3 ev3 => ?_⟩
  conv => whnf
  refine ⟨rfl, _, _, _, _, _, _, c_Lw_grainz lw.1.1 lw.2.1 lw.1.2.2.1, ⟨Nat.le_of_ble_eq_true rfl, Nat.le_of_ble_eq_true rfl, by (try dsimp only); omega, by (try dsimp only); omega⟩, fun _ _ z => False.elim z, ?_⟩
  rintro u9 H4 a
  obtain rfl := a.1
  obtain ⟨l1, s1, m1⟩ := lw.1.lq a
  conv => whnf
  have lsv6 : j_ln H4 sc = L := l1.2.2.2.2.2.2
  refine ⟨_, _, rfl, l1.2.2.2.2.2.1, rfl, j_vp (by omega) (by rw [lsv6]; omega), fun v6 ev6 => ?_⟩
  obtain rfl : v1 = v6 := ev1.symm.trans ((s1 _).symm.trans ev6)
  conv => whnf
  have lsv7 : j_ln H4 sc = L := l1.2.2.2.2.2.2
  refine ⟨_, _, rfl, l1.2.2.2.2.2.1, rfl, j_vp (by omega) (by rw [lsv7]; omega), fun v7 ev7 => ?_⟩
  obtain rfl : v2 = v7 := ev2.symm.trans ((s1 _).symm.trans ev7)
  conv => whnf
  have lsv8 : j_ln H4 sc = L := l1.2.2.2.2.2.2
  refine ⟨_, _, rfl, l1.2.2.2.2.2.1, rfl, j_vp (by omega) (by rw [lsv8]; omega), fun v8 ev8 => ?_⟩
  obtain rfl : v3 = v8 := ev3.symm.trans ((s1 _).symm.trans ev8)
  conv => whnf
  obtain ⟨ρ9, w9⟩ := l1.2.1
  have eq9 : z_eq (z_d H4 m P G R Q) (z_c h x) := m1.tr lw.2.2.2
  have V := lw.2.2.1.1
  have B := lw.2.2.1.2
  refine ⟨w9.km, rfl, _, _, _, _, _, _, c_Mo_grainz w9, ⟨Nat.le_of_ble_eq_true rfl, Nat.le_of_ble_eq_true rfl, by (try dsimp only); omega, by (try dsimp only); omega⟩, fun _ _ z => False.elim z, ?_⟩
  rintro u9 H9 b
  have hq : q_grain (j_am H4 m P G R) v1 v2 v3 = q_grain (z_cn h x) v1 v2 v3 := q_grain_c (z_amc eq9)
  obtain ⟨lw2, o2⟩ := lw.told a b.ms hq (fun _ => cN_grain eq9 w9.b.1.2) (fun z => ⟨cV_grain V z, cB_grain B z⟩)
  obtain ⟨r9, rfl⟩ := b.2.2.2.2.2.2
  exact j_use hF (back _ _ _ lw2 (by omega) (by omega)) (And.intro rfl (And.intro rfl (And.intro rfl (And.intro rfl (And.intro rfl trivial)))))
set_option maxHeartbeats 4000000 in
set_option maxRecDepth 20000 in
theorem j_turn1 {J : j_J} {L sc x m out P G R Q cn sn : Nat} {i : Int32} {h : j_H} (hJ : j_Cl k_law j_lF j_lP j_no J) (hF : j_Fg J) (hL : L ≤ 2560) (i0 : 0 ≤ i.toInt) (i1 : i.toInt + 5 ≤ (L : Int)) (hc : cn ≤ 500000) (hs : sn ≤ 6000000) (lw : j_LW L sc x m out P G R Q h) (back : ∀ (h' : j_H) (cn' sn' : Nat), j_LW L sc x m out P G R Q h' → cn' ≤ cn + 200 → sn' ≤ sn + 2000 → J 1161 [some (j_r (some sc)), some (j_r (some x)), some (j_r (some m)), some (j_r (some out)), some (j_i i), none, none] [] h' cn' sn') : J 208 [some (j_r (some sc)), some (j_r (some x)), some (j_r (some m)), some (j_r (some out)), some (j_i i), none, none] [] h cn sn := by
  have q1 : (i + Int32.ofInt (1)).toInt = i.toInt + 1 := j_inc1 (by omega)
  have q2 : (i + Int32.ofInt (2)).toInt = i.toInt + 2 := j_i2 i0 (by omega)
  have q3 : (i + Int32.ofInt (3)).toInt = i.toInt + 3 := j_i3 i0 (by omega)
  have q4 : (i + Int32.ofInt (4)).toInt = i.toInt + 4 := j_i4 i0 (by omega)
  refine hJ [1161] 400 _ _ _ _ _ _ ?_
  conv => whnf
  have lsv11 : j_ln h sc = L := lw.1.2.2.2.2.2.2
  refine ⟨_, _, rfl, lw.1.2.2.2.2.2.1, rfl, j_vp (by omega) (by rw [lsv11]; omega), fun v11 ev11 => ?_⟩
  conv => whnf
  refine ⟨rfl, _, _, _, _, _, _, c_Lw_passz lw.1.1 lw.2.1 lw.2.2.1.1 lw.1.2.2.1, ⟨Nat.le_of_ble_eq_true rfl, Nat.le_of_ble_eq_true rfl, by (try dsimp only); omega, by (try dsimp only); omega⟩, fun _ _ z => False.elim z, ?_⟩
  rintro u9 H12 a
  obtain rfl := a.1
  obtain ⟨l1, s1, m1⟩ := lw.1.lq a
  conv => whnf
  have lsv14 : j_ln H12 sc = L := l1.2.2.2.2.2.2
  refine ⟨_, _, rfl, l1.2.2.2.2.2.1, rfl, j_vp (by omega) (by rw [lsv14]; omega), fun v14 ev14 => ?_⟩
  obtain rfl : v11 = v14 := ev11.symm.trans ((s1 _).symm.trans ev14)
  conv => whnf
  obtain ⟨ρ9, w9⟩ := l1.2.1
  have eq9 : z_eq (z_d H12 m P G R Q) (z_c h x) := m1.tr lw.2.2.2
  have V := lw.2.2.1.1
  have B := lw.2.2.1.2
  refine ⟨w9.km, rfl, _, _, _, _, _, _, c_Mo_passz w9 (V.eq eq9), ⟨Nat.le_of_ble_eq_true rfl, Nat.le_of_ble_eq_true rfl, by (try dsimp only); omega, by (try dsimp only); omega⟩, fun _ _ z => False.elim z, ?_⟩
  rintro u9 H15 b
  have hq : q_pass (z_dn H12 m P G R Q) v11 = q_pass (z_cn h x) v11 := by unfold q_pass; rw [show (z_dn H12 m P G R Q) 6 = (z_cn h x) 6 from eq9.1 6 (by decide)]
  obtain ⟨lw2, o2⟩ := lw.told a b.ms hq (fun _ => cN_pass eq9) (fun z => ⟨z_V.years V, cB_pass B z⟩)
  obtain ⟨r9, rfl⟩ := b.2.2.2.2.2.2
  exact j_use hF (back _ _ _ lw2 (by omega) (by omega)) (And.intro rfl (And.intro rfl (And.intro rfl (And.intro rfl (And.intro rfl trivial)))))
set_option maxHeartbeats 4000000 in
set_option maxRecDepth 20000 in
theorem j_turn2 {J : j_J} {L sc x m out P G R Q cn sn : Nat} {i : Int32} {h : j_H} (hJ : j_Cl k_law j_lF j_lP j_no J) (hF : j_Fg J) (hL : L ≤ 2560) (i0 : 0 ≤ i.toInt) (i1 : i.toInt + 5 ≤ (L : Int)) (hc : cn ≤ 500000) (hs : sn ≤ 6000000) (lw : j_LW L sc x m out P G R Q h) (back : ∀ (h' : j_H) (cn' sn' : Nat), j_LW L sc x m out P G R Q h' → cn' ≤ cn + 200 → sn' ≤ sn + 2000 → J 1161 [some (j_r (some sc)), some (j_r (some x)), some (j_r (some m)), some (j_r (some out)), some (j_i i), none, none] [] h' cn' sn') : J 236 [some (j_r (some sc)), some (j_r (some x)), some (j_r (some m)), some (j_r (some out)), some (j_i i), none, none] [] h cn sn := by
  have q1 : (i + Int32.ofInt (1)).toInt = i.toInt + 1 := j_inc1 (by omega)
  have q2 : (i + Int32.ofInt (2)).toInt = i.toInt + 2 := j_i2 i0 (by omega)
  have q3 : (i + Int32.ofInt (3)).toInt = i.toInt + 3 := j_i3 i0 (by omega)
  have q4 : (i + Int32.ofInt (4)).toInt = i.toInt + 4 := j_i4 i0 (by omega)
  refine hJ [1161] 400 _ _ _ _ _ _ ?_
  conv => whnf
  have lsv17 : j_ln h sc = L := lw.1.2.2.2.2.2.2
  refine ⟨_, _, rfl, lw.1.2.2.2.2.2.1, rfl, j_vp (by omega) (by rw [lsv17]; omega), fun v17 ev17 => ?_⟩
  conv => whnf
  have lsv18 : j_ln h sc = L := lw.1.2.2.2.2.2.2
  refine ⟨_, _, rfl, lw.1.2.2.2.2.2.1, rfl, j_vp (by omega) (by rw [lsv18]; omega), fun v18 ev18 => ?_⟩
  conv => whnf
  refine ⟨rfl, _, _, _, _, _, _, c_Lw_heatz lw.1.1 lw.2.1 lw.1.2.2.1, ⟨Nat.le_of_ble_eq_true rfl, Nat.le_of_ble_eq_true rfl, by (try dsimp only); omega, by (try dsimp only); omega⟩, fun _ _ z => False.elim z, ?_⟩
  rintro u9 H19 a
  obtain rfl := a.1
  obtain ⟨l1, s1, m1⟩ := lw.1.lq a
  conv => whnf
  have lsv21 : j_ln H19 sc = L := l1.2.2.2.2.2.2
  refine ⟨_, _, rfl, l1.2.2.2.2.2.1, rfl, j_vp (by omega) (by rw [lsv21]; omega), fun v21 ev21 => ?_⟩
  obtain rfl : v17 = v21 := ev17.symm.trans ((s1 _).symm.trans ev21)
  conv => whnf
  have lsv22 : j_ln H19 sc = L := l1.2.2.2.2.2.2
  refine ⟨_, _, rfl, l1.2.2.2.2.2.1, rfl, j_vp (by omega) (by rw [lsv22]; omega), fun v22 ev22 => ?_⟩
  obtain rfl : v18 = v22 := ev18.symm.trans ((s1 _).symm.trans ev22)
  conv => whnf
  obtain ⟨ρ9, w9⟩ := l1.2.1
  have eq9 : z_eq (z_d H19 m P G R Q) (z_c h x) := m1.tr lw.2.2.2
  have V := lw.2.2.1.1
  have B := lw.2.2.1.2
  refine ⟨w9.km, rfl, _, _, _, _, _, _, c_Mo_heatz w9, ⟨Nat.le_of_ble_eq_true rfl, Nat.le_of_ble_eq_true rfl, by (try dsimp only); omega, by (try dsimp only); omega⟩, fun _ _ z => False.elim z, ?_⟩
  rintro u9 H23 b
  have hq : q_touch (z_d H19 m P G R Q) v17 v18 = q_touch (z_c h x) v17 v18 := q_touch_c eq9
  obtain ⟨lw2, o2⟩ := lw.told a b.ms hq (fun _ => n_touch_c (by decide) eq9) (fun z => ⟨cV_touch (by decide) V z, cB_touch B⟩)
  obtain ⟨r9, rfl⟩ := b.2.2.2.2.2.2
  exact j_use hF (back _ _ _ lw2 (by omega) (by omega)) (And.intro rfl (And.intro rfl (And.intro rfl (And.intro rfl (And.intro rfl trivial)))))
set_option maxHeartbeats 4000000 in
set_option maxRecDepth 20000 in
theorem j_turn3 {J : j_J} {L sc x m out P G R Q cn sn : Nat} {i : Int32} {h : j_H} (hJ : j_Cl k_law j_lF j_lP j_no J) (hF : j_Fg J) (hL : L ≤ 2560) (i0 : 0 ≤ i.toInt) (i1 : i.toInt + 5 ≤ (L : Int)) (hc : cn ≤ 500000) (hs : sn ≤ 6000000) (lw : j_LW L sc x m out P G R Q h) (back : ∀ (h' : j_H) (cn' sn' : Nat), j_LW L sc x m out P G R Q h' → cn' ≤ cn + 200 → sn' ≤ sn + 2000 → J 1161 [some (j_r (some sc)), some (j_r (some x)), some (j_r (some m)), some (j_r (some out)), some (j_i i), none, none] [] h' cn' sn') : J 276 [some (j_r (some sc)), some (j_r (some x)), some (j_r (some m)), some (j_r (some out)), some (j_i i), none, none] [] h cn sn := by
  have q1 : (i + Int32.ofInt (1)).toInt = i.toInt + 1 := j_inc1 (by omega)
  have q2 : (i + Int32.ofInt (2)).toInt = i.toInt + 2 := j_i2 i0 (by omega)
  have q3 : (i + Int32.ofInt (3)).toInt = i.toInt + 3 := j_i3 i0 (by omega)
  have q4 : (i + Int32.ofInt (4)).toInt = i.toInt + 4 := j_i4 i0 (by omega)
  refine hJ [1161] 400 _ _ _ _ _ _ ?_
  conv => whnf
  have lsv25 : j_ln h sc = L := lw.1.2.2.2.2.2.2
  refine ⟨_, _, rfl, lw.1.2.2.2.2.2.1, rfl, j_vp (by omega) (by rw [lsv25]; omega), fun v25 ev25 => ?_⟩
  conv => whnf
  have lsv26 : j_ln h sc = L := lw.1.2.2.2.2.2.2
  refine ⟨_, _, rfl, lw.1.2.2.2.2.2.1, rfl, j_vp (by omega) (by rw [lsv26]; omega), fun v26 ev26 => ?_⟩
  conv => whnf
  refine ⟨rfl, _, _, _, _, _, _, c_Lw_washz lw.1.1 lw.2.1 lw.1.2.2.1, ⟨Nat.le_of_ble_eq_true rfl, Nat.le_of_ble_eq_true rfl, by (try dsimp only); omega, by (try dsimp only); omega⟩, fun _ _ z => False.elim z, ?_⟩
  rintro u9 H27 a
  obtain rfl := a.1
  obtain ⟨l1, s1, m1⟩ := lw.1.lq a
  conv => whnf
  have lsv29 : j_ln H27 sc = L := l1.2.2.2.2.2.2
  refine ⟨_, _, rfl, l1.2.2.2.2.2.1, rfl, j_vp (by omega) (by rw [lsv29]; omega), fun v29 ev29 => ?_⟩
  obtain rfl : v25 = v29 := ev25.symm.trans ((s1 _).symm.trans ev29)
  conv => whnf
  have lsv30 : j_ln H27 sc = L := l1.2.2.2.2.2.2
  refine ⟨_, _, rfl, l1.2.2.2.2.2.1, rfl, j_vp (by omega) (by rw [lsv30]; omega), fun v30 ev30 => ?_⟩
  obtain rfl : v26 = v30 := ev26.symm.trans ((s1 _).symm.trans ev30)
  conv => whnf
  obtain ⟨ρ9, w9⟩ := l1.2.1
  have eq9 : z_eq (z_d H27 m P G R Q) (z_c h x) := m1.tr lw.2.2.2
  have V := lw.2.2.1.1
  have B := lw.2.2.1.2
  refine ⟨w9.km, rfl, _, _, _, _, _, _, c_Mo_washz w9, ⟨Nat.le_of_ble_eq_true rfl, Nat.le_of_ble_eq_true rfl, by (try dsimp only); omega, by (try dsimp only); omega⟩, fun _ _ z => False.elim z, ?_⟩
  rintro u9 H31 b
  have hq : q_touch (z_d H27 m P G R Q) v25 v26 = q_touch (z_c h x) v25 v26 := q_touch_c eq9
  obtain ⟨lw2, o2⟩ := lw.told a b.ms hq (fun _ => n_touch_c (by decide) eq9) (fun z => ⟨cV_touch (by decide) V z, cB_touch B⟩)
  obtain ⟨r9, rfl⟩ := b.2.2.2.2.2.2
  exact j_use hF (back _ _ _ lw2 (by omega) (by omega)) (And.intro rfl (And.intro rfl (And.intro rfl (And.intro rfl (And.intro rfl trivial)))))
set_option maxHeartbeats 4000000 in
set_option maxRecDepth 20000 in
theorem j_turn4 {J : j_J} {L sc x m out P G R Q cn sn : Nat} {i : Int32} {h : j_H} (hJ : j_Cl k_law j_lF j_lP j_no J) (hF : j_Fg J) (hL : L ≤ 2560) (i0 : 0 ≤ i.toInt) (i1 : i.toInt + 5 ≤ (L : Int)) (hc : cn ≤ 500000) (hs : sn ≤ 6000000) (lw : j_LW L sc x m out P G R Q h) (back : ∀ (h' : j_H) (cn' sn' : Nat), j_LW L sc x m out P G R Q h' → cn' ≤ cn + 200 → sn' ≤ sn + 2000 → J 1161 [some (j_r (some sc)), some (j_r (some x)), some (j_r (some m)), some (j_r (some out)), some (j_i i), none, none] [] h' cn' sn') : J 316 [some (j_r (some sc)), some (j_r (some x)), some (j_r (some m)), some (j_r (some out)), some (j_i i), none, none] [] h cn sn := by
  have q1 : (i + Int32.ofInt (1)).toInt = i.toInt + 1 := j_inc1 (by omega)
  have q2 : (i + Int32.ofInt (2)).toInt = i.toInt + 2 := j_i2 i0 (by omega)
  have q3 : (i + Int32.ofInt (3)).toInt = i.toInt + 3 := j_i3 i0 (by omega)
  have q4 : (i + Int32.ofInt (4)).toInt = i.toInt + 4 := j_i4 i0 (by omega)
  refine hJ [1161] 400 _ _ _ _ _ _ ?_
  conv => whnf
  have lsv33 : j_ln h sc = L := lw.1.2.2.2.2.2.2
  refine ⟨_, _, rfl, lw.1.2.2.2.2.2.1, rfl, j_vp (by omega) (by rw [lsv33]; omega), fun v33 ev33 => ?_⟩
  conv => whnf
  have lsv34 : j_ln h sc = L := lw.1.2.2.2.2.2.2
  refine ⟨_, _, rfl, lw.1.2.2.2.2.2.1, rfl, j_vp (by omega) (by rw [lsv34]; omega), fun v34 ev34 => ?_⟩
  conv => whnf
  refine ⟨rfl, _, _, _, _, _, _, c_Lw_pacez lw.1.1 lw.2.1 lw.2.2.1.1 lw.1.2.2.1, ⟨Nat.le_of_ble_eq_true rfl, Nat.le_of_ble_eq_true rfl, by (try dsimp only); omega, by (try dsimp only); omega⟩, fun _ _ z => False.elim z, ?_⟩
  rintro u9 H35 a
  obtain rfl := a.1
  obtain ⟨l1, s1, m1⟩ := lw.1.lq a
  conv => whnf
  have lsv37 : j_ln H35 sc = L := l1.2.2.2.2.2.2
  refine ⟨_, _, rfl, l1.2.2.2.2.2.1, rfl, j_vp (by omega) (by rw [lsv37]; omega), fun v37 ev37 => ?_⟩
  obtain rfl : v33 = v37 := ev33.symm.trans ((s1 _).symm.trans ev37)
  conv => whnf
  have lsv38 : j_ln H35 sc = L := l1.2.2.2.2.2.2
  refine ⟨_, _, rfl, l1.2.2.2.2.2.1, rfl, j_vp (by omega) (by rw [lsv38]; omega), fun v38 ev38 => ?_⟩
  obtain rfl : v34 = v38 := ev34.symm.trans ((s1 _).symm.trans ev38)
  conv => whnf
  obtain ⟨ρ9, w9⟩ := l1.2.1
  have eq9 : z_eq (z_d H35 m P G R Q) (z_c h x) := m1.tr lw.2.2.2
  have V := lw.2.2.1.1
  have B := lw.2.2.1.2
  refine ⟨w9.km, rfl, _, _, _, _, _, _, c_Mo_pacez w9, ⟨Nat.le_of_ble_eq_true rfl, Nat.le_of_ble_eq_true rfl, by (try dsimp only); omega, by (try dsimp only); omega⟩, fun _ _ z => False.elim z, ?_⟩
  rintro u9 H39 b
  have hq : q_pace v33 v34 = q_pace v33 v34 := rfl
  obtain ⟨lw2, o2⟩ := lw.told a b.ms hq (fun _ => n_pacez_c eq9) (fun z => ⟨z_V.pace V (q_pace_z z), cB_pace B⟩)
  obtain ⟨r9, rfl⟩ := b.2.2.2.2.2.2
  exact j_use hF (back _ _ _ lw2 (by omega) (by omega)) (And.intro rfl (And.intro rfl (And.intro rfl (And.intro rfl (And.intro rfl trivial)))))
set_option maxHeartbeats 4000000 in
set_option maxRecDepth 20000 in
theorem j_turn5 {J : j_J} {L sc x m out P G R Q cn sn : Nat} {i : Int32} {h : j_H} (hJ : j_Cl k_law j_lF j_lP j_no J) (hF : j_Fg J) (hL : L ≤ 2560) (i0 : 0 ≤ i.toInt) (i1 : i.toInt + 5 ≤ (L : Int)) (hc : cn ≤ 500000) (hs : sn ≤ 6000000) (lw : j_LW L sc x m out P G R Q h) (back : ∀ (h' : j_H) (cn' sn' : Nat), j_LW L sc x m out P G R Q h' → cn' ≤ cn + 200 → sn' ≤ sn + 2000 → J 1161 [some (j_r (some sc)), some (j_r (some x)), some (j_r (some m)), some (j_r (some out)), some (j_i i), none, none] [] h' cn' sn') : J 356 [some (j_r (some sc)), some (j_r (some x)), some (j_r (some m)), some (j_r (some out)), some (j_i i), none, none] [] h cn sn := by
  have q1 : (i + Int32.ofInt (1)).toInt = i.toInt + 1 := j_inc1 (by omega)
  have q2 : (i + Int32.ofInt (2)).toInt = i.toInt + 2 := j_i2 i0 (by omega)
  have q3 : (i + Int32.ofInt (3)).toInt = i.toInt + 3 := j_i3 i0 (by omega)
  have q4 : (i + Int32.ofInt (4)).toInt = i.toInt + 4 := j_i4 i0 (by omega)
  refine hJ [1161] 400 _ _ _ _ _ _ ?_
  conv => whnf
  have lsv41 : j_ln h sc = L := lw.1.2.2.2.2.2.2
  refine ⟨_, _, rfl, lw.1.2.2.2.2.2.1, rfl, j_vp (by omega) (by rw [lsv41]; omega), fun v41 ev41 => ?_⟩
  conv => whnf
  refine ⟨rfl, _, _, _, _, _, _, c_Lw_slipz lw.1.1 lw.2.1 lw.1.2.2.1, ⟨Nat.le_of_ble_eq_true rfl, Nat.le_of_ble_eq_true rfl, by (try dsimp only); omega, by (try dsimp only); omega⟩, fun _ _ z => False.elim z, ?_⟩
  rintro u9 H42 a
  obtain rfl := a.1
  obtain ⟨l1, s1, m1⟩ := lw.1.lq a
  conv => whnf
  have lsv44 : j_ln H42 sc = L := l1.2.2.2.2.2.2
  refine ⟨_, _, rfl, l1.2.2.2.2.2.1, rfl, j_vp (by omega) (by rw [lsv44]; omega), fun v44 ev44 => ?_⟩
  obtain rfl : v41 = v44 := ev41.symm.trans ((s1 _).symm.trans ev44)
  conv => whnf
  obtain ⟨ρ9, w9⟩ := l1.2.1
  have eq9 : z_eq (z_d H42 m P G R Q) (z_c h x) := m1.tr lw.2.2.2
  have V := lw.2.2.1.1
  have B := lw.2.2.1.2
  refine ⟨w9.km, rfl, _, _, _, _, _, _, c_Mo_slipz w9, ⟨Nat.le_of_ble_eq_true rfl, Nat.le_of_ble_eq_true rfl, by (try dsimp only); omega, by (try dsimp only); omega⟩, fun _ _ z => False.elim z, ?_⟩
  rintro u9 H45 b
  have hq : q_slip v41 = q_slip v41 := rfl
  obtain ⟨lw2, o2⟩ := lw.told a b.ms hq (fun _ => n_slipz_c eq9) (fun z => ⟨z_V.slip V (q_slip_z z), cB_slip B⟩)
  obtain ⟨r9, rfl⟩ := b.2.2.2.2.2.2
  exact j_use hF (back _ _ _ lw2 (by omega) (by omega)) (And.intro rfl (And.intro rfl (And.intro rfl (And.intro rfl (And.intro rfl trivial)))))
set_option maxHeartbeats 4000000 in
set_option maxRecDepth 20000 in
theorem j_turn6 {J : j_J} {L sc x m out P G R Q cn sn : Nat} {i : Int32} {h : j_H} (hJ : j_Cl k_law j_lF j_lP j_no J) (hF : j_Fg J) (hL : L ≤ 2560) (i0 : 0 ≤ i.toInt) (i1 : i.toInt + 5 ≤ (L : Int)) (hc : cn ≤ 500000) (hs : sn ≤ 6000000) (lw : j_LW L sc x m out P G R Q h) (back : ∀ (h' : j_H) (cn' sn' : Nat), j_LW L sc x m out P G R Q h' → cn' ≤ cn + 200 → sn' ≤ sn + 2000 → J 1161 [some (j_r (some sc)), some (j_r (some x)), some (j_r (some m)), some (j_r (some out)), some (j_i i), none, none] [] h' cn' sn') : J 384 [some (j_r (some sc)), some (j_r (some x)), some (j_r (some m)), some (j_r (some out)), some (j_i i), none, none] [] h cn sn := by
  have q1 : (i + Int32.ofInt (1)).toInt = i.toInt + 1 := j_inc1 (by omega)
  have q2 : (i + Int32.ofInt (2)).toInt = i.toInt + 2 := j_i2 i0 (by omega)
  have q3 : (i + Int32.ofInt (3)).toInt = i.toInt + 3 := j_i3 i0 (by omega)
  have q4 : (i + Int32.ofInt (4)).toInt = i.toInt + 4 := j_i4 i0 (by omega)
  refine hJ [1161] 400 _ _ _ _ _ _ ?_
  conv => whnf
  have lsv47 : j_ln h sc = L := lw.1.2.2.2.2.2.2
  refine ⟨_, _, rfl, lw.1.2.2.2.2.2.1, rfl, j_vp (by omega) (by rw [lsv47]; omega), fun v47 ev47 => ?_⟩
  conv => whnf
  have lsv48 : j_ln h sc = L := lw.1.2.2.2.2.2.2
  refine ⟨_, _, rfl, lw.1.2.2.2.2.2.1, rfl, j_vp (by omega) (by rw [lsv48]; omega), fun v48 ev48 => ?_⟩
  conv => whnf
  have lsv49 : j_ln h sc = L := lw.1.2.2.2.2.2.2
  refine ⟨_, _, rfl, lw.1.2.2.2.2.2.1, rfl, j_vp (by omega) (by rw [lsv49]; omega), fun v49 ev49 => ?_⟩
  conv => whnf
  have lsv50 : j_ln h sc = L := lw.1.2.2.2.2.2.2
  refine ⟨_, _, rfl, lw.1.2.2.2.2.2.1, rfl, j_vp (by omega) (by rw [lsv50]; omega), fun v50 ev50 => ?_⟩
  conv => whnf
  refine ⟨rfl, _, _, _, _, _, _, c_Lw_runz lw.1.1 lw.2.1 lw.2.2.1.1 lw.1.2.2.1, ⟨Nat.le_of_ble_eq_true rfl, Nat.le_of_ble_eq_true rfl, by (try dsimp only); omega, by (try dsimp only); omega⟩, fun _ _ z => False.elim z, ?_⟩
  rintro u9 H51 a
  obtain rfl := a.1
  obtain ⟨l1, s1, m1⟩ := lw.1.lq a
  conv => whnf
  have lsv53 : j_ln H51 sc = L := l1.2.2.2.2.2.2
  refine ⟨_, _, rfl, l1.2.2.2.2.2.1, rfl, j_vp (by omega) (by rw [lsv53]; omega), fun v53 ev53 => ?_⟩
  obtain rfl : v47 = v53 := ev47.symm.trans ((s1 _).symm.trans ev53)
  conv => whnf
  have lsv54 : j_ln H51 sc = L := l1.2.2.2.2.2.2
  refine ⟨_, _, rfl, l1.2.2.2.2.2.1, rfl, j_vp (by omega) (by rw [lsv54]; omega), fun v54 ev54 => ?_⟩
  obtain rfl : v48 = v54 := ev48.symm.trans ((s1 _).symm.trans ev54)
  conv => whnf
  have lsv55 : j_ln H51 sc = L := l1.2.2.2.2.2.2
  refine ⟨_, _, rfl, l1.2.2.2.2.2.1, rfl, j_vp (by omega) (by rw [lsv55]; omega), fun v55 ev55 => ?_⟩
  obtain rfl : v49 = v55 := ev49.symm.trans ((s1 _).symm.trans ev55)
  conv => whnf
  have lsv56 : j_ln H51 sc = L := l1.2.2.2.2.2.2
  refine ⟨_, _, rfl, l1.2.2.2.2.2.1, rfl, j_vp (by omega) (by rw [lsv56]; omega), fun v56 ev56 => ?_⟩
  obtain rfl : v50 = v56 := ev50.symm.trans ((s1 _).symm.trans ev56)
  conv => whnf
  obtain ⟨ρ9, w9⟩ := l1.2.1
  have eq9 : z_eq (z_d H51 m P G R Q) (z_c h x) := m1.tr lw.2.2.2
  have V := lw.2.2.1.1
  have B := lw.2.2.1.2
  refine ⟨w9.km, rfl, _, _, _, _, _, _, c_Mo_runz w9, ⟨Nat.le_of_ble_eq_true rfl, Nat.le_of_ble_eq_true rfl, by (try dsimp only); omega, by (try dsimp only); omega⟩, fun _ _ z => False.elim z, ?_⟩
  rintro u9 H57 b
  have hq : q_run (j_am H51 m P G R) v47 v48 v49 v50 = q_run (z_cn h x) v47 v48 v49 v50 := q_run_c (z_amc eq9)
  obtain ⟨lw2, o2⟩ := lw.told a b.ms hq (fun z => (cN_run eq9.sy (by rw [← eq9.1 1 (by decide)]; exact w9.b.2.1.2) z).sy) (fun z => ⟨cV_run V z, cB_run B z⟩)
  obtain ⟨r9, rfl⟩ := b.2.2.2.2.2.2
  exact j_use hF (back _ _ _ lw2 (by omega) (by omega)) (And.intro rfl (And.intro rfl (And.intro rfl (And.intro rfl (And.intro rfl trivial)))))
set_option maxHeartbeats 4000000 in
set_option maxRecDepth 20000 in
theorem j_turn7 {J : j_J} {L sc x m out P G R Q cn sn : Nat} {i : Int32} {h : j_H} (hJ : j_Cl k_law j_lF j_lP j_no J) (hF : j_Fg J) (hL : L ≤ 2560) (i0 : 0 ≤ i.toInt) (i1 : i.toInt + 5 ≤ (L : Int)) (hc : cn ≤ 500000) (hs : sn ≤ 6000000) (lw : j_LW L sc x m out P G R Q h) (back : ∀ (h' : j_H) (cn' sn' : Nat), j_LW L sc x m out P G R Q h' → cn' ≤ cn + 200 → sn' ≤ sn + 2000 → J 1161 [some (j_r (some sc)), some (j_r (some x)), some (j_r (some m)), some (j_r (some out)), some (j_i i), none, none] [] h' cn' sn') : J 448 [some (j_r (some sc)), some (j_r (some x)), some (j_r (some m)), some (j_r (some out)), some (j_i i), none, none] [] h cn sn := by
  have q1 : (i + Int32.ofInt (1)).toInt = i.toInt + 1 := j_inc1 (by omega)
  have q2 : (i + Int32.ofInt (2)).toInt = i.toInt + 2 := j_i2 i0 (by omega)
  have q3 : (i + Int32.ofInt (3)).toInt = i.toInt + 3 := j_i3 i0 (by omega)
  have q4 : (i + Int32.ofInt (4)).toInt = i.toInt + 4 := j_i4 i0 (by omega)
  refine hJ [1161] 400 _ _ _ _ _ _ ?_
  conv => whnf
  have lsv59 : j_ln h sc = L := lw.1.2.2.2.2.2.2
  refine ⟨_, _, rfl, lw.1.2.2.2.2.2.1, rfl, j_vp (by omega) (by rw [lsv59]; omega), fun v59 ev59 => ?_⟩
  conv => whnf
  refine ⟨rfl, _, _, _, _, _, _, c_Lw_withdrawz lw.1.1 lw.2.1 lw.1.2.2.1, ⟨Nat.le_of_ble_eq_true rfl, Nat.le_of_ble_eq_true rfl, by (try dsimp only); omega, by (try dsimp only); omega⟩, fun _ _ z => False.elim z, ?_⟩
  rintro u9 H60 a
  obtain rfl := a.1
  obtain ⟨l1, s1, m1⟩ := lw.1.lq a
  conv => whnf
  have lsv62 : j_ln H60 sc = L := l1.2.2.2.2.2.2
  refine ⟨_, _, rfl, l1.2.2.2.2.2.1, rfl, j_vp (by omega) (by rw [lsv62]; omega), fun v62 ev62 => ?_⟩
  obtain rfl : v59 = v62 := ev59.symm.trans ((s1 _).symm.trans ev62)
  conv => whnf
  obtain ⟨ρ9, w9⟩ := l1.2.1
  have eq9 : z_eq (z_d H60 m P G R Q) (z_c h x) := m1.tr lw.2.2.2
  have V := lw.2.2.1.1
  have B := lw.2.2.1.2
  refine ⟨w9.km, rfl, _, _, _, _, _, _, c_Mo_withdrawz w9, ⟨Nat.le_of_ble_eq_true rfl, Nat.le_of_ble_eq_true rfl, by (try dsimp only); omega, by (try dsimp only); omega⟩, fun _ _ z => False.elim z, ?_⟩
  rintro u9 H63 b
  have hq : q_withdraw (z_d H60 m P G R Q) v59 = q_withdraw (z_c h x) v59 := q_withdraw_c eq9
  obtain ⟨lw2, o2⟩ := lw.told a b.ms hq (fun _ => n_withdraw_c eq9) (fun z => ⟨z_V.withdraw V, cB_withdraw B⟩)
  obtain ⟨r9, rfl⟩ := b.2.2.2.2.2.2
  exact j_use hF (back _ _ _ lw2 (by omega) (by omega)) (And.intro rfl (And.intro rfl (And.intro rfl (And.intro rfl (And.intro rfl trivial)))))
set_option maxHeartbeats 4000000 in
set_option maxRecDepth 20000 in
theorem j_turn8 {J : j_J} {L sc x m out P G R Q cn sn : Nat} {i : Int32} {h : j_H} (hJ : j_Cl k_law j_lF j_lP j_no J) (hF : j_Fg J) (hL : L ≤ 2560) (i0 : 0 ≤ i.toInt) (i1 : i.toInt + 5 ≤ (L : Int)) (hc : cn ≤ 500000) (hs : sn ≤ 6000000) (lw : j_LW L sc x m out P G R Q h) (back : ∀ (h' : j_H) (cn' sn' : Nat), j_LW L sc x m out P G R Q h' → cn' ≤ cn + 200 → sn' ≤ sn + 2000 → J 1161 [some (j_r (some sc)), some (j_r (some x)), some (j_r (some m)), some (j_r (some out)), some (j_i i), none, none] [] h' cn' sn') : J 476 [some (j_r (some sc)), some (j_r (some x)), some (j_r (some m)), some (j_r (some out)), some (j_i i), none, none] [] h cn sn := by
  have q1 : (i + Int32.ofInt (1)).toInt = i.toInt + 1 := j_inc1 (by omega)
  have q2 : (i + Int32.ofInt (2)).toInt = i.toInt + 2 := j_i2 i0 (by omega)
  have q3 : (i + Int32.ofInt (3)).toInt = i.toInt + 3 := j_i3 i0 (by omega)
  have q4 : (i + Int32.ofInt (4)).toInt = i.toInt + 4 := j_i4 i0 (by omega)
  refine hJ [1161] 400 _ _ _ _ _ _ ?_
  conv => whnf
  have lsv65 : j_ln h sc = L := lw.1.2.2.2.2.2.2
  refine ⟨_, _, rfl, lw.1.2.2.2.2.2.1, rfl, j_vp (by omega) (by rw [lsv65]; omega), fun v65 ev65 => ?_⟩
  conv => whnf
  have lsv66 : j_ln h sc = L := lw.1.2.2.2.2.2.2
  refine ⟨_, _, rfl, lw.1.2.2.2.2.2.1, rfl, j_vp (by omega) (by rw [lsv66]; omega), fun v66 ev66 => ?_⟩
  conv => whnf
  refine ⟨rfl, _, _, _, _, _, _, c_Lw_swapz lw.1.1 lw.2.1 lw.1.2.2.1, ⟨Nat.le_of_ble_eq_true rfl, Nat.le_of_ble_eq_true rfl, by (try dsimp only); omega, by (try dsimp only); omega⟩, fun _ _ z => False.elim z, ?_⟩
  rintro u9 H67 ⟨A9, a⟩
  obtain rfl := a.1
  obtain ⟨l1, s1, m1⟩ := lw.1.lq a
  conv => whnf
  have lsv69 : j_ln H67 sc = L := l1.2.2.2.2.2.2
  refine ⟨_, _, rfl, l1.2.2.2.2.2.1, rfl, j_vp (by omega) (by rw [lsv69]; omega), fun v69 ev69 => ?_⟩
  obtain rfl : v65 = v69 := ev65.symm.trans ((s1 _).symm.trans ev69)
  conv => whnf
  have lsv70 : j_ln H67 sc = L := l1.2.2.2.2.2.2
  refine ⟨_, _, rfl, l1.2.2.2.2.2.1, rfl, j_vp (by omega) (by rw [lsv70]; omega), fun v70 ev70 => ?_⟩
  obtain rfl : v66 = v70 := ev66.symm.trans ((s1 _).symm.trans ev70)
  conv => whnf
  obtain ⟨ρ9, w9⟩ := l1.2.1
  have eq9 : z_eq (z_d H67 m P G R Q) (z_c h x) := m1.tr lw.2.2.2
  have V := lw.2.2.1.1
  have B := lw.2.2.1.2
  refine ⟨w9.km, rfl, _, _, _, _, _, _, c_Mo_swapz w9, ⟨Nat.le_of_ble_eq_true rfl, Nat.le_of_ble_eq_true rfl, by (try dsimp only); omega, by (try dsimp only); omega⟩, fun _ _ z => False.elim z, ?_⟩
  rintro u9 H71 ⟨b, r9, rfl⟩
  have hq : q_swap (z_d H67 m P G R Q) v65 v66 = q_swap (z_c h x) v65 v66 := q_swap_c eq9
  obtain ⟨lw2, o2⟩ := lw.told a b hq (fun z => (cN_swap eq9.sy z).sy) (fun z => ⟨z_V.swap V, cB_swap B⟩)
  exact j_use hF (back _ _ _ lw2 (by omega) (by omega)) (And.intro rfl (And.intro rfl (And.intro rfl (And.intro rfl (And.intro rfl trivial)))))
set_option maxHeartbeats 4000000 in
set_option maxRecDepth 20000 in
theorem j_turn9 {J : j_J} {L sc x m out P G R Q cn sn : Nat} {i : Int32} {h : j_H} (hJ : j_Cl k_law j_lF j_lP j_no J) (hF : j_Fg J) (hL : L ≤ 2560) (i0 : 0 ≤ i.toInt) (i1 : i.toInt + 5 ≤ (L : Int)) (hc : cn ≤ 500000) (hs : sn ≤ 6000000) (lw : j_LW L sc x m out P G R Q h) (back : ∀ (h' : j_H) (cn' sn' : Nat), j_LW L sc x m out P G R Q h' → cn' ≤ cn + 200 → sn' ≤ sn + 2000 → J 1161 [some (j_r (some sc)), some (j_r (some x)), some (j_r (some m)), some (j_r (some out)), some (j_i i), none, none] [] h' cn' sn') : J 516 [some (j_r (some sc)), some (j_r (some x)), some (j_r (some m)), some (j_r (some out)), some (j_i i), none, none] [] h cn sn := by
  have q1 : (i + Int32.ofInt (1)).toInt = i.toInt + 1 := j_inc1 (by omega)
  have q2 : (i + Int32.ofInt (2)).toInt = i.toInt + 2 := j_i2 i0 (by omega)
  have q3 : (i + Int32.ofInt (3)).toInt = i.toInt + 3 := j_i3 i0 (by omega)
  have q4 : (i + Int32.ofInt (4)).toInt = i.toInt + 4 := j_i4 i0 (by omega)
  refine hJ [1161] 400 _ _ _ _ _ _ ?_
  conv => whnf
  have lsv73 : j_ln h sc = L := lw.1.2.2.2.2.2.2
  refine ⟨_, _, rfl, lw.1.2.2.2.2.2.1, rfl, j_vp (by omega) (by rw [lsv73]; omega), fun v73 ev73 => ?_⟩
  conv => whnf
  have lsv74 : j_ln h sc = L := lw.1.2.2.2.2.2.2
  refine ⟨_, _, rfl, lw.1.2.2.2.2.2.1, rfl, j_vp (by omega) (by rw [lsv74]; omega), fun v74 ev74 => ?_⟩
  conv => whnf
  refine ⟨rfl, _, _, _, _, _, _, c_Lw_printz lw.1.1 lw.2.1 lw.1.2.2.1, ⟨Nat.le_of_ble_eq_true rfl, Nat.le_of_ble_eq_true rfl, by (try dsimp only); omega, by (try dsimp only); omega⟩, fun _ _ z => False.elim z, ?_⟩
  rintro u9 H75 a
  obtain rfl := a.1
  obtain ⟨l1, s1, m1⟩ := lw.1.lq a
  conv => whnf
  have lsv77 : j_ln H75 sc = L := l1.2.2.2.2.2.2
  refine ⟨_, _, rfl, l1.2.2.2.2.2.1, rfl, j_vp (by omega) (by rw [lsv77]; omega), fun v77 ev77 => ?_⟩
  obtain rfl : v73 = v77 := ev73.symm.trans ((s1 _).symm.trans ev77)
  conv => whnf
  have lsv78 : j_ln H75 sc = L := l1.2.2.2.2.2.2
  refine ⟨_, _, rfl, l1.2.2.2.2.2.1, rfl, j_vp (by omega) (by rw [lsv78]; omega), fun v78 ev78 => ?_⟩
  obtain rfl : v74 = v78 := ev74.symm.trans ((s1 _).symm.trans ev78)
  conv => whnf
  obtain ⟨ρ9, w9⟩ := l1.2.1
  have eq9 : z_eq (z_d H75 m P G R Q) (z_c h x) := m1.tr lw.2.2.2
  have V := lw.2.2.1.1
  have B := lw.2.2.1.2
  refine ⟨w9.km, rfl, _, _, _, _, _, _, c_Mo_printz w9, ⟨Nat.le_of_ble_eq_true rfl, Nat.le_of_ble_eq_true rfl, by (try dsimp only); omega, by (try dsimp only); omega⟩, fun _ _ z => False.elim z, ?_⟩
  rintro u9 H79 b
  have hq : q_print (z_d H75 m P G R Q) v73 v74 = q_print (z_c h x) v73 v74 := q_print_c eq9 w9.Pp
  obtain ⟨lw2, o2⟩ := lw.told a b.ms hq (fun z => (cN_print eq9.sy (by rw [← eq9.1 2 (by decide)]; exact w9.b.2.2.2) z).sy) (fun z => ⟨z_V.print V, cB_print B⟩)
  obtain ⟨r9, rfl⟩ := b.2.2.2.2.2.2
  conv => whnf
  have t2 := b.2.2.1
  rw [hq] at t2
  obtain ⟨ρ8, w8⟩ := lw2.1.2.1
  refine ⟨w8.km, rfl, _, _, _, _, _, _, c_Mo_thrownx w8.km, ⟨Nat.le_of_ble_eq_true rfl, Nat.le_of_ble_eq_true rfl, by (try dsimp only); omega, by (try dsimp only); omega⟩, fun _ _ z => False.elim z, ?_⟩
  rintro v7 h7 ⟨rfl, e7⟩
  obtain rfl : H79 = h7 := e7.symm
  rw [t2]
  conv => whnf
  refine ⟨fun _ => ?_, fun c => absurd rfl c⟩
  conv => whnf
  refine ⟨fun _ => ?_, fun c => ?_⟩
  · exact j_use hF (back _ _ _ lw2 (by omega) (by omega)) (And.intro rfl (And.intro rfl (And.intro rfl (And.intro rfl (And.intro rfl trivial)))))
  have c : ¬ ¬ (Int32.ofInt (q_print (z_c h x) v73 v74)).toInt = 0 := c
  have z : q_print (z_c h x) v73 v74 = 0 := j_nz q_print_n (Decidable.not_not.mp c)
  obtain rfl : r9 = (z_cn h x) 2 := (Sum.inl.inj (Option.some.inj (b.2.2.2.2.2.1 (hq.trans z)))).trans (eq9.1 2 (by decide))
  conv => whnf
  refine ⟨_, rfl, lw2.1.2.2.1, fun y ey => ?_⟩
  obtain rfl : y = ((z_cn h x) 2).toInt64 := ey.symm.trans (o2.trans (a.2.2.2.2 z))
  conv => whnf
  refine ⟨fun _ => ?_, fun c => absurd (j_cmp0 _) c⟩
  exact j_use hF (back _ _ _ lw2 (by omega) (by omega)) (And.intro rfl (And.intro rfl (And.intro rfl (And.intro rfl (And.intro rfl trivial)))))
set_option maxHeartbeats 4000000 in
set_option maxRecDepth 20000 in
theorem j_turn10 {J : j_J} {L sc x m out P G R Q cn sn : Nat} {i : Int32} {h : j_H} (hJ : j_Cl k_law j_lF j_lP j_no J) (hF : j_Fg J) (hL : L ≤ 2560) (i0 : 0 ≤ i.toInt) (i1 : i.toInt + 5 ≤ (L : Int)) (hc : cn ≤ 500000) (hs : sn ≤ 6000000) (lw : j_LW L sc x m out P G R Q h) (back : ∀ (h' : j_H) (cn' sn' : Nat), j_LW L sc x m out P G R Q h' → cn' ≤ cn + 200 → sn' ≤ sn + 2000 → J 1161 [some (j_r (some sc)), some (j_r (some x)), some (j_r (some m)), some (j_r (some out)), some (j_i i), none, none] [] h' cn' sn') : J 585 [some (j_r (some sc)), some (j_r (some x)), some (j_r (some m)), some (j_r (some out)), some (j_i i), none, none] [] h cn sn := by
  have q1 : (i + Int32.ofInt (1)).toInt = i.toInt + 1 := j_inc1 (by omega)
  have q2 : (i + Int32.ofInt (2)).toInt = i.toInt + 2 := j_i2 i0 (by omega)
  have q3 : (i + Int32.ofInt (3)).toInt = i.toInt + 3 := j_i3 i0 (by omega)
  have q4 : (i + Int32.ofInt (4)).toInt = i.toInt + 4 := j_i4 i0 (by omega)
  refine hJ [1161] 400 _ _ _ _ _ _ ?_
  conv => whnf
  have lsv83 : j_ln h sc = L := lw.1.2.2.2.2.2.2
  refine ⟨_, _, rfl, lw.1.2.2.2.2.2.1, rfl, j_vp (by omega) (by rw [lsv83]; omega), fun v83 ev83 => ?_⟩
  conv => whnf
  have lsv84 : j_ln h sc = L := lw.1.2.2.2.2.2.2
  refine ⟨_, _, rfl, lw.1.2.2.2.2.2.1, rfl, j_vp (by omega) (by rw [lsv84]; omega), fun v84 ev84 => ?_⟩
  conv => whnf
  refine ⟨rfl, _, _, _, _, _, _, c_Lw_ofGrainx lw.1.1 lw.2.1 lw.1.2.2.1, ⟨Nat.le_of_ble_eq_true rfl, Nat.le_of_ble_eq_true rfl, by (try dsimp only); omega, by (try dsimp only); omega⟩, fun _ _ z => False.elim z, ?_⟩
  rintro u9 H85 a
  obtain rfl := a.1
  obtain ⟨l1, s1, m1⟩ := lw.1.lq a
  conv => whnf
  have lsv87 : j_ln H85 sc = L := l1.2.2.2.2.2.2
  refine ⟨_, _, rfl, l1.2.2.2.2.2.1, rfl, j_vp (by omega) (by rw [lsv87]; omega), fun v87 ev87 => ?_⟩
  obtain rfl : v83 = v87 := ev83.symm.trans ((s1 _).symm.trans ev87)
  conv => whnf
  have lsv88 : j_ln H85 sc = L := l1.2.2.2.2.2.2
  refine ⟨_, _, rfl, l1.2.2.2.2.2.1, rfl, j_vp (by omega) (by rw [lsv88]; omega), fun v88 ev88 => ?_⟩
  obtain rfl : v84 = v88 := ev84.symm.trans ((s1 _).symm.trans ev88)
  conv => whnf
  obtain ⟨ρ9, w9⟩ := l1.2.1
  have eq9 : z_eq (z_d H85 m P G R Q) (z_c h x) := m1.tr lw.2.2.2
  have V := lw.2.2.1.1
  have B := lw.2.2.1.2
  refine ⟨w9.km, rfl, _, _, _, _, _, _, c_Mo_ofGrainz w9, ⟨Nat.le_of_ble_eq_true rfl, Nat.le_of_ble_eq_true rfl, by (try dsimp only); omega, by (try dsimp only); omega⟩, fun _ _ z => False.elim z, ?_⟩
  rintro u9 H89 b
  have hq : q_ofGrain (z_d H85 m P G R Q) v83 v84 = q_ofGrain (z_c h x) v83 v84 := q_ofGrain_c eq9
  obtain ⟨lw2, o2⟩ := lw.told a b.ms hq (fun _ => eq9) (fun _ => ⟨V, B⟩)
  obtain ⟨r9, rfl⟩ := b.2.2.2.2.2.2
  exact j_use hF (back _ _ _ lw2 (by omega) (by omega)) (And.intro rfl (And.intro rfl (And.intro rfl (And.intro rfl (And.intro rfl trivial)))))
set_option maxHeartbeats 4000000 in
set_option maxRecDepth 20000 in
theorem j_turn11 {J : j_J} {L sc x m out P G R Q cn sn : Nat} {i : Int32} {h : j_H} (hJ : j_Cl k_law j_lF j_lP j_no J) (hF : j_Fg J) (hL : L ≤ 2560) (i0 : 0 ≤ i.toInt) (i1 : i.toInt + 5 ≤ (L : Int)) (hc : cn ≤ 500000) (hs : sn ≤ 6000000) (lw : j_LW L sc x m out P G R Q h) (back : ∀ (h' : j_H) (cn' sn' : Nat), j_LW L sc x m out P G R Q h' → cn' ≤ cn + 200 → sn' ≤ sn + 2000 → J 1161 [some (j_r (some sc)), some (j_r (some x)), some (j_r (some m)), some (j_r (some out)), some (j_i i), none, none] [] h' cn' sn') : J 625 [some (j_r (some sc)), some (j_r (some x)), some (j_r (some m)), some (j_r (some out)), some (j_i i), none, none] [] h cn sn := by
  have q1 : (i + Int32.ofInt (1)).toInt = i.toInt + 1 := j_inc1 (by omega)
  have q2 : (i + Int32.ofInt (2)).toInt = i.toInt + 2 := j_i2 i0 (by omega)
  have q3 : (i + Int32.ofInt (3)).toInt = i.toInt + 3 := j_i3 i0 (by omega)
  have q4 : (i + Int32.ofInt (4)).toInt = i.toInt + 4 := j_i4 i0 (by omega)
  refine hJ [1161] 400 _ _ _ _ _ _ ?_
  conv => whnf
  have lsv91 : j_ln h sc = L := lw.1.2.2.2.2.2.2
  refine ⟨_, _, rfl, lw.1.2.2.2.2.2.1, rfl, j_vp (by omega) (by rw [lsv91]; omega), fun v91 ev91 => ?_⟩
  conv => whnf
  have lsv92 : j_ln h sc = L := lw.1.2.2.2.2.2.2
  refine ⟨_, _, rfl, lw.1.2.2.2.2.2.1, rfl, j_vp (by omega) (by rw [lsv92]; omega), fun v92 ev92 => ?_⟩
  conv => whnf
  refine ⟨rfl, _, _, _, _, _, _, c_Lw_ofRunx lw.1.1 lw.2.1 lw.1.2.2.1, ⟨Nat.le_of_ble_eq_true rfl, Nat.le_of_ble_eq_true rfl, by (try dsimp only); omega, by (try dsimp only); omega⟩, fun _ _ z => False.elim z, ?_⟩
  rintro u9 H93 a
  obtain rfl := a.1
  obtain ⟨l1, s1, m1⟩ := lw.1.lq a
  conv => whnf
  have lsv95 : j_ln H93 sc = L := l1.2.2.2.2.2.2
  refine ⟨_, _, rfl, l1.2.2.2.2.2.1, rfl, j_vp (by omega) (by rw [lsv95]; omega), fun v95 ev95 => ?_⟩
  obtain rfl : v91 = v95 := ev91.symm.trans ((s1 _).symm.trans ev95)
  conv => whnf
  have lsv96 : j_ln H93 sc = L := l1.2.2.2.2.2.2
  refine ⟨_, _, rfl, l1.2.2.2.2.2.1, rfl, j_vp (by omega) (by rw [lsv96]; omega), fun v96 ev96 => ?_⟩
  obtain rfl : v92 = v96 := ev92.symm.trans ((s1 _).symm.trans ev96)
  conv => whnf
  obtain ⟨ρ9, w9⟩ := l1.2.1
  have eq9 : z_eq (z_d H93 m P G R Q) (z_c h x) := m1.tr lw.2.2.2
  have V := lw.2.2.1.1
  have B := lw.2.2.1.2
  refine ⟨w9.km, rfl, _, _, _, _, _, _, c_Mo_ofRunz w9 (V.eq eq9), ⟨Nat.le_of_ble_eq_true rfl, Nat.le_of_ble_eq_true rfl, by (try dsimp only); omega, by (try dsimp only); omega⟩, fun _ _ z => False.elim z, ?_⟩
  rintro u9 H97 b
  have hq : q_ofRun (z_d H93 m P G R Q) v91 v92 = q_ofRun (z_c h x) v91 v92 := q_ofRun_c eq9
  obtain ⟨lw2, o2⟩ := lw.told a b.ms hq (fun _ => eq9) (fun _ => ⟨V, B⟩)
  obtain ⟨r9, rfl⟩ := b.2.2.2.2.2.2
  exact j_use hF (back _ _ _ lw2 (by omega) (by omega)) (And.intro rfl (And.intro rfl (And.intro rfl (And.intro rfl (And.intro rfl trivial)))))
set_option maxHeartbeats 4000000 in
set_option maxRecDepth 20000 in
theorem j_turn12 {J : j_J} {L sc x m out P G R Q cn sn : Nat} {i : Int32} {h : j_H} (hJ : j_Cl k_law j_lF j_lP j_no J) (hF : j_Fg J) (hL : L ≤ 2560) (i0 : 0 ≤ i.toInt) (i1 : i.toInt + 5 ≤ (L : Int)) (hc : cn ≤ 500000) (hs : sn ≤ 6000000) (lw : j_LW L sc x m out P G R Q h) (back : ∀ (h' : j_H) (cn' sn' : Nat), j_LW L sc x m out P G R Q h' → cn' ≤ cn + 200 → sn' ≤ sn + 2000 → J 1161 [some (j_r (some sc)), some (j_r (some x)), some (j_r (some m)), some (j_r (some out)), some (j_i i), none, none] [] h' cn' sn') : J 665 [some (j_r (some sc)), some (j_r (some x)), some (j_r (some m)), some (j_r (some out)), some (j_i i), none, none] [] h cn sn := by
  have q1 : (i + Int32.ofInt (1)).toInt = i.toInt + 1 := j_inc1 (by omega)
  have q2 : (i + Int32.ofInt (2)).toInt = i.toInt + 2 := j_i2 i0 (by omega)
  have q3 : (i + Int32.ofInt (3)).toInt = i.toInt + 3 := j_i3 i0 (by omega)
  have q4 : (i + Int32.ofInt (4)).toInt = i.toInt + 4 := j_i4 i0 (by omega)
  refine hJ [1161] 400 _ _ _ _ _ _ ?_
  conv => whnf
  have lsv99 : j_ln h sc = L := lw.1.2.2.2.2.2.2
  refine ⟨_, _, rfl, lw.1.2.2.2.2.2.1, rfl, j_vp (by omega) (by rw [lsv99]; omega), fun v99 ev99 => ?_⟩
  conv => whnf
  have lsv100 : j_ln h sc = L := lw.1.2.2.2.2.2.2
  refine ⟨_, _, rfl, lw.1.2.2.2.2.2.1, rfl, j_vp (by omega) (by rw [lsv100]; omega), fun v100 ev100 => ?_⟩
  conv => whnf
  have lsv101 : j_ln h sc = L := lw.1.2.2.2.2.2.2
  refine ⟨_, _, rfl, lw.1.2.2.2.2.2.1, rfl, j_vp (by omega) (by rw [lsv101]; omega), fun v101 ev101 => ?_⟩
  conv => whnf
  refine ⟨rfl, _, _, _, _, _, _, c_Lw_spanx lw.1.1 lw.2.1 lw.1.2.2.1, ⟨Nat.le_of_ble_eq_true rfl, Nat.le_of_ble_eq_true rfl, by (try dsimp only); omega, by (try dsimp only); omega⟩, fun _ _ z => False.elim z, ?_⟩
  rintro u9 H102 a
  obtain rfl := a.1
  obtain ⟨l1, s1, m1⟩ := lw.1.lq a
  conv => whnf
  have lsv104 : j_ln H102 sc = L := l1.2.2.2.2.2.2
  refine ⟨_, _, rfl, l1.2.2.2.2.2.1, rfl, j_vp (by omega) (by rw [lsv104]; omega), fun v104 ev104 => ?_⟩
  obtain rfl : v99 = v104 := ev99.symm.trans ((s1 _).symm.trans ev104)
  conv => whnf
  have lsv105 : j_ln H102 sc = L := l1.2.2.2.2.2.2
  refine ⟨_, _, rfl, l1.2.2.2.2.2.1, rfl, j_vp (by omega) (by rw [lsv105]; omega), fun v105 ev105 => ?_⟩
  obtain rfl : v100 = v105 := ev100.symm.trans ((s1 _).symm.trans ev105)
  conv => whnf
  have lsv106 : j_ln H102 sc = L := l1.2.2.2.2.2.2
  refine ⟨_, _, rfl, l1.2.2.2.2.2.1, rfl, j_vp (by omega) (by rw [lsv106]; omega), fun v106 ev106 => ?_⟩
  obtain rfl : v101 = v106 := ev101.symm.trans ((s1 _).symm.trans ev106)
  conv => whnf
  obtain ⟨ρ9, w9⟩ := l1.2.1
  have eq9 : z_eq (z_d H102 m P G R Q) (z_c h x) := m1.tr lw.2.2.2
  have V := lw.2.2.1.1
  have B := lw.2.2.1.2
  refine ⟨w9.km, rfl, _, _, _, _, _, _, c_Mo_spanz w9 (V.eq eq9), ⟨Nat.le_of_ble_eq_true rfl, Nat.le_of_ble_eq_true rfl, by (try dsimp only); omega, by (try dsimp only); omega⟩, fun _ _ z => False.elim z, ?_⟩
  rintro u9 H107 b
  have hq : q_span (z_d H102 m P G R Q) v99 v100 v101 = q_span (z_c h x) v99 v100 v101 := q_span_c eq9
  obtain ⟨lw2, o2⟩ := lw.told a b.ms hq (fun _ => eq9) (fun _ => ⟨V, B⟩)
  obtain ⟨r9, rfl⟩ := b.2.2.2.2.2.2
  exact j_use hF (back _ _ _ lw2 (by omega) (by omega)) (And.intro rfl (And.intro rfl (And.intro rfl (And.intro rfl (And.intro rfl trivial)))))
set_option maxHeartbeats 4000000 in
set_option maxRecDepth 20000 in
theorem j_turn13 {J : j_J} {L sc x m out P G R Q cn sn : Nat} {i : Int32} {h : j_H} (hJ : j_Cl k_law j_lF j_lP j_no J) (hF : j_Fg J) (hL : L ≤ 2560) (i0 : 0 ≤ i.toInt) (i1 : i.toInt + 5 ≤ (L : Int)) (hc : cn ≤ 500000) (hs : sn ≤ 6000000) (lw : j_LW L sc x m out P G R Q h) (back : ∀ (h' : j_H) (cn' sn' : Nat), j_LW L sc x m out P G R Q h' → cn' ≤ cn + 200 → sn' ≤ sn + 2000 → J 1161 [some (j_r (some sc)), some (j_r (some x)), some (j_r (some m)), some (j_r (some out)), some (j_i i), none, none] [] h' cn' sn') : J 717 [some (j_r (some sc)), some (j_r (some x)), some (j_r (some m)), some (j_r (some out)), some (j_i i), none, none] [] h cn sn := by
  have q1 : (i + Int32.ofInt (1)).toInt = i.toInt + 1 := j_inc1 (by omega)
  have q2 : (i + Int32.ofInt (2)).toInt = i.toInt + 2 := j_i2 i0 (by omega)
  have q3 : (i + Int32.ofInt (3)).toInt = i.toInt + 3 := j_i3 i0 (by omega)
  have q4 : (i + Int32.ofInt (4)).toInt = i.toInt + 4 := j_i4 i0 (by omega)
  refine hJ [1161] 400 _ _ _ _ _ _ ?_
  conv => whnf
  have lsv109 : j_ln h sc = L := lw.1.2.2.2.2.2.2
  refine ⟨_, _, rfl, lw.1.2.2.2.2.2.1, rfl, j_vp (by omega) (by rw [lsv109]; omega), fun v109 ev109 => ?_⟩
  conv => whnf
  have lsv110 : j_ln h sc = L := lw.1.2.2.2.2.2.2
  refine ⟨_, _, rfl, lw.1.2.2.2.2.2.1, rfl, j_vp (by omega) (by rw [lsv110]; omega), fun v110 ev110 => ?_⟩
  conv => whnf
  refine ⟨fun c111 => ?_, fun c111 => ?_⟩
  · skip
    conv => whnf
    refine ⟨rfl, _, _, _, _, _, _, c_Lw_narrowedx lw.1.1 lw.2.1 lw.1.2.2.1, ⟨Nat.le_of_ble_eq_true rfl, Nat.le_of_ble_eq_true rfl, by (try dsimp only); omega, by (try dsimp only); omega⟩, fun _ _ z => False.elim z, ?_⟩
    rintro u9 H112 a
    obtain rfl := a.1
    obtain ⟨l1, s1, m1⟩ := lw.1.lq a
    conv => whnf
    have lsv114 : j_ln H112 sc = L := l1.2.2.2.2.2.2
    refine ⟨_, _, rfl, l1.2.2.2.2.2.1, rfl, j_vp (by omega) (by rw [lsv114]; omega), fun v114 ev114 => ?_⟩
    obtain rfl : v109 = v114 := ev109.symm.trans ((s1 _).symm.trans ev114)
    conv => whnf
    have lsv115 : j_ln H112 sc = L := l1.2.2.2.2.2.2
    refine ⟨_, _, rfl, l1.2.2.2.2.2.1, rfl, j_vp (by omega) (by rw [lsv115]; omega), fun v115 ev115 => ?_⟩
    obtain rfl : v110 = v115 := ev110.symm.trans ((s1 _).symm.trans ev115)
    conv => whnf
    refine ⟨fun c116 => ?_, fun c116 => ?_⟩
    · skip
      conv => whnf
      obtain ⟨ρ9, w9⟩ := l1.2.1
      have eq9 : z_eq (z_d H112 m P G R Q) (z_c h x) := m1.tr lw.2.2.2
      have V := lw.2.2.1.1
      have B := lw.2.2.1.2
      refine ⟨w9.km, rfl, _, _, _, _, _, _, c_Mo_narrowedz w9 (V.eq eq9) (B.eq eq9), ⟨Nat.le_of_ble_eq_true rfl, Nat.le_of_ble_eq_true rfl, by (try dsimp only); omega, by (try dsimp only); omega⟩, fun _ _ z => False.elim z, ?_⟩
      rintro u9 H117 b
      have hq : q_narrowed (z_d H112 m P G R Q) v109 = q_narrowed (z_c h x) v109 := q_narrowed_c eq9
      obtain ⟨lw2, o2⟩ := lw.told a b.ms hq (fun _ => eq9) (fun _ => ⟨V, B⟩)
      obtain ⟨r9, rfl⟩ := b.2.2.2.2.2.2
      exact j_use hF (back _ _ _ lw2 (by omega) (by omega)) (And.intro rfl (And.intro rfl (And.intro rfl (And.intro rfl (And.intro rfl trivial)))))
    · exact absurd (show v110.toInt = 0 from c111) c116
  · skip
    conv => whnf
    refine ⟨rfl, _, _, _, _, _, _, c_Lw_narrowedx lw.1.1 lw.2.1 lw.1.2.2.1, ⟨Nat.le_of_ble_eq_true rfl, Nat.le_of_ble_eq_true rfl, by (try dsimp only); omega, by (try dsimp only); omega⟩, fun _ _ z => False.elim z, ?_⟩
    rintro u9 H119 a
    obtain rfl := a.1
    obtain ⟨l1, s1, m1⟩ := lw.1.lq a
    conv => whnf
    have lsv121 : j_ln H119 sc = L := l1.2.2.2.2.2.2
    refine ⟨_, _, rfl, l1.2.2.2.2.2.1, rfl, j_vp (by omega) (by rw [lsv121]; omega), fun v121 ev121 => ?_⟩
    obtain rfl : v109 = v121 := ev109.symm.trans ((s1 _).symm.trans ev121)
    conv => whnf
    have lsv122 : j_ln H119 sc = L := l1.2.2.2.2.2.2
    refine ⟨_, _, rfl, l1.2.2.2.2.2.1, rfl, j_vp (by omega) (by rw [lsv122]; omega), fun v122 ev122 => ?_⟩
    obtain rfl : v110 = v122 := ev110.symm.trans ((s1 _).symm.trans ev122)
    conv => whnf
    refine ⟨fun c123 => ?_, fun c123 => ?_⟩
    · exact absurd (show v110.toInt = 0 from c123) c111
    · skip
      conv => whnf
      obtain ⟨ρ9, w9⟩ := l1.2.1
      have eq9 : z_eq (z_d H119 m P G R Q) (z_c h x) := m1.tr lw.2.2.2
      have V := lw.2.2.1.1
      have B := lw.2.2.1.2
      refine ⟨w9.km, rfl, _, _, _, _, _, _, c_Mo_narrowedz w9 (V.eq eq9) (B.eq eq9), ⟨Nat.le_of_ble_eq_true rfl, Nat.le_of_ble_eq_true rfl, by (try dsimp only); omega, by (try dsimp only); omega⟩, fun _ _ z => False.elim z, ?_⟩
      rintro u9 H124 b
      have hq : q_narrowed (z_d H119 m P G R Q) v109 = q_narrowed (z_c h x) v109 := q_narrowed_c eq9
      obtain ⟨lw2, o2⟩ := lw.told a b.ms hq (fun _ => eq9) (fun _ => ⟨V, B⟩)
      obtain ⟨r9, rfl⟩ := b.2.2.2.2.2.2
      exact j_use hF (back _ _ _ lw2 (by omega) (by omega)) (And.intro rfl (And.intro rfl (And.intro rfl (And.intro rfl (And.intro rfl trivial)))))
set_option maxHeartbeats 4000000 in
set_option maxRecDepth 20000 in
theorem j_turn14 {J : j_J} {L sc x m out P G R Q cn sn : Nat} {i : Int32} {h : j_H} (hJ : j_Cl k_law j_lF j_lP j_no J) (hF : j_Fg J) (hL : L ≤ 2560) (i0 : 0 ≤ i.toInt) (i1 : i.toInt + 5 ≤ (L : Int)) (hc : cn ≤ 500000) (hs : sn ≤ 6000000) (lw : j_LW L sc x m out P G R Q h) (back : ∀ (h' : j_H) (cn' sn' : Nat), j_LW L sc x m out P G R Q h' → cn' ≤ cn + 200 → sn' ≤ sn + 2000 → J 1161 [some (j_r (some sc)), some (j_r (some x)), some (j_r (some m)), some (j_r (some out)), some (j_i i), none, none] [] h' cn' sn') : J 773 [some (j_r (some sc)), some (j_r (some x)), some (j_r (some m)), some (j_r (some out)), some (j_i i), none, none] [] h cn sn := by
  have q1 : (i + Int32.ofInt (1)).toInt = i.toInt + 1 := j_inc1 (by omega)
  have q2 : (i + Int32.ofInt (2)).toInt = i.toInt + 2 := j_i2 i0 (by omega)
  have q3 : (i + Int32.ofInt (3)).toInt = i.toInt + 3 := j_i3 i0 (by omega)
  have q4 : (i + Int32.ofInt (4)).toInt = i.toInt + 4 := j_i4 i0 (by omega)
  refine hJ [1161] 400 _ _ _ _ _ _ ?_
  conv => whnf
  have lsv126 : j_ln h sc = L := lw.1.2.2.2.2.2.2
  refine ⟨_, _, rfl, lw.1.2.2.2.2.2.1, rfl, j_vp (by omega) (by rw [lsv126]; omega), fun v126 ev126 => ?_⟩
  conv => whnf
  have lsv127 : j_ln h sc = L := lw.1.2.2.2.2.2.2
  refine ⟨_, _, rfl, lw.1.2.2.2.2.2.1, rfl, j_vp (by omega) (by rw [lsv127]; omega), fun v127 ev127 => ?_⟩
  conv => whnf
  refine ⟨rfl, _, _, _, _, _, _, c_Lw_ofPrintx lw.1.1 lw.2.1 lw.1.2.2.1, ⟨Nat.le_of_ble_eq_true rfl, Nat.le_of_ble_eq_true rfl, by (try dsimp only); omega, by (try dsimp only); omega⟩, fun _ _ z => False.elim z, ?_⟩
  rintro u9 H128 a
  obtain rfl := a.1
  obtain ⟨l1, s1, m1⟩ := lw.1.lq a
  conv => whnf
  have lsv130 : j_ln H128 sc = L := l1.2.2.2.2.2.2
  refine ⟨_, _, rfl, l1.2.2.2.2.2.1, rfl, j_vp (by omega) (by rw [lsv130]; omega), fun v130 ev130 => ?_⟩
  obtain rfl : v126 = v130 := ev126.symm.trans ((s1 _).symm.trans ev130)
  conv => whnf
  have lsv131 : j_ln H128 sc = L := l1.2.2.2.2.2.2
  refine ⟨_, _, rfl, l1.2.2.2.2.2.1, rfl, j_vp (by omega) (by rw [lsv131]; omega), fun v131 ev131 => ?_⟩
  obtain rfl : v127 = v131 := ev127.symm.trans ((s1 _).symm.trans ev131)
  conv => whnf
  obtain ⟨ρ9, w9⟩ := l1.2.1
  have eq9 : z_eq (z_d H128 m P G R Q) (z_c h x) := m1.tr lw.2.2.2
  have V := lw.2.2.1.1
  have B := lw.2.2.1.2
  refine ⟨w9.km, rfl, _, _, _, _, _, _, c_Mo_ofPrintz w9, ⟨Nat.le_of_ble_eq_true rfl, Nat.le_of_ble_eq_true rfl, by (try dsimp only); omega, by (try dsimp only); omega⟩, fun _ _ z => False.elim z, ?_⟩
  rintro u9 H132 b
  have hq : q_ofPrint (z_d H128 m P G R Q) v126 v127 = q_ofPrint (z_c h x) v126 v127 := q_ofPrint_c eq9
  obtain ⟨lw2, o2⟩ := lw.told a b.ms hq (fun _ => eq9) (fun _ => ⟨V, B⟩)
  obtain ⟨r9, rfl⟩ := b.2.2.2.2.2.2
  exact j_use hF (back _ _ _ lw2 (by omega) (by omega)) (And.intro rfl (And.intro rfl (And.intro rfl (And.intro rfl (And.intro rfl trivial)))))
set_option maxHeartbeats 4000000 in
set_option maxRecDepth 20000 in
theorem j_turn15 {J : j_J} {L sc x m out P G R Q cn sn : Nat} {i : Int32} {h : j_H} (hJ : j_Cl k_law j_lF j_lP j_no J) (hF : j_Fg J) (hL : L ≤ 2560) (i0 : 0 ≤ i.toInt) (i1 : i.toInt + 5 ≤ (L : Int)) (hc : cn ≤ 500000) (hs : sn ≤ 6000000) (lw : j_LW L sc x m out P G R Q h) (back : ∀ (h' : j_H) (cn' sn' : Nat), j_LW L sc x m out P G R Q h' → cn' ≤ cn + 200 → sn' ≤ sn + 2000 → J 1161 [some (j_r (some sc)), some (j_r (some x)), some (j_r (some m)), some (j_r (some out)), some (j_i i), none, none] [] h' cn' sn') : J 813 [some (j_r (some sc)), some (j_r (some x)), some (j_r (some m)), some (j_r (some out)), some (j_i i), none, none] [] h cn sn := by
  have q1 : (i + Int32.ofInt (1)).toInt = i.toInt + 1 := j_inc1 (by omega)
  have q2 : (i + Int32.ofInt (2)).toInt = i.toInt + 2 := j_i2 i0 (by omega)
  have q3 : (i + Int32.ofInt (3)).toInt = i.toInt + 3 := j_i3 i0 (by omega)
  have q4 : (i + Int32.ofInt (4)).toInt = i.toInt + 4 := j_i4 i0 (by omega)
  refine hJ [1161] 400 _ _ _ _ _ _ ?_
  conv => whnf
  have lsv134 : j_ln h sc = L := lw.1.2.2.2.2.2.2
  refine ⟨_, _, rfl, lw.1.2.2.2.2.2.1, rfl, j_vp (by omega) (by rw [lsv134]; omega), fun v134 ev134 => ?_⟩
  conv => whnf
  refine ⟨rfl, _, _, _, _, _, _, c_Lw_labz lw.1.1 lw.2.1 lw.1.2.2.1, ⟨Nat.le_of_ble_eq_true rfl, Nat.le_of_ble_eq_true rfl, by (try dsimp only); omega, by (try dsimp only); omega⟩, fun _ _ z => False.elim z, ?_⟩
  rintro v9 H135 ⟨⟨r137, rfl⟩, fo⟩
  have l136 := (lw.fo fo).1
  conv => whnf
  have lsv138 : j_ln H135 sc = L := l136.1.2.2.2.2.2.2
  refine ⟨_, _, rfl, l136.1.2.2.2.2.2.1, rfl, j_vp (by omega) (by rw [lsv138]; omega), fun v138 ev138 => ?_⟩
  conv => whnf
  obtain ⟨ρ142, w141⟩ := l136.1.2.1
  refine ⟨w141.km, rfl, _, _, _, _, _, _, c_Mo_lab w141, ⟨Nat.le_of_ble_eq_true rfl, Nat.le_of_ble_eq_true rfl, by (try dsimp only); omega, by (try dsimp only); omega⟩, fun _ _ z => False.elim z, ?_⟩
  rintro v9 H139 ⟨st9, r9, rfl⟩
  have l140 := l136.mf w141 st9
  exact j_use hF (back _ _ _ l140 (by omega) (by omega)) (And.intro rfl (And.intro rfl (And.intro rfl (And.intro rfl (And.intro rfl trivial)))))
set_option maxHeartbeats 4000000 in
set_option maxRecDepth 20000 in
theorem j_turn16 {J : j_J} {L sc x m out P G R Q cn sn : Nat} {i : Int32} {h : j_H} (hJ : j_Cl k_law j_lF j_lP j_no J) (hF : j_Fg J) (hL : L ≤ 2560) (i0 : 0 ≤ i.toInt) (i1 : i.toInt + 5 ≤ (L : Int)) (hc : cn ≤ 500000) (hs : sn ≤ 6000000) (lw : j_LW L sc x m out P G R Q h) (back : ∀ (h' : j_H) (cn' sn' : Nat), j_LW L sc x m out P G R Q h' → cn' ≤ cn + 200 → sn' ≤ sn + 2000 → J 1161 [some (j_r (some sc)), some (j_r (some x)), some (j_r (some m)), some (j_r (some out)), some (j_i i), none, none] [] h' cn' sn') : J 841 [some (j_r (some sc)), some (j_r (some x)), some (j_r (some m)), some (j_r (some out)), some (j_i i), none, none] [] h cn sn := by
  have q1 : (i + Int32.ofInt (1)).toInt = i.toInt + 1 := j_inc1 (by omega)
  have q2 : (i + Int32.ofInt (2)).toInt = i.toInt + 2 := j_i2 i0 (by omega)
  have q3 : (i + Int32.ofInt (3)).toInt = i.toInt + 3 := j_i3 i0 (by omega)
  have q4 : (i + Int32.ofInt (4)).toInt = i.toInt + 4 := j_i4 i0 (by omega)
  refine hJ [1161] 400 _ _ _ _ _ _ ?_
  conv => whnf
  have lsv143 : j_ln h sc = L := lw.1.2.2.2.2.2.2
  refine ⟨_, _, rfl, lw.1.2.2.2.2.2.1, rfl, j_vp (by omega) (by rw [lsv143]; omega), fun v143 ev143 => ?_⟩
  conv => whnf
  refine ⟨rfl, _, _, _, _, _, _, c_Lw_textz lw.1.1 lw.2.1 lw.1.2.2.2.1 lw.1.2.2.1, ⟨Nat.le_of_ble_eq_true rfl, Nat.le_of_ble_eq_true rfl, by (try dsimp only); omega, by (try dsimp only); omega⟩, fun _ _ z => False.elim z, ?_⟩
  rintro v9 H144 ⟨⟨r146, rfl⟩, fo⟩
  have l145 := (lw.fo fo).1
  conv => whnf
  have lsv147 : j_ln H144 sc = L := l145.1.2.2.2.2.2.2
  refine ⟨_, _, rfl, l145.1.2.2.2.2.2.1, rfl, j_vp (by omega) (by rw [lsv147]; omega), fun v147 ev147 => ?_⟩
  conv => whnf
  obtain ⟨ρ151, w150⟩ := l145.1.2.1
  refine ⟨w150.km, rfl, _, _, _, _, _, _, c_Mo_text w150 l145.1.2.2.2.1, ⟨Nat.le_of_ble_eq_true rfl, Nat.le_of_ble_eq_true rfl, by (try dsimp only); omega, by (try dsimp only); omega⟩, fun _ _ z => False.elim z, ?_⟩
  rintro v9 H148 ⟨st9, s9, rfl⟩
  have l149 := l145.mf w150 st9
  exact j_use hF (back _ _ _ l149 (by omega) (by omega)) (And.intro rfl (And.intro rfl (And.intro rfl (And.intro rfl (And.intro rfl trivial)))))
set_option maxHeartbeats 4000000 in
set_option maxRecDepth 20000 in
theorem j_turn17 {J : j_J} {L sc x m out P G R Q cn sn : Nat} {i : Int32} {h : j_H} (hJ : j_Cl k_law j_lF j_lP j_no J) (hF : j_Fg J) (hL : L ≤ 2560) (i0 : 0 ≤ i.toInt) (i1 : i.toInt + 5 ≤ (L : Int)) (hc : cn ≤ 500000) (hs : sn ≤ 6000000) (lw : j_LW L sc x m out P G R Q h) (back : ∀ (h' : j_H) (cn' sn' : Nat), j_LW L sc x m out P G R Q h' → cn' ≤ cn + 200 → sn' ≤ sn + 2000 → J 1161 [some (j_r (some sc)), some (j_r (some x)), some (j_r (some m)), some (j_r (some out)), some (j_i i), none, none] [] h' cn' sn') : J 869 [some (j_r (some sc)), some (j_r (some x)), some (j_r (some m)), some (j_r (some out)), some (j_i i), none, none] [] h cn sn := by
  have q1 : (i + Int32.ofInt (1)).toInt = i.toInt + 1 := j_inc1 (by omega)
  have q2 : (i + Int32.ofInt (2)).toInt = i.toInt + 2 := j_i2 i0 (by omega)
  have q3 : (i + Int32.ofInt (3)).toInt = i.toInt + 3 := j_i3 i0 (by omega)
  have q4 : (i + Int32.ofInt (4)).toInt = i.toInt + 4 := j_i4 i0 (by omega)
  refine hJ [1161] 400 _ _ _ _ _ _ ?_
  conv => whnf
  have lsv152 : j_ln h sc = L := lw.1.2.2.2.2.2.2
  refine ⟨_, _, rfl, lw.1.2.2.2.2.2.1, rfl, j_vp (by omega) (by rw [lsv152]; omega), fun v152 ev152 => ?_⟩
  conv => whnf
  have lsv153 : j_ln h sc = L := lw.1.2.2.2.2.2.2
  refine ⟨_, _, rfl, lw.1.2.2.2.2.2.1, rfl, j_vp (by omega) (by rw [lsv153]; omega), fun v153 ev153 => ?_⟩
  conv => whnf
  have lsv154 : j_ln h sc = L := lw.1.2.2.2.2.2.2
  refine ⟨_, _, rfl, lw.1.2.2.2.2.2.1, rfl, j_vp (by omega) (by rw [lsv154]; omega), fun v154 ev154 => ?_⟩
  conv => whnf
  refine ⟨rfl, _, _, _, _, _, _, c_Lw_leftz lw.1.1 lw.2.1 lw.1.2.2.1, ⟨Nat.le_of_ble_eq_true rfl, Nat.le_of_ble_eq_true rfl, by (try dsimp only); omega, by (try dsimp only); omega⟩, fun _ _ z => False.elim z, ?_⟩
  rintro v9 H155 ⟨⟨r157, rfl⟩, fo⟩
  have l156 := (lw.fo fo).1
  conv => whnf
  have lsv158 : j_ln H155 sc = L := l156.1.2.2.2.2.2.2
  refine ⟨_, _, rfl, l156.1.2.2.2.2.2.1, rfl, j_vp (by omega) (by rw [lsv158]; omega), fun v158 ev158 => ?_⟩
  conv => whnf
  have lsv159 : j_ln H155 sc = L := l156.1.2.2.2.2.2.2
  refine ⟨_, _, rfl, l156.1.2.2.2.2.2.1, rfl, j_vp (by omega) (by rw [lsv159]; omega), fun v159 ev159 => ?_⟩
  conv => whnf
  have lsv160 : j_ln H155 sc = L := l156.1.2.2.2.2.2.2
  refine ⟨_, _, rfl, l156.1.2.2.2.2.2.1, rfl, j_vp (by omega) (by rw [lsv160]; omega), fun v160 ev160 => ?_⟩
  conv => whnf
  obtain ⟨ρ164, w163⟩ := l156.1.2.1
  refine ⟨w163.km, rfl, _, _, _, _, _, _, c_Mo_left w163, ⟨Nat.le_of_ble_eq_true rfl, Nat.le_of_ble_eq_true rfl, by (try dsimp only); omega, by (try dsimp only); omega⟩, fun _ _ z => False.elim z, ?_⟩
  rintro v9 H161 ⟨st9, r9, rfl⟩
  have l162 := l156.mf w163 st9
  exact j_use hF (back _ _ _ l162 (by omega) (by omega)) (And.intro rfl (And.intro rfl (And.intro rfl (And.intro rfl (And.intro rfl trivial)))))
set_option maxHeartbeats 4000000 in
set_option maxRecDepth 20000 in
theorem j_turn18 {J : j_J} {L sc x m out P G R Q cn sn : Nat} {i : Int32} {h : j_H} (hJ : j_Cl k_law j_lF j_lP j_no J) (hF : j_Fg J) (hL : L ≤ 2560) (i0 : 0 ≤ i.toInt) (i1 : i.toInt + 5 ≤ (L : Int)) (hc : cn ≤ 500000) (hs : sn ≤ 6000000) (lw : j_LW L sc x m out P G R Q h) (back : ∀ (h' : j_H) (cn' sn' : Nat), j_LW L sc x m out P G R Q h' → cn' ≤ cn + 200 → sn' ≤ sn + 2000 → J 1161 [some (j_r (some sc)), some (j_r (some x)), some (j_r (some m)), some (j_r (some out)), some (j_i i), none, none] [] h' cn' sn') : J 921 [some (j_r (some sc)), some (j_r (some x)), some (j_r (some m)), some (j_r (some out)), some (j_i i), none, none] [] h cn sn := by
  have q1 : (i + Int32.ofInt (1)).toInt = i.toInt + 1 := j_inc1 (by omega)
  have q2 : (i + Int32.ofInt (2)).toInt = i.toInt + 2 := j_i2 i0 (by omega)
  have q3 : (i + Int32.ofInt (3)).toInt = i.toInt + 3 := j_i3 i0 (by omega)
  have q4 : (i + Int32.ofInt (4)).toInt = i.toInt + 4 := j_i4 i0 (by omega)
  refine hJ [1161] 400 _ _ _ _ _ _ ?_
  conv => whnf
  have lsv165 : j_ln h sc = L := lw.1.2.2.2.2.2.2
  refine ⟨_, _, rfl, lw.1.2.2.2.2.2.1, rfl, j_vp (by omega) (by rw [lsv165]; omega), fun v165 ev165 => ?_⟩
  conv => whnf
  have lsv166 : j_ln h sc = L := lw.1.2.2.2.2.2.2
  refine ⟨_, _, rfl, lw.1.2.2.2.2.2.1, rfl, j_vp (by omega) (by rw [lsv166]; omega), fun v166 ev166 => ?_⟩
  conv => whnf
  have lsv167 : j_ln h sc = L := lw.1.2.2.2.2.2.2
  refine ⟨_, _, rfl, lw.1.2.2.2.2.2.1, rfl, j_vp (by omega) (by rw [lsv167]; omega), fun v167 ev167 => ?_⟩
  conv => whnf
  have lsv168 : j_ln h sc = L := lw.1.2.2.2.2.2.2
  refine ⟨_, _, rfl, lw.1.2.2.2.2.2.1, rfl, j_vp (by omega) (by rw [lsv168]; omega), fun v168 ev168 => ?_⟩
  conv => whnf
  refine ⟨fun c169 => ?_, fun c169 => ?_⟩
  · skip
    conv => whnf
    refine ⟨rfl, _, _, _, _, _, _, c_Lw_agez lw.1.1 lw.2.1 lw.1.2.2.1, ⟨Nat.le_of_ble_eq_true rfl, Nat.le_of_ble_eq_true rfl, by (try dsimp only); omega, by (try dsimp only); omega⟩, fun _ _ z => False.elim z, ?_⟩
    rintro v9 H170 ⟨⟨r172, rfl⟩, fo⟩
    have l171 := (lw.fo fo).1
    conv => whnf
    have lsv173 : j_ln H170 sc = L := l171.1.2.2.2.2.2.2
    refine ⟨_, _, rfl, l171.1.2.2.2.2.2.1, rfl, j_vp (by omega) (by rw [lsv173]; omega), fun v173 ev173 => ?_⟩
    conv => whnf
    have lsv174 : j_ln H170 sc = L := l171.1.2.2.2.2.2.2
    refine ⟨_, _, rfl, l171.1.2.2.2.2.2.1, rfl, j_vp (by omega) (by rw [lsv174]; omega), fun v174 ev174 => ?_⟩
    conv => whnf
    have lsv175 : j_ln H170 sc = L := l171.1.2.2.2.2.2.2
    refine ⟨_, _, rfl, l171.1.2.2.2.2.2.1, rfl, j_vp (by omega) (by rw [lsv175]; omega), fun v175 ev175 => ?_⟩
    conv => whnf
    have lsv176 : j_ln H170 sc = L := l171.1.2.2.2.2.2.2
    refine ⟨_, _, rfl, l171.1.2.2.2.2.2.1, rfl, j_vp (by omega) (by rw [lsv176]; omega), fun v176 ev176 => ?_⟩
    conv => whnf
    refine ⟨fun c177 => ?_, fun c177 => ?_⟩
    · skip
      conv => whnf
      obtain ⟨ρ181, w180⟩ := l171.1.2.1
      refine ⟨w180.km, rfl, _, _, _, _, _, _, c_Mo_age w180, ⟨Nat.le_of_ble_eq_true rfl, Nat.le_of_ble_eq_true rfl, by (try dsimp only); omega, by (try dsimp only); omega⟩, fun _ _ z => False.elim z, ?_⟩
      rintro v9 H178 ⟨st9, r9, rfl⟩
      have l179 := l171.mf w180 st9
      exact j_use hF (back _ _ _ l179 (by omega) (by omega)) (And.intro rfl (And.intro rfl (And.intro rfl (And.intro rfl (And.intro rfl trivial)))))
    · skip
      conv => whnf
      obtain ⟨ρ185, w184⟩ := l171.1.2.1
      refine ⟨w184.km, rfl, _, _, _, _, _, _, c_Mo_age w184, ⟨Nat.le_of_ble_eq_true rfl, Nat.le_of_ble_eq_true rfl, by (try dsimp only); omega, by (try dsimp only); omega⟩, fun _ _ z => False.elim z, ?_⟩
      rintro v9 H182 ⟨st9, r9, rfl⟩
      have l183 := l171.mf w184 st9
      exact j_use hF (back _ _ _ l183 (by omega) (by omega)) (And.intro rfl (And.intro rfl (And.intro rfl (And.intro rfl (And.intro rfl trivial)))))
  · skip
    conv => whnf
    refine ⟨rfl, _, _, _, _, _, _, c_Lw_agez lw.1.1 lw.2.1 lw.1.2.2.1, ⟨Nat.le_of_ble_eq_true rfl, Nat.le_of_ble_eq_true rfl, by (try dsimp only); omega, by (try dsimp only); omega⟩, fun _ _ z => False.elim z, ?_⟩
    rintro v9 H186 ⟨⟨r188, rfl⟩, fo⟩
    have l187 := (lw.fo fo).1
    conv => whnf
    have lsv189 : j_ln H186 sc = L := l187.1.2.2.2.2.2.2
    refine ⟨_, _, rfl, l187.1.2.2.2.2.2.1, rfl, j_vp (by omega) (by rw [lsv189]; omega), fun v189 ev189 => ?_⟩
    conv => whnf
    have lsv190 : j_ln H186 sc = L := l187.1.2.2.2.2.2.2
    refine ⟨_, _, rfl, l187.1.2.2.2.2.2.1, rfl, j_vp (by omega) (by rw [lsv190]; omega), fun v190 ev190 => ?_⟩
    conv => whnf
    have lsv191 : j_ln H186 sc = L := l187.1.2.2.2.2.2.2
    refine ⟨_, _, rfl, l187.1.2.2.2.2.2.1, rfl, j_vp (by omega) (by rw [lsv191]; omega), fun v191 ev191 => ?_⟩
    conv => whnf
    have lsv192 : j_ln H186 sc = L := l187.1.2.2.2.2.2.2
    refine ⟨_, _, rfl, l187.1.2.2.2.2.2.1, rfl, j_vp (by omega) (by rw [lsv192]; omega), fun v192 ev192 => ?_⟩
    conv => whnf
    refine ⟨fun c193 => ?_, fun c193 => ?_⟩
    · skip
      conv => whnf
      obtain ⟨ρ197, w196⟩ := l187.1.2.1
      refine ⟨w196.km, rfl, _, _, _, _, _, _, c_Mo_age w196, ⟨Nat.le_of_ble_eq_true rfl, Nat.le_of_ble_eq_true rfl, by (try dsimp only); omega, by (try dsimp only); omega⟩, fun _ _ z => False.elim z, ?_⟩
      rintro v9 H194 ⟨st9, r9, rfl⟩
      have l195 := l187.mf w196 st9
      exact j_use hF (back _ _ _ l195 (by omega) (by omega)) (And.intro rfl (And.intro rfl (And.intro rfl (And.intro rfl (And.intro rfl trivial)))))
    · skip
      conv => whnf
      obtain ⟨ρ201, w200⟩ := l187.1.2.1
      refine ⟨w200.km, rfl, _, _, _, _, _, _, c_Mo_age w200, ⟨Nat.le_of_ble_eq_true rfl, Nat.le_of_ble_eq_true rfl, by (try dsimp only); omega, by (try dsimp only); omega⟩, fun _ _ z => False.elim z, ?_⟩
      rintro v9 H198 ⟨st9, r9, rfl⟩
      have l199 := l187.mf w200 st9
      exact j_use hF (back _ _ _ l199 (by omega) (by omega)) (And.intro rfl (And.intro rfl (And.intro rfl (And.intro rfl (And.intro rfl trivial)))))
set_option maxHeartbeats 4000000 in
set_option maxRecDepth 20000 in
theorem j_turn19 {J : j_J} {L sc x m out P G R Q cn sn : Nat} {i : Int32} {h : j_H} (hJ : j_Cl k_law j_lF j_lP j_no J) (hF : j_Fg J) (hL : L ≤ 2560) (i0 : 0 ≤ i.toInt) (i1 : i.toInt + 5 ≤ (L : Int)) (hc : cn ≤ 500000) (hs : sn ≤ 6000000) (lw : j_LW L sc x m out P G R Q h) (back : ∀ (h' : j_H) (cn' sn' : Nat), j_LW L sc x m out P G R Q h' → cn' ≤ cn + 200 → sn' ≤ sn + 2000 → J 1161 [some (j_r (some sc)), some (j_r (some x)), some (j_r (some m)), some (j_r (some out)), some (j_i i), none, none] [] h' cn' sn') : J 1001 [some (j_r (some sc)), some (j_r (some x)), some (j_r (some m)), some (j_r (some out)), some (j_i i), none, none] [] h cn sn := by
  have q1 : (i + Int32.ofInt (1)).toInt = i.toInt + 1 := j_inc1 (by omega)
  have q2 : (i + Int32.ofInt (2)).toInt = i.toInt + 2 := j_i2 i0 (by omega)
  have q3 : (i + Int32.ofInt (3)).toInt = i.toInt + 3 := j_i3 i0 (by omega)
  have q4 : (i + Int32.ofInt (4)).toInt = i.toInt + 4 := j_i4 i0 (by omega)
  refine hJ [1161] 400 _ _ _ _ _ _ ?_
  conv => whnf
  refine ⟨lw.1.1.1, rfl, _, _, _, _, _, _, c_G_fewest (h := h) lw.1.1 j_Sc.rf, ⟨Nat.le_of_ble_eq_true rfl, Nat.le_of_ble_eq_true rfl, by (try dsimp only); omega, by (try dsimp only); omega⟩, fun _ _ z => False.elim z, ?_⟩
  rintro v9 H202 ⟨it204, e9, s9, r9, rfl⟩
  have fr9 : z_Fo x out h H202 := by rw [e9]; exact z_Fo.of (z_notes lw.1.1 lw.2.1 s9)
  have l203 := (lw.fo fr9).1
  conv => whnf
  obtain ⟨ρ208, w207⟩ := l203.1.2.1
  refine ⟨w207.km, rfl, _, _, _, _, _, _, c_Mo_fewest w207, ⟨Nat.le_of_ble_eq_true rfl, Nat.le_of_ble_eq_true rfl, by (try dsimp only); omega, by (try dsimp only); omega⟩, fun _ _ z => False.elim z, ?_⟩
  rintro v9 H205 ⟨st9, r9, rfl⟩
  have l206 := l203.mf w207 st9
  exact j_use hF (back _ _ _ l206 (by omega) (by omega)) (And.intro rfl (And.intro rfl (And.intro rfl (And.intro rfl (And.intro rfl trivial)))))
set_option maxHeartbeats 4000000 in
set_option maxRecDepth 20000 in
theorem j_turn20 {J : j_J} {L sc x m out P G R Q cn sn : Nat} {i : Int32} {h : j_H} (hJ : j_Cl k_law j_lF j_lP j_no J) (hF : j_Fg J) (hL : L ≤ 2560) (i0 : 0 ≤ i.toInt) (i1 : i.toInt + 5 ≤ (L : Int)) (hc : cn ≤ 500000) (hs : sn ≤ 6000000) (lw : j_LW L sc x m out P G R Q h) (back : ∀ (h' : j_H) (cn' sn' : Nat), j_LW L sc x m out P G R Q h' → cn' ≤ cn + 200 → sn' ≤ sn + 2000 → J 1161 [some (j_r (some sc)), some (j_r (some x)), some (j_r (some m)), some (j_r (some out)), some (j_i i), none, none] [] h' cn' sn') : J 1014 [some (j_r (some sc)), some (j_r (some x)), some (j_r (some m)), some (j_r (some out)), some (j_i i), none, none] [] h cn sn := by
  have q1 : (i + Int32.ofInt (1)).toInt = i.toInt + 1 := j_inc1 (by omega)
  have q2 : (i + Int32.ofInt (2)).toInt = i.toInt + 2 := j_i2 i0 (by omega)
  have q3 : (i + Int32.ofInt (3)).toInt = i.toInt + 3 := j_i3 i0 (by omega)
  have q4 : (i + Int32.ofInt (4)).toInt = i.toInt + 4 := j_i4 i0 (by omega)
  refine hJ [1161] 400 _ _ _ _ _ _ ?_
  conv => whnf
  have lsv209 : j_ln h sc = L := lw.1.2.2.2.2.2.2
  refine ⟨_, _, rfl, lw.1.2.2.2.2.2.1, rfl, j_vp (by omega) (by rw [lsv209]; omega), fun v209 ev209 => ?_⟩
  conv => whnf
  refine ⟨fun c210 => ?_, fun c210 => ?_⟩
  · skip
    conv => whnf
    refine ⟨lw.1.1.1, rfl, _, _, _, _, _, _, c_G_bestSwap (h := h) lw.1.1 j_Sc.rf, ⟨Nat.le_of_ble_eq_true rfl, Nat.le_of_ble_eq_true rfl, by (try dsimp only); omega, by (try dsimp only); omega⟩, fun _ _ z => False.elim z, ?_⟩
    rintro v9 H211 ⟨it213, e9, s9, r9, rfl⟩
    have fr9 : z_Fo x out h H211 := by rw [e9]; exact z_Fo.of (z_notes lw.1.1 lw.2.1 s9)
    have l212 := (lw.fo fr9).1
    conv => whnf
    have lsv214 : j_ln H211 sc = L := l212.1.2.2.2.2.2.2
    refine ⟨_, _, rfl, l212.1.2.2.2.2.2.1, rfl, j_vp (by omega) (by rw [lsv214]; omega), fun v214 ev214 => ?_⟩
    conv => whnf
    refine ⟨fun c215 => ?_, fun c215 => ?_⟩
    · skip
      conv => whnf
      obtain ⟨ρ219, w218⟩ := l212.1.2.1
      refine ⟨w218.km, rfl, _, _, _, _, _, _, c_Mo_bestSwap w218, ⟨Nat.le_of_ble_eq_true rfl, Nat.le_of_ble_eq_true rfl, by (try dsimp only); omega, by (try dsimp only); omega⟩, fun _ _ z => False.elim z, ?_⟩
      rintro v9 H216 ⟨st9, r9, rfl⟩
      have l217 := l212.mf w218 st9
      exact j_use hF (back _ _ _ l217 (by omega) (by omega)) (And.intro rfl (And.intro rfl (And.intro rfl (And.intro rfl (And.intro rfl trivial)))))
    · skip
      conv => whnf
      obtain ⟨ρ223, w222⟩ := l212.1.2.1
      refine ⟨w222.km, rfl, _, _, _, _, _, _, c_Mo_bestSwap w222, ⟨Nat.le_of_ble_eq_true rfl, Nat.le_of_ble_eq_true rfl, by (try dsimp only); omega, by (try dsimp only); omega⟩, fun _ _ z => False.elim z, ?_⟩
      rintro v9 H220 ⟨st9, r9, rfl⟩
      have l221 := l212.mf w222 st9
      exact j_use hF (back _ _ _ l221 (by omega) (by omega)) (And.intro rfl (And.intro rfl (And.intro rfl (And.intro rfl (And.intro rfl trivial)))))
  · skip
    conv => whnf
    refine ⟨lw.1.1.1, rfl, _, _, _, _, _, _, c_G_bestSwap (h := h) lw.1.1 j_Sc.rf, ⟨Nat.le_of_ble_eq_true rfl, Nat.le_of_ble_eq_true rfl, by (try dsimp only); omega, by (try dsimp only); omega⟩, fun _ _ z => False.elim z, ?_⟩
    rintro v9 H224 ⟨it226, e9, s9, r9, rfl⟩
    have fr9 : z_Fo x out h H224 := by rw [e9]; exact z_Fo.of (z_notes lw.1.1 lw.2.1 s9)
    have l225 := (lw.fo fr9).1
    conv => whnf
    have lsv227 : j_ln H224 sc = L := l225.1.2.2.2.2.2.2
    refine ⟨_, _, rfl, l225.1.2.2.2.2.2.1, rfl, j_vp (by omega) (by rw [lsv227]; omega), fun v227 ev227 => ?_⟩
    conv => whnf
    refine ⟨fun c228 => ?_, fun c228 => ?_⟩
    · skip
      conv => whnf
      obtain ⟨ρ232, w231⟩ := l225.1.2.1
      refine ⟨w231.km, rfl, _, _, _, _, _, _, c_Mo_bestSwap w231, ⟨Nat.le_of_ble_eq_true rfl, Nat.le_of_ble_eq_true rfl, by (try dsimp only); omega, by (try dsimp only); omega⟩, fun _ _ z => False.elim z, ?_⟩
      rintro v9 H229 ⟨st9, r9, rfl⟩
      have l230 := l225.mf w231 st9
      exact j_use hF (back _ _ _ l230 (by omega) (by omega)) (And.intro rfl (And.intro rfl (And.intro rfl (And.intro rfl (And.intro rfl trivial)))))
    · skip
      conv => whnf
      obtain ⟨ρ236, w235⟩ := l225.1.2.1
      refine ⟨w235.km, rfl, _, _, _, _, _, _, c_Mo_bestSwap w235, ⟨Nat.le_of_ble_eq_true rfl, Nat.le_of_ble_eq_true rfl, by (try dsimp only); omega, by (try dsimp only); omega⟩, fun _ _ z => False.elim z, ?_⟩
      rintro v9 H233 ⟨st9, r9, rfl⟩
      have l234 := l225.mf w235 st9
      exact j_use hF (back _ _ _ l234 (by omega) (by omega)) (And.intro rfl (And.intro rfl (And.intro rfl (And.intro rfl (And.intro rfl trivial)))))
set_option maxHeartbeats 4000000 in
set_option maxRecDepth 20000 in
theorem j_turn21 {J : j_J} {L sc x m out P G R Q cn sn : Nat} {i : Int32} {h : j_H} (hJ : j_Cl k_law j_lF j_lP j_no J) (hF : j_Fg J) (hL : L ≤ 2560) (i0 : 0 ≤ i.toInt) (i1 : i.toInt + 5 ≤ (L : Int)) (hc : cn ≤ 500000) (hs : sn ≤ 6000000) (lw : j_LW L sc x m out P G R Q h) (back : ∀ (h' : j_H) (cn' sn' : Nat), j_LW L sc x m out P G R Q h' → cn' ≤ cn + 200 → sn' ≤ sn + 2000 → J 1161 [some (j_r (some sc)), some (j_r (some x)), some (j_r (some m)), some (j_r (some out)), some (j_i i), none, none] [] h' cn' sn') : J 1055 [some (j_r (some sc)), some (j_r (some x)), some (j_r (some m)), some (j_r (some out)), some (j_i i), none, none] [] h cn sn := by
  have q1 : (i + Int32.ofInt (1)).toInt = i.toInt + 1 := j_inc1 (by omega)
  have q2 : (i + Int32.ofInt (2)).toInt = i.toInt + 2 := j_i2 i0 (by omega)
  have q3 : (i + Int32.ofInt (3)).toInt = i.toInt + 3 := j_i3 i0 (by omega)
  have q4 : (i + Int32.ofInt (4)).toInt = i.toInt + 4 := j_i4 i0 (by omega)
  refine hJ [1161] 400 _ _ _ _ _ _ ?_
  conv => whnf
  have lsv237 : j_ln h sc = L := lw.1.2.2.2.2.2.2
  refine ⟨_, _, rfl, lw.1.2.2.2.2.2.1, rfl, j_vp (by omega) (by rw [lsv237]; omega), fun v237 ev237 => ?_⟩
  conv => whnf
  have lsv238 : j_ln h sc = L := lw.1.2.2.2.2.2.2
  refine ⟨_, _, rfl, lw.1.2.2.2.2.2.1, rfl, j_vp (by omega) (by rw [lsv238]; omega), fun v238 ev238 => ?_⟩
  conv => whnf
  refine ⟨rfl, _, _, _, _, _, _, c_Lw_changedx lw.1.1 lw.2.1 lw.2.2.1.1 lw.1.2.2.1, ⟨Nat.le_of_ble_eq_true rfl, Nat.le_of_ble_eq_true rfl, by (try dsimp only); omega, by (try dsimp only); omega⟩, fun _ _ z => False.elim z, ?_⟩
  rintro u9 H239 a
  obtain rfl := a.1
  obtain ⟨l1, s1, m1⟩ := lw.1.lq a
  conv => whnf
  have lsv241 : j_ln H239 sc = L := l1.2.2.2.2.2.2
  refine ⟨_, _, rfl, l1.2.2.2.2.2.1, rfl, j_vp (by omega) (by rw [lsv241]; omega), fun v241 ev241 => ?_⟩
  obtain rfl : v237 = v241 := ev237.symm.trans ((s1 _).symm.trans ev241)
  conv => whnf
  have lsv242 : j_ln H239 sc = L := l1.2.2.2.2.2.2
  refine ⟨_, _, rfl, l1.2.2.2.2.2.1, rfl, j_vp (by omega) (by rw [lsv242]; omega), fun v242 ev242 => ?_⟩
  obtain rfl : v238 = v242 := ev238.symm.trans ((s1 _).symm.trans ev242)
  conv => whnf
  obtain ⟨ρ9, w9⟩ := l1.2.1
  have eq9 : z_eq (z_d H239 m P G R Q) (z_c h x) := m1.tr lw.2.2.2
  have V := lw.2.2.1.1
  have B := lw.2.2.1.2
  refine ⟨w9.km, rfl, _, _, _, _, _, _, c_Mo_changedz w9 (V.eq eq9) (B.eq eq9), ⟨Nat.le_of_ble_eq_true rfl, Nat.le_of_ble_eq_true rfl, by (try dsimp only); omega, by (try dsimp only); omega⟩, fun _ _ z => False.elim z, ?_⟩
  rintro u9 H243 b
  have hq : q_pace v237 v238 = q_pace v237 v238 := rfl
  obtain ⟨lw2, o2⟩ := lw.told a b.ms hq (fun _ => eq9) (fun _ => ⟨V, B⟩)
  obtain ⟨r9, rfl⟩ := b.2.2.2.2.2.2
  exact j_use hF (back _ _ _ lw2 (by omega) (by omega)) (And.intro rfl (And.intro rfl (And.intro rfl (And.intro rfl (And.intro rfl trivial)))))
set_option maxHeartbeats 4000000 in
set_option maxRecDepth 20000 in
theorem j_turn22 {J : j_J} {L sc x m out P G R Q cn sn : Nat} {i : Int32} {h : j_H} (hJ : j_Cl k_law j_lF j_lP j_no J) (hF : j_Fg J) (hL : L ≤ 2560) (i0 : 0 ≤ i.toInt) (i1 : i.toInt + 5 ≤ (L : Int)) (hc : cn ≤ 500000) (hs : sn ≤ 6000000) (lw : j_LW L sc x m out P G R Q h) (back : ∀ (h' : j_H) (cn' sn' : Nat), j_LW L sc x m out P G R Q h' → cn' ≤ cn + 200 → sn' ≤ sn + 2000 → J 1161 [some (j_r (some sc)), some (j_r (some x)), some (j_r (some m)), some (j_r (some out)), some (j_i i), none, none] [] h' cn' sn') : J 1095 [some (j_r (some sc)), some (j_r (some x)), some (j_r (some m)), some (j_r (some out)), some (j_i i), none, none] [] h cn sn := by
  have q1 : (i + Int32.ofInt (1)).toInt = i.toInt + 1 := j_inc1 (by omega)
  have q2 : (i + Int32.ofInt (2)).toInt = i.toInt + 2 := j_i2 i0 (by omega)
  have q3 : (i + Int32.ofInt (3)).toInt = i.toInt + 3 := j_i3 i0 (by omega)
  have q4 : (i + Int32.ofInt (4)).toInt = i.toInt + 4 := j_i4 i0 (by omega)
  refine hJ [1161] 400 _ _ _ _ _ _ ?_
  conv => whnf
  have lsv245 : j_ln h sc = L := lw.1.2.2.2.2.2.2
  refine ⟨_, _, rfl, lw.1.2.2.2.2.2.1, rfl, j_vp (by omega) (by rw [lsv245]; omega), fun v245 ev245 => ?_⟩
  conv => whnf
  have lsv246 : j_ln h sc = L := lw.1.2.2.2.2.2.2
  refine ⟨_, _, rfl, lw.1.2.2.2.2.2.1, rfl, j_vp (by omega) (by rw [lsv246]; omega), fun v246 ev246 => ?_⟩
  conv => whnf
  refine ⟨rfl, _, _, _, _, _, _, c_Lw_widerx lw.1.1 lw.2.1 lw.1.2.2.1, ⟨Nat.le_of_ble_eq_true rfl, Nat.le_of_ble_eq_true rfl, by (try dsimp only); omega, by (try dsimp only); omega⟩, fun _ _ z => False.elim z, ?_⟩
  rintro u9 H247 a
  obtain rfl := a.1
  obtain ⟨l1, s1, m1⟩ := lw.1.lq a
  conv => whnf
  have lsv249 : j_ln H247 sc = L := l1.2.2.2.2.2.2
  refine ⟨_, _, rfl, l1.2.2.2.2.2.1, rfl, j_vp (by omega) (by rw [lsv249]; omega), fun v249 ev249 => ?_⟩
  obtain rfl : v245 = v249 := ev245.symm.trans ((s1 _).symm.trans ev249)
  conv => whnf
  have lsv250 : j_ln H247 sc = L := l1.2.2.2.2.2.2
  refine ⟨_, _, rfl, l1.2.2.2.2.2.1, rfl, j_vp (by omega) (by rw [lsv250]; omega), fun v250 ev250 => ?_⟩
  obtain rfl : v246 = v250 := ev246.symm.trans ((s1 _).symm.trans ev250)
  conv => whnf
  obtain ⟨ρ9, w9⟩ := l1.2.1
  have eq9 : z_eq (z_d H247 m P G R Q) (z_c h x) := m1.tr lw.2.2.2
  have V := lw.2.2.1.1
  have B := lw.2.2.1.2
  refine ⟨w9.km, rfl, _, _, _, _, _, _, c_Mo_widerz w9 (V.eq eq9), ⟨Nat.le_of_ble_eq_true rfl, Nat.le_of_ble_eq_true rfl, by (try dsimp only); omega, by (try dsimp only); omega⟩, fun _ _ z => False.elim z, ?_⟩
  rintro u9 H251 b
  have hq : q_wider (z_d H247 m P G R Q) v245 v246 = q_wider (z_c h x) v245 v246 := q_wider_c eq9
  obtain ⟨lw2, o2⟩ := lw.told a b.ms hq (fun _ => eq9) (fun _ => ⟨V, B⟩)
  obtain ⟨r9, rfl⟩ := b.2.2.2.2.2.2
  exact j_use hF (back _ _ _ lw2 (by omega) (by omega)) (And.intro rfl (And.intro rfl (And.intro rfl (And.intro rfl (And.intro rfl trivial)))))
set_option maxHeartbeats 4000000 in
set_option maxRecDepth 20000 in
theorem j_turn23 {J : j_J} {L sc x m out P G R Q cn sn : Nat} {i : Int32} {h : j_H} (hJ : j_Cl k_law j_lF j_lP j_no J) (hF : j_Fg J) (hL : L ≤ 2560) (i0 : 0 ≤ i.toInt) (i1 : i.toInt + 5 ≤ (L : Int)) (hc : cn ≤ 500000) (hs : sn ≤ 6000000) (lw : j_LW L sc x m out P G R Q h) (back : ∀ (h' : j_H) (cn' sn' : Nat), j_LW L sc x m out P G R Q h' → cn' ≤ cn + 200 → sn' ≤ sn + 2000 → J 1161 [some (j_r (some sc)), some (j_r (some x)), some (j_r (some m)), some (j_r (some out)), some (j_i i), none, none] [] h' cn' sn') : J 1135 [some (j_r (some sc)), some (j_r (some x)), some (j_r (some m)), some (j_r (some out)), some (j_i i), none, none] [] h cn sn := by
  have q1 : (i + Int32.ofInt (1)).toInt = i.toInt + 1 := j_inc1 (by omega)
  have q2 : (i + Int32.ofInt (2)).toInt = i.toInt + 2 := j_i2 i0 (by omega)
  have q3 : (i + Int32.ofInt (3)).toInt = i.toInt + 3 := j_i3 i0 (by omega)
  have q4 : (i + Int32.ofInt (4)).toInt = i.toInt + 4 := j_i4 i0 (by omega)
  refine hJ [1161] 400 _ _ _ _ _ _ ?_
  conv => whnf
  refine ⟨lw.1.1.1, rfl, _, _, _, _, _, _, c_G_isSound (h := h) lw.1.1 j_Sc.rf, ⟨Nat.le_of_ble_eq_true rfl, Nat.le_of_ble_eq_true rfl, by (try dsimp only); omega, by (try dsimp only); omega⟩, fun _ _ z => False.elim z, ?_⟩
  rintro v9 H253 ⟨it255, e9, s9, r9, rfl, -⟩
  have fr9 : z_Fo x out h H253 := by rw [e9]; exact z_Fo.of (z_notes lw.1.1 lw.2.1 s9)
  have l254 := (lw.fo fr9).1
  conv => whnf
  obtain ⟨ρ259, w258⟩ := l254.1.2.1
  refine ⟨w258.km, rfl, _, _, _, _, _, _, c_Mo_isSound w258, ⟨Nat.le_of_ble_eq_true rfl, Nat.le_of_ble_eq_true rfl, by (try dsimp only); omega, by (try dsimp only); omega⟩, fun _ _ z => False.elim z, ?_⟩
  rintro v9 H256 ⟨st9, r9, rfl, -⟩
  have l257 := l254.mf w258 st9
  exact j_use hF (back _ _ _ l257 (by omega) (by omega)) (And.intro rfl (And.intro rfl (And.intro rfl (And.intro rfl (And.intro rfl trivial)))))
set_option maxHeartbeats 4000000 in
set_option maxRecDepth 20000 in
theorem j_turn24 {J : j_J} {L sc x m out P G R Q cn sn : Nat} {i : Int32} {h : j_H} (hJ : j_Cl k_law j_lF j_lP j_no J) (hF : j_Fg J) (hL : L ≤ 2560) (i0 : 0 ≤ i.toInt) (i1 : i.toInt + 5 ≤ (L : Int)) (hc : cn ≤ 500000) (hs : sn ≤ 6000000) (lw : j_LW L sc x m out P G R Q h) (back : ∀ (h' : j_H) (cn' sn' : Nat), j_LW L sc x m out P G R Q h' → cn' ≤ cn + 200 → sn' ≤ sn + 2000 → J 1161 [some (j_r (some sc)), some (j_r (some x)), some (j_r (some m)), some (j_r (some out)), some (j_i i), none, none] [] h' cn' sn') : J 1148 [some (j_r (some sc)), some (j_r (some x)), some (j_r (some m)), some (j_r (some out)), some (j_i i), none, none] [] h cn sn := by
  have q1 : (i + Int32.ofInt (1)).toInt = i.toInt + 1 := j_inc1 (by omega)
  have q2 : (i + Int32.ofInt (2)).toInt = i.toInt + 2 := j_i2 i0 (by omega)
  have q3 : (i + Int32.ofInt (3)).toInt = i.toInt + 3 := j_i3 i0 (by omega)
  have q4 : (i + Int32.ofInt (4)).toInt = i.toInt + 4 := j_i4 i0 (by omega)
  refine hJ [1161] 400 _ _ _ _ _ _ ?_
  conv => whnf
  refine ⟨lw.1.1.1, rfl, _, _, _, _, _, _, c_G_digest (h := h) lw.1.1 j_Sc.rf, ⟨Nat.le_of_ble_eq_true rfl, Nat.le_of_ble_eq_true rfl, by (try dsimp only); omega, by (try dsimp only); omega⟩, fun _ _ z => False.elim z, ?_⟩
  rintro v9 H260 ⟨it262, e9, s9, r9, rfl⟩
  have fr9 : z_Fo x out h H260 := by rw [e9]; exact z_Fo.of (z_notes lw.1.1 lw.2.1 s9)
  have l261 := (lw.fo fr9).1
  conv => whnf
  obtain ⟨ρ266, w265⟩ := l261.1.2.1
  refine ⟨w265.km, rfl, _, _, _, _, _, _, c_Mo_digest w265, ⟨Nat.le_of_ble_eq_true rfl, Nat.le_of_ble_eq_true rfl, by (try dsimp only); omega, by (try dsimp only); omega⟩, fun _ _ z => False.elim z, ?_⟩
  rintro v9 H263 ⟨st9, r9, rfl⟩
  have l264 := l261.mf w265 st9
  exact j_use hF (back _ _ _ l264 (by omega) (by omega)) (And.intro rfl (And.intro rfl (And.intro rfl (And.intro rfl (And.intro rfl trivial)))))
set_option maxHeartbeats 4000000 in
set_option maxRecDepth 20000 in
theorem j_lawloop {J : j_J} {L sc x m out P G R Q : Nat} (hJ : j_Cl k_law j_lF j_lP j_no J) (hF : j_Fg J) (hL : L ≤ 2560) : ∀ (k : Nat) (i : Int32) (h : j_H) (cn sn : Nat), j_LW L sc x m out P G R Q h → 0 ≤ i.toInt → i.toInt ≤ (L : Int) → ((L : Int) + 5 - i.toInt) < (k : Int) → cn ≤ 100 + 40 * i.toInt.toNat → sn ≤ 1000 + 400 * i.toInt.toNat → J 27 [some (j_r (some sc)), some (j_r (some x)), some (j_r (some m)), some (j_r (some out)), some (j_i i), none, none] [] h cn sn := by
  intro k
  induction k with
  | zero => intro i h cn sn lw i0 i1 hk hc hs; omega
  | succ k ih =>
    intro i h cn sn lw i0 i1 hk hc hs
    have q5 : (Int32.ofInt 5).toInt = 5 := by decide
    have ls : j_ln h sc = L := lw.1.2.2.2.2.2.2
    have hn : (nI (j_ln h sc)).toInt = (L : Int) := by rw [ls]; exact nI_toInt (by omega)
    have hs5 : (nI (j_ln h sc) - Int32.ofInt 5).toInt = (L : Int) - 5 := by rw [j_subI (by rw [hn, q5]; omega) (by rw [hn, q5]; omega), hn, q5]
    refine hJ [156, 208, 236, 276, 316, 356, 384, 448, 476, 516, 585, 625, 665, 717, 773, 813, 841, 869, 921, 1001, 1014, 1055, 1095, 1135, 1148, 1161] 400 _ _ _ _ _ _ ?_
    conv => whnf
    refine ⟨_, _, rfl, lw.1.2.2.2.2.2.1, ?_⟩
    conv => whnf
    refine ⟨fun c => ?_, fun c => ?_⟩
    · conv => whnf
      exact ⟨Or.inr rfl, ⟨by (try dsimp only); omega, by (try dsimp only); omega⟩, rfl⟩
    have c : ¬ (nI (j_ln h sc) - Int32.ofInt 5).toInt < i.toInt := c
    rw [hs5] at c
    have back : ∀ (h' : j_H) (cn' sn' : Nat), j_LW L sc x m out P G R Q h' → cn' ≤ cn + 200 → sn' ≤ sn + 2000 → J 1161 [some (j_r (some sc)), some (j_r (some x)), some (j_r (some m)), some (j_r (some out)), some (j_i i), none, none] [] h' cn' sn' := by
      intro h' cn' sn' lw' hc' hs'
      have t : (i + Int32.ofInt (5)).toInt = i.toInt + 5 := j_i5 i0 (by omega)
      refine hJ [27] 400 _ _ _ _ _ _ ?_
      conv => whnf
      exact j_use hF (ih (i + Int32.ofInt (5)) h' cn' sn' lw' (by omega) (by omega) (by omega) (by omega) (by omega)) (And.intro rfl (And.intro rfl (And.intro rfl (And.intro rfl (And.intro rfl trivial)))))
    conv => whnf
    refine ⟨_, _, rfl, lw.1.2.2.2.2.2.1, rfl, j_vp (by omega) (by omega), fun v _ => ?_⟩
    conv => whnf
    refine ⟨And.intro (fun _ => ?_) (And.intro (fun _ => ?_) (And.intro (fun _ => ?_) (And.intro (fun _ => ?_) (And.intro (fun _ => ?_) (And.intro (fun _ => ?_) (And.intro (fun _ => ?_) (And.intro (fun _ => ?_) (And.intro (fun _ => ?_) (And.intro (fun _ => ?_) (And.intro (fun _ => ?_) (And.intro (fun _ => ?_) (And.intro (fun _ => ?_) (And.intro (fun _ => ?_) (And.intro (fun _ => ?_) (And.intro (fun _ => ?_) (And.intro (fun _ => ?_) (And.intro (fun _ => ?_) (And.intro (fun _ => ?_) (And.intro (fun _ => ?_) (And.intro (fun _ => ?_) (And.intro (fun _ => ?_) (And.intro (fun _ => ?_) (And.intro (fun _ => ?_) (And.intro (fun _ => ?_) (trivial))))))))))))))))))))))))), fun _ => ?_⟩
    · exact j_use hF (j_turn0 hJ hF hL i0 (by omega) (by omega) (by omega) lw back) (And.intro rfl (And.intro rfl (And.intro rfl (And.intro rfl (And.intro rfl trivial)))))
    · exact j_use hF (j_turn1 hJ hF hL i0 (by omega) (by omega) (by omega) lw back) (And.intro rfl (And.intro rfl (And.intro rfl (And.intro rfl (And.intro rfl trivial)))))
    · exact j_use hF (j_turn2 hJ hF hL i0 (by omega) (by omega) (by omega) lw back) (And.intro rfl (And.intro rfl (And.intro rfl (And.intro rfl (And.intro rfl trivial)))))
    · exact j_use hF (j_turn3 hJ hF hL i0 (by omega) (by omega) (by omega) lw back) (And.intro rfl (And.intro rfl (And.intro rfl (And.intro rfl (And.intro rfl trivial)))))
    · exact j_use hF (j_turn4 hJ hF hL i0 (by omega) (by omega) (by omega) lw back) (And.intro rfl (And.intro rfl (And.intro rfl (And.intro rfl (And.intro rfl trivial)))))
    · exact j_use hF (j_turn5 hJ hF hL i0 (by omega) (by omega) (by omega) lw back) (And.intro rfl (And.intro rfl (And.intro rfl (And.intro rfl (And.intro rfl trivial)))))
    · exact j_use hF (j_turn6 hJ hF hL i0 (by omega) (by omega) (by omega) lw back) (And.intro rfl (And.intro rfl (And.intro rfl (And.intro rfl (And.intro rfl trivial)))))
    · exact j_use hF (j_turn7 hJ hF hL i0 (by omega) (by omega) (by omega) lw back) (And.intro rfl (And.intro rfl (And.intro rfl (And.intro rfl (And.intro rfl trivial)))))
    · exact j_use hF (j_turn8 hJ hF hL i0 (by omega) (by omega) (by omega) lw back) (And.intro rfl (And.intro rfl (And.intro rfl (And.intro rfl (And.intro rfl trivial)))))
    · exact j_use hF (j_turn9 hJ hF hL i0 (by omega) (by omega) (by omega) lw back) (And.intro rfl (And.intro rfl (And.intro rfl (And.intro rfl (And.intro rfl trivial)))))
    · exact j_use hF (j_turn10 hJ hF hL i0 (by omega) (by omega) (by omega) lw back) (And.intro rfl (And.intro rfl (And.intro rfl (And.intro rfl (And.intro rfl trivial)))))
    · exact j_use hF (j_turn11 hJ hF hL i0 (by omega) (by omega) (by omega) lw back) (And.intro rfl (And.intro rfl (And.intro rfl (And.intro rfl (And.intro rfl trivial)))))
    · exact j_use hF (j_turn12 hJ hF hL i0 (by omega) (by omega) (by omega) lw back) (And.intro rfl (And.intro rfl (And.intro rfl (And.intro rfl (And.intro rfl trivial)))))
    · exact j_use hF (j_turn13 hJ hF hL i0 (by omega) (by omega) (by omega) lw back) (And.intro rfl (And.intro rfl (And.intro rfl (And.intro rfl (And.intro rfl trivial)))))
    · exact j_use hF (j_turn14 hJ hF hL i0 (by omega) (by omega) (by omega) lw back) (And.intro rfl (And.intro rfl (And.intro rfl (And.intro rfl (And.intro rfl trivial)))))
    · exact j_use hF (j_turn15 hJ hF hL i0 (by omega) (by omega) (by omega) lw back) (And.intro rfl (And.intro rfl (And.intro rfl (And.intro rfl (And.intro rfl trivial)))))
    · exact j_use hF (j_turn16 hJ hF hL i0 (by omega) (by omega) (by omega) lw back) (And.intro rfl (And.intro rfl (And.intro rfl (And.intro rfl (And.intro rfl trivial)))))
    · exact j_use hF (j_turn17 hJ hF hL i0 (by omega) (by omega) (by omega) lw back) (And.intro rfl (And.intro rfl (And.intro rfl (And.intro rfl (And.intro rfl trivial)))))
    · exact j_use hF (j_turn18 hJ hF hL i0 (by omega) (by omega) (by omega) lw back) (And.intro rfl (And.intro rfl (And.intro rfl (And.intro rfl (And.intro rfl trivial)))))
    · exact j_use hF (j_turn19 hJ hF hL i0 (by omega) (by omega) (by omega) lw back) (And.intro rfl (And.intro rfl (And.intro rfl (And.intro rfl (And.intro rfl trivial)))))
    · exact j_use hF (j_turn20 hJ hF hL i0 (by omega) (by omega) (by omega) lw back) (And.intro rfl (And.intro rfl (And.intro rfl (And.intro rfl (And.intro rfl trivial)))))
    · exact j_use hF (j_turn21 hJ hF hL i0 (by omega) (by omega) (by omega) lw back) (And.intro rfl (And.intro rfl (And.intro rfl (And.intro rfl (And.intro rfl trivial)))))
    · exact j_use hF (j_turn22 hJ hF hL i0 (by omega) (by omega) (by omega) lw back) (And.intro rfl (And.intro rfl (And.intro rfl (And.intro rfl (And.intro rfl trivial)))))
    · exact j_use hF (j_turn23 hJ hF hL i0 (by omega) (by omega) (by omega) lw back) (And.intro rfl (And.intro rfl (And.intro rfl (And.intro rfl (And.intro rfl trivial)))))
    · exact j_use hF (j_turn24 hJ hF hL i0 (by omega) (by omega) (by omega) lw back) (And.intro rfl (And.intro rfl (And.intro rfl (And.intro rfl (And.intro rfl trivial)))))
    · exact j_use hF (back h cn sn lw (by omega) (by omega)) (And.intro rfl (And.intro rfl (And.intro rfl (And.intro rfl (And.intro rfl trivial)))))
