/-! the law's turns, one by one -/
theorem j_i2 {i : Int32} (h0 : 0 ≤ i.toInt) (h1 : i.toInt ≤ 100000) : (i + Int32.ofInt (2)).toInt = i.toInt + 2 := by
  have e : (Int32.ofInt (2)).toInt = 2 := by decide
  rw [j_addI (by omega) (by omega), e]
theorem j_i3 {i : Int32} (h0 : 0 ≤ i.toInt) (h1 : i.toInt ≤ 100000) : (i + Int32.ofInt (3)).toInt = i.toInt + 3 := by
  have e : (Int32.ofInt (3)).toInt = 3 := by decide
  rw [j_addI (by omega) (by omega), e]
theorem j_i4 {i : Int32} (h0 : 0 ≤ i.toInt) (h1 : i.toInt ≤ 100000) : (i + Int32.ofInt (4)).toInt = i.toInt + 4 := by
  have e : (Int32.ofInt (4)).toInt = 4 := by decide
  rw [j_addI (by omega) (by omega), e]
theorem j_i5 {i : Int32} (h0 : 0 ≤ i.toInt) (h1 : i.toInt ≤ 100000) : (i + Int32.ofInt (5)).toInt = i.toInt + 5 := by
  have e : (Int32.ofInt (5)).toInt = 5 := by decide
  rw [j_addI (by omega) (by omega), e]
abbrev j_lF : j_F := (7, some .boolean, 2048, 84000, 601024, 7293033)
def j_lP : Option j_V → j_H → Prop := fun v _ => v = some (j_i (Int32.ofInt 1))
theorem j_cmp0 (x : Int64) : (lg_cmp x x).toInt = 0 := by
  have e : lg_cmp x x = 0 := by
    unfold lg_cmp
    simp
  rw [e]
  decide
set_option maxHeartbeats 4000000 in
set_option maxRecDepth 20000 in
theorem j_turn0 {J : j_J} {L sc x m out P G R Q cn sn : Nat} {i : Int32} {h : j_H} (hJ : j_Cl k_law j_lF j_lP j_no J) (hF : j_Fg J) (hL : L ≤ 2560) (i0 : 0 ≤ i.toInt) (i1 : i.toInt + 5 ≤ (L : Int)) (hc : cn ≤ 500000) (hs : sn ≤ 6000000) (lw : j_LW L sc x m out P G R Q h) (back : ∀ (h' : j_H) (cn' sn' : Nat), j_LW L sc x m out P G R Q h' → cn' ≤ cn + 200 → sn' ≤ sn + 2000 → J 1161 [some (j_r (some sc)), some (j_r (some x)), some (j_r (some m)), some (j_r (some out)), some (j_i i), none, none] [] h' cn' sn') : J 156 [some (j_r (some sc)), some (j_r (some x)), some (j_r (some m)), some (j_r (some out)), some (j_i i), none, none] [] h cn sn := by
  have q1 : (i + Int32.ofInt (1)).toInt = i.toInt + 1 := j_inc1 (by omega)
  have q2 : (i + Int32.ofInt (2)).toInt = i.toInt + 2 := j_i2 i0 (by omega)
  have q3 : (i + Int32.ofInt (3)).toInt = i.toInt + 3 := j_i3 i0 (by omega)
  have q4 : (i + Int32.ofInt (4)).toInt = i.toInt + 4 := j_i4 i0 (by omega)
  refine hJ [1161] 400 _ _ _ _ _ _ ?_
  conv => whnf
  have lsv1 : j_ln h sc = L := lw.1.2.2.2.2.2.2
  refine ⟨_, _, rfl, lw.1.2.2.2.2.2.1, rfl, j_vp (by omega) (by rw [lsv1]; omega), fun v1 ev1 => ?_⟩
  conv => whnf
  have lsv2 : j_ln h sc = L := lw.1.2.2.2.2.2.2
  refine ⟨_, _, rfl, lw.1.2.2.2.2.2.1, rfl, j_vp (by omega) (by rw [lsv2]; omega), fun v2 ev2 => ?_⟩
  conv => whnf
  have lsv3 : j_ln h sc = L := lw.1.2.2.2.2.2.2
  refine ⟨_, _, rfl, lw.1.2.2.2.2.2.1, rfl, j_vp (by omega) (by rw [lsv3]; omega), fun v3 ev3 => ?_⟩
  conv => whnf
  refine ⟨rfl, _, _, _, _, _, _, c_Lw_grainz lw.1.1 lw.2.1 lw.1.2.2.1, ⟨Nat.le_of_ble_eq_true rfl, Nat.le_of_ble_eq_true rfl, by (try dsimp only); omega, by (try dsimp only); omega⟩, fun _ _ z => False.elim z, ?_⟩
  rintro u9 H4 a
  obtain rfl := a.1
  obtain ⟨l1, s1, m1⟩ := lw.1.lq a
  conv => whnf
  have lsv6 : j_ln H4 sc = L := l1.2.2.2.2.2.2
  refine ⟨_, _, rfl, l1.2.2.2.2.2.1, rfl, j_vp (by omega) (by rw [lsv6]; omega), fun v6 ev6 => ?_⟩
  obtain rfl : v1 = v6 := ev1.symm.trans ((s1 _).symm.trans ev6)
  conv => whnf
  have lsv7 : j_ln H4 sc = L := l1.2.2.2.2.2.2
  refine ⟨_, _, rfl, l1.2.2.2.2.2.1, rfl, j_vp (by omega) (by rw [lsv7]; omega), fun v7 ev7 => ?_⟩
  obtain rfl : v2 = v7 := ev2.symm.trans ((s1 _).symm.trans ev7)
  conv => whnf
  have lsv8 : j_ln H4 sc = L := l1.2.2.2.2.2.2
  refine ⟨_, _, rfl, l1.2.2.2.2.2.1, rfl, j_vp (by omega) (by rw [lsv8]; omega), fun v8 ev8 => ?_⟩
  obtain rfl : v3 = v8 := ev3.symm.trans ((s1 _).symm.trans ev8)
  conv => whnf
  obtain ⟨ρ9, w9⟩ := l1.2.1
  have eq9 : z_eq (z_d H4 m P G R Q) (z_c h x) := m1.tr lw.2.2.2
  have V := lw.2.2.1.1
  have B := lw.2.2.1.2
  refine ⟨w9.km, rfl, _, _, _, _, _, _, c_Mo_grainz w9, ⟨Nat.le_of_ble_eq_true rfl, Nat.le_of_ble_eq_true rfl, by (try dsimp only); omega, by (try dsimp only); omega⟩, fun _ _ z => False.elim z, ?_⟩
  rintro u9 H9 b
  have hq : q_grain (j_am H4 m P G R) v1 v2 v3 = q_grain (z_cn h x) v1 v2 v3 := q_grain_c (z_amc eq9)
  obtain ⟨lw2, o2⟩ := lw.told a b.ms hq (fun _ => cN_grain eq9 w9.b.1.2) (fun z => ⟨cV_grain V z, cB_grain B z⟩)
  obtain ⟨r9, rfl⟩ := b.2.2.2.2.2.2
  exact j_use hF (back _ _ _ lw2 (by omega) (by omega)) (And.intro rfl (And.intro rfl (And.intro rfl (And.intro rfl (And.intro rfl trivial)))))
set_option maxHeartbeats 4000000 in
set_option maxRecDepth 20000 in
theorem j_turn1 {J : j_J} {L sc x m out P G R Q cn sn : Nat} {i : Int32} {h : j_H} (hJ : j_Cl k_law j_lF j_lP j_no J) (hF : j_Fg J) (hL : L ≤ 2560) (i0 : 0 ≤ i.toInt) (i1 : i.toInt + 5 ≤ (L : Int)) (hc : cn ≤ 500000) (hs : sn ≤ 6000000) (lw : j_LW L sc x m out P G R Q h) (back : ∀ (h' : j_H) (cn' sn' : Nat), j_LW L sc x m out P G R Q h' → cn' ≤ cn + 200 → sn' ≤ sn + 2000 → J 1161 [some (j_r (some sc)), some (j_r (some x)), some (j_r (some m)), some (j_r (some out)), some (j_i i), none, none] [] h' cn' sn') : J 208 [some (j_r (some sc)), some (j_r (some x)), some (j_r (some m)), some (j_r (some out)), some (j_i i), none, none] [] h cn sn := by
  have q1 : (i + Int32.ofInt (1)).toInt = i.toInt + 1 := j_inc1 (by omega)
  have q2 : (i + Int32.ofInt (2)).toInt = i.toInt + 2 := j_i2 i0 (by omega)
  have q3 : (i + Int32.ofInt (3)).toInt = i.toInt + 3 := j_i3 i0 (by omega)
  have q4 : (i + Int32.ofInt (4)).toInt = i.toInt + 4 := j_i4 i0 (by omega)
  refine hJ [1161] 400 _ _ _ _ _ _ ?_
  conv => whnf
  have lsv11 : j_ln h sc = L := lw.1.2.2.2.2.2.2
  refine ⟨_, _, rfl, lw.1.2.2.2.2.2.1, rfl, j_vp (by omega) (by rw [lsv11]; omega), fun v11 ev11 => ?_⟩
  conv => whnf
  refine ⟨rfl, _, _, _, _, _, _, c_Lw_passz lw.1.1 lw.2.1 lw.2.2.1.1 lw.1.2.2.1, ⟨Nat.le_of_ble_eq_true rfl, Nat.le_of_ble_eq_true rfl, by (try dsimp only); omega, by (try dsimp only); omega⟩, fun _ _ z => False.elim z, ?_⟩
  rintro u9 H12 a
  obtain rfl := a.1
  obtain ⟨l1, s1, m1⟩ := lw.1.lq a
  conv => whnf
  have lsv14 : j_ln H12 sc = L := l1.2.2.2.2.2.2
  refine ⟨_, _, rfl, l1.2.2.2.2.2.1, rfl, j_vp (by omega) (by rw [lsv14]; omega), fun v14 ev14 => ?_⟩
  obtain rfl : v11 = v14 := ev11.symm.trans ((s1 _).symm.trans ev14)
  conv => whnf
  obtain ⟨ρ9, w9⟩ := l1.2.1
  have eq9 : z_eq (z_d H12 m P G R Q) (z_c h x) := m1.tr lw.2.2.2
  have V := lw.2.2.1.1
  have B := lw.2.2.1.2
  refine ⟨w9.km, rfl, _, _, _, _, _, _, c_Mo_passz w9 (V.eq eq9), ⟨Nat.le_of_ble_eq_true rfl, Nat.le_of_ble_eq_true rfl, by (try dsimp only); omega, by (try dsimp only); omega⟩, fun _ _ z => False.elim z, ?_⟩
  rintro u9 H15 b
  have hq : q_pass (z_dn H12 m P G R Q) v11 = q_pass (z_cn h x) v11 := by unfold q_pass; rw [show (z_dn H12 m P G R Q) 6 = (z_cn h x) 6 from eq9.1 6 (by decide)]
  obtain ⟨lw2, o2⟩ := lw.told a b.ms hq (fun _ => cN_pass eq9) (fun z => ⟨z_V.years V, cB_pass B z⟩)
  obtain ⟨r9, rfl⟩ := b.2.2.2.2.2.2
  exact j_use hF (back _ _ _ lw2 (by omega) (by omega)) (And.intro rfl (And.intro rfl (And.intro rfl (And.intro rfl (And.intro rfl trivial)))))
set_option maxHeartbeats 4000000 in
set_option maxRecDepth 20000 in
theorem j_turn2 {J : j_J} {L sc x m out P G R Q cn sn : Nat} {i : Int32} {h : j_H} (hJ : j_Cl k_law j_lF j_lP j_no J) (hF : j_Fg J) (hL : L ≤ 2560) (i0 : 0 ≤ i.toInt) (i1 : i.toInt + 5 ≤ (L : Int)) (hc : cn ≤ 500000) (hs : sn ≤ 6000000) (lw : j_LW L sc x m out P G R Q h) (back : ∀ (h' : j_H) (cn' sn' : Nat), j_LW L sc x m out P G R Q h' → cn' ≤ cn + 200 → sn' ≤ sn + 2000 → J 1161 [some (j_r (some sc)), some (j_r (some x)), some (j_r (some m)), some (j_r (some out)), some (j_i i), none, none] [] h' cn' sn') : J 236 [some (j_r (some sc)), some (j_r (some x)), some (j_r (some m)), some (j_r (some out)), some (j_i i), none, none] [] h cn sn := by
  have q1 : (i + Int32.ofInt (1)).toInt = i.toInt + 1 := j_inc1 (by omega)
  have q2 : (i + Int32.ofInt (2)).toInt = i.toInt + 2 := j_i2 i0 (by omega)
  have q3 : (i + Int32.ofInt (3)).toInt = i.toInt + 3 := j_i3 i0 (by omega)
  have q4 : (i + Int32.ofInt (4)).toInt = i.toInt + 4 := j_i4 i0 (by omega)
  refine hJ [1161] 400 _ _ _ _ _ _ ?_
  conv => whnf
  have lsv17 : j_ln h sc = L := lw.1.2.2.2.2.2.2
  refine ⟨_, _, rfl, lw.1.2.2.2.2.2.1, rfl, j_vp (by omega) (by rw [lsv17]; omega), fun v17 ev17 => ?_⟩
  conv => whnf
  have lsv18 : j_ln h sc = L := lw.1.2.2.2.2.2.2
  refine ⟨_, _, rfl, lw.1.2.2.2.2.2.1, rfl, j_vp (by omega) (by rw [lsv18]; omega), fun v18 ev18 => ?_⟩
  conv => whnf
  refine ⟨rfl, _, _, _, _, _, _, c_Lw_heatz lw.1.1 lw.2.1 lw.1.2.2.1, ⟨Nat.le_of_ble_eq_true rfl, Nat.le_of_ble_eq_true rfl, by (try dsimp only); omega, by (try dsimp only); omega⟩, fun _ _ z => False.elim z, ?_⟩
  rintro u9 H19 a
  obtain rfl := a.1
  obtain ⟨l1, s1, m1⟩ := lw.1.lq a
  conv => whnf
  have lsv21 : j_ln H19 sc = L := l1.2.2.2.2.2.2
  refine ⟨_, _, rfl, l1.2.2.2.2.2.1, rfl, j_vp (by omega) (by rw [lsv21]; omega), fun v21 ev21 => ?_⟩
  obtain rfl : v17 = v21 := ev17.symm.trans ((s1 _).symm.trans ev21)
  conv => whnf
  have lsv22 : j_ln H19 sc = L := l1.2.2.2.2.2.2
  refine ⟨_, _, rfl, l1.2.2.2.2.2.1, rfl, j_vp (by omega) (by rw [lsv22]; omega), fun v22 ev22 => ?_⟩
  obtain rfl : v18 = v22 := ev18.symm.trans ((s1 _).symm.trans ev22)
  conv => whnf
  obtain ⟨ρ9, w9⟩ := l1.2.1
  have eq9 : z_eq (z_d H19 m P G R Q) (z_c h x) := m1.tr lw.2.2.2
  have V := lw.2.2.1.1
  have B := lw.2.2.1.2
  refine ⟨w9.km, rfl, _, _, _, _, _, _, c_Mo_heatz w9, ⟨Nat.le_of_ble_eq_true rfl, Nat.le_of_ble_eq_true rfl, by (try dsimp only); omega, by (try dsimp only); omega⟩, fun _ _ z => False.elim z, ?_⟩
  rintro u9 H23 b
  have hq : q_touch (z_d H19 m P G R Q) v17 v18 = q_touch (z_c h x) v17 v18 := q_touch_c eq9
  obtain ⟨lw2, o2⟩ := lw.told a b.ms hq (fun _ => n_touch_c (by decide) eq9) (fun z => ⟨cV_touch (by decide) V z, cB_touch B⟩)
  obtain ⟨r9, rfl⟩ := b.2.2.2.2.2.2
  exact j_use hF (back _ _ _ lw2 (by omega) (by omega)) (And.intro rfl (And.intro rfl (And.intro rfl (And.intro rfl (And.intro rfl trivial)))))
set_option maxHeartbeats 4000000 in
set_option maxRecDepth 20000 in
theorem j_turn3 {J : j_J} {L sc x m out P G R Q cn sn : Nat} {i : Int32} {h : j_H} (hJ : j_Cl k_law j_lF j_lP j_no J) (hF : j_Fg J) (hL : L ≤ 2560) (i0 : 0 ≤ i.toInt) (i1 : i.toInt + 5 ≤ (L : Int)) (hc : cn ≤ 500000) (hs : sn ≤ 6000000) (lw : j_LW L sc x m out P G R Q h) (back : ∀ (h' : j_H) (cn' sn' : Nat), j_LW L sc x m out P G R Q h' → cn' ≤ cn + 200 → sn' ≤ sn + 2000 → J 1161 [some (j_r (some sc)), some (j_r (some x)), some (j_r (some m)), some (j_r (some out)), some (j_i i), none, none] [] h' cn' sn') : J 276 [some (j_r (some sc)), some (j_r (some x)), some (j_r (some m)), some (j_r (some out)), some (j_i i), none, none] [] h cn sn := by
  have q1 : (i + Int32.ofInt (1)).toInt = i.toInt + 1 := j_inc1 (by omega)
  have q2 : (i + Int32.ofInt (2)).toInt = i.toInt + 2 := j_i2 i0 (by omega)
  have q3 : (i + Int32.ofInt (3)).toInt = i.toInt + 3 := j_i3 i0 (by omega)
  have q4 : (i + Int32.ofInt (4)).toInt = i.toInt + 4 := j_i4 i0 (by omega)
  refine hJ [1161] 400 _ _ _ _ _ _ ?_
  conv => whnf
  have lsv25 : j_ln h sc = L := lw.1.2.2.2.2.2.2
  refine ⟨_, _, rfl, lw.1.2.2.2.2.2.1, rfl, j_vp (by omega) (by rw [lsv25]; omega), fun v25 ev25 => ?_⟩
  conv => whnf
  have lsv26 : j_ln h sc = L := lw.1.2.2.2.2.2.2
  refine ⟨_, _, rfl, lw.1.2.2.2.2.2.1, rfl, j_vp (by omega) (by rw [lsv26]; omega), fun v26 ev26 => ?_⟩
  conv => whnf
  refine ⟨rfl, _, _, _, _, _, _, c_Lw_washz lw.1.1 lw.2.1 lw.1.2.2.1, ⟨Nat.le_of_ble_eq_true rfl, Nat.le_of_ble_eq_true rfl, by (try dsimp only); omega, by (try dsimp only); omega⟩, fun _ _ z => False.elim z, ?_⟩
  rintro u9 H27 a
  obtain rfl := a.1
  obtain ⟨l1, s1, m1⟩ := lw.1.lq a
  conv => whnf
  have lsv29 : j_ln H27 sc = L := l1.2.2.2.2.2.2
  refine ⟨_, _, rfl, l1.2.2.2.2.2.1, rfl, j_vp (by omega) (by rw [lsv29]; omega), fun v29 ev29 => ?_⟩
  obtain rfl : v25 = v29 := ev25.symm.trans ((s1 _).symm.trans ev29)
  conv => whnf
  have lsv30 : j_ln H27 sc = L := l1.2.2.2.2.2.2
  refine ⟨_, _, rfl, l1.2.2.2.2.2.1, rfl, j_vp (by omega) (by rw [lsv30]; omega), fun v30 ev30 => ?_⟩
  obtain rfl : v26 = v30 := ev26.symm.trans ((s1 _).symm.trans ev30)
  conv => whnf
  obtain ⟨ρ9, w9⟩ := l1.2.1
  have eq9 : z_eq (z_d H27 m P G R Q) (z_c h x) := m1.tr lw.2.2.2
  have V := lw.2.2.1.1
  have B := lw.2.2.1.2
  refine ⟨w9.km, rfl, _, _, _, _, _, _, c_Mo_washz w9, ⟨Nat.le_of_ble_eq_true rfl, Nat.le_of_ble_eq_true rfl, by (try dsimp only); omega, by (try dsimp only); omega⟩, fun _ _ z => False.elim z, ?_⟩
  rintro u9 H31 b
  have hq : q_touch (z_d H27 m P G R Q) v25 v26 = q_touch (z_c h x) v25 v26 := q_touch_c eq9
  obtain ⟨lw2, o2⟩ := lw.told a b.ms hq (fun _ => n_touch_c (by decide) eq9) (fun z => ⟨cV_touch (by decide) V z, cB_touch B⟩)
  obtain ⟨r9, rfl⟩ := b.2.2.2.2.2.2
  exact j_use hF (back _ _ _ lw2 (by omega) (by omega)) (And.intro rfl (And.intro rfl (And.intro rfl (And.intro rfl (And.intro rfl trivial)))))
set_option maxHeartbeats 4000000 in
set_option maxRecDepth 20000 in
theorem j_turn4 {J : j_J} {L sc x m out P G R Q cn sn : Nat} {i : Int32} {h : j_H} (hJ : j_Cl k_law j_lF j_lP j_no J) (hF : j_Fg J) (hL : L ≤ 2560) (i0 : 0 ≤ i.toInt) (i1 : i.toInt + 5 ≤ (L : Int)) (hc : cn ≤ 500000) (hs : sn ≤ 6000000) (lw : j_LW L sc x m out P G R Q h) (back : ∀ (h' : j_H) (cn' sn' : Nat), j_LW L sc x m out P G R Q h' → cn' ≤ cn + 200 → sn' ≤ sn + 2000 → J 1161 [some (j_r (some sc)), some (j_r (some x)), some (j_r (some m)), some (j_r (some out)), some (j_i i), none, none] [] h' cn' sn') : J 316 [some (j_r (some sc)), some (j_r (some x)), some (j_r (some m)), some (j_r (some out)), some (j_i i), none, none] [] h cn sn := by
  have q1 : (i + Int32.ofInt (1)).toInt = i.toInt + 1 := j_inc1 (by omega)
  have q2 : (i + Int32.ofInt (2)).toInt = i.toInt + 2 := j_i2 i0 (by omega)
  have q3 : (i + Int32.ofInt (3)).toInt = i.toInt + 3 := j_i3 i0 (by omega)
  have q4 : (i + Int32.ofInt (4)).toInt = i.toInt + 4 := j_i4 i0 (by omega)
  refine hJ [1161] 400 _ _ _ _ _ _ ?_
  conv => whnf
  have lsv33 : j_ln h sc = L := lw.1.2.2.2.2.2.2
  refine ⟨_, _, rfl, lw.1.2.2.2.2.2.1, rfl, j_vp (by omega) (by rw [lsv33]; omega), fun v33 ev33 => ?_⟩
  conv => whnf
  have lsv34 : j_ln h sc = L := lw.1.2.2.2.2.2.2
  refine ⟨_, _, rfl, lw.1.2.2.2.2.2.1, rfl, j_vp (by omega) (by rw [lsv34]; omega), fun v34 ev34 => ?_⟩
  conv => whnf
  refine ⟨rfl, _, _, _, _, _, _, c_Lw_pacez lw.1.1 lw.2.1 lw.2.2.1.1 lw.1.2.2.1, ⟨Nat.le_of_ble_eq_true rfl, Nat.le_of_ble_eq_true rfl, by (try dsimp only); omega, by (try dsimp only); omega⟩, fun _ _ z => False.elim z, ?_⟩
  rintro u9 H35 a
  obtain rfl := a.1
  obtain ⟨l1, s1, m1⟩ := lw.1.lq a
  conv => whnf
  have lsv37 : j_ln H35 sc = L := l1.2.2.2.2.2.2
  refine ⟨_, _, rfl, l1.2.2.2.2.2.1, rfl, j_vp (by omega) (by rw [lsv37]; omega), fun v37 ev37 => ?_⟩
  obtain rfl : v33 = v37 := ev33.symm.trans ((s1 _).symm.trans ev37)
  conv => whnf
  have lsv38 : j_ln H35 sc = L := l1.2.2.2.2.2.2
  refine ⟨_, _, rfl, l1.2.2.2.2.2.1, rfl, j_vp (by omega) (by rw [lsv38]; omega), fun v38 ev38 => ?_⟩
  obtain rfl : v34 = v38 := ev34.symm.trans ((s1 _).symm.trans ev38)
  conv => whnf
  obtain ⟨ρ9, w9⟩ := l1.2.1
  have eq9 : z_eq (z_d H35 m P G R Q) (z_c h x) := m1.tr lw.2.2.2
  have V := lw.2.2.1.1
  have B := lw.2.2.1.2
  refine ⟨w9.km, rfl, _, _, _, _, _, _, c_Mo_pacez w9, ⟨Nat.le_of_ble_eq_true rfl, Nat.le_of_ble_eq_true rfl, by (try dsimp only); omega, by (try dsimp only); omega⟩, fun _ _ z => False.elim z, ?_⟩
  rintro u9 H39 b
  have hq : q_pace v33 v34 = q_pace v33 v34 := rfl
  obtain ⟨lw2, o2⟩ := lw.told a b.ms hq (fun _ => n_pacez_c eq9) (fun z => ⟨z_V.pace V (q_pace_z z), cB_pace B⟩)
  obtain ⟨r9, rfl⟩ := b.2.2.2.2.2.2
  exact j_use hF (back _ _ _ lw2 (by omega) (by omega)) (And.intro rfl (And.intro rfl (And.intro rfl (And.intro rfl (And.intro rfl trivial)))))
set_option maxHeartbeats 4000000 in
set_option maxRecDepth 20000 in
theorem j_turn5 {J : j_J} {L sc x m out P G R Q cn sn : Nat} {i : Int32} {h : j_H} (hJ : j_Cl k_law j_lF j_lP j_no J) (hF : j_Fg J) (hL : L ≤ 2560) (i0 : 0 ≤ i.toInt) (i1 : i.toInt + 5 ≤ (L : Int)) (hc : cn ≤ 500000) (hs : sn ≤ 6000000) (lw : j_LW L sc x m out P G R Q h) (back : ∀ (h' : j_H) (cn' sn' : Nat), j_LW L sc x m out P G R Q h' → cn' ≤ cn + 200 → sn' ≤ sn + 2000 → J 1161 [some (j_r (some sc)), some (j_r (some x)), some (j_r (some m)), some (j_r (some out)), some (j_i i), none, none] [] h' cn' sn') : J 356 [some (j_r (some sc)), some (j_r (some x)), some (j_r (some m)), some (j_r (some out)), some (j_i i), none, none] [] h cn sn := by
  have q1 : (i + Int32.ofInt (1)).toInt = i.toInt + 1 := j_inc1 (by omega)
  have q2 : (i + Int32.ofInt (2)).toInt = i.toInt + 2 := j_i2 i0 (by omega)
  have q3 : (i + Int32.ofInt (3)).toInt = i.toInt + 3 := j_i3 i0 (by omega)
  have q4 : (i + Int32.ofInt (4)).toInt = i.toInt + 4 := j_i4 i0 (by omega)
  refine hJ [1161] 400 _ _ _ _ _ _ ?_
  conv => whnf
  have lsv41 : j_ln h sc = L := lw.1.2.2.2.2.2.2
  refine ⟨_, _, rfl, lw.1.2.2.2.2.2.1, rfl, j_vp (by omega) (by rw [lsv41]; omega), fun v41 ev41 => ?_⟩
  conv => whnf
  refine ⟨rfl, _, _, _, _, _, _, c_Lw_slipz lw.1.1 lw.2.1 lw.1.2.2.1, ⟨Nat.le_of_ble_eq_true rfl, Nat.le_of_ble_eq_true rfl, by (try dsimp only); omega, by (try dsimp only); omega⟩, fun _ _ z => False.elim z, ?_⟩
  rintro u9 H42 a
  obtain rfl := a.1
  obtain ⟨l1, s1, m1⟩ := lw.1.lq a
  conv => whnf
  have lsv44 : j_ln H42 sc = L := l1.2.2.2.2.2.2
  refine ⟨_, _, rfl, l1.2.2.2.2.2.1, rfl, j_vp (by omega) (by rw [lsv44]; omega), fun v44 ev44 => ?_⟩
  obtain rfl : v41 = v44 := ev41.symm.trans ((s1 _).symm.trans ev44)
  conv => whnf
  obtain ⟨ρ9, w9⟩ := l1.2.1
  have eq9 : z_eq (z_d H42 m P G R Q) (z_c h x) := m1.tr lw.2.2.2
  have V := lw.2.2.1.1
  have B := lw.2.2.1.2
  refine ⟨w9.km, rfl, _, _, _, _, _, _, c_Mo_slipz w9, ⟨Nat.le_of_ble_eq_true rfl, Nat.le_of_ble_eq_true rfl, by (try dsimp only); omega, by (try dsimp only); omega⟩, fun _ _ z => False.elim z, ?_⟩
  rintro u9 H45 b
  have hq : q_slip v41 = q_slip v41 := rfl
  obtain ⟨lw2, o2⟩ := lw.told a b.ms hq (fun _ => n_slipz_c eq9) (fun z => ⟨z_V.slip V (q_slip_z z), cB_slip B⟩)
  obtain ⟨r9, rfl⟩ := b.2.2.2.2.2.2
  exact j_use hF (back _ _ _ lw2 (by omega) (by omega)) (And.intro rfl (And.intro rfl (And.intro rfl (And.intro rfl (And.intro rfl trivial)))))
set_option maxHeartbeats 4000000 in
set_option maxRecDepth 20000 in
theorem j_turn6 {J : j_J} {L sc x m out P G R Q cn sn : Nat} {i : Int32} {h : j_H} (hJ : j_Cl k_law j_lF j_lP j_no J) (hF : j_Fg J) (hL : L ≤ 2560) (i0 : 0 ≤ i.toInt) (i1 : i.toInt + 5 ≤ (L : Int)) (hc : cn ≤ 500000) (hs : sn ≤ 6000000) (lw : j_LW L sc x m out P G R Q h) (back : ∀ (h' : j_H) (cn' sn' : Nat), j_LW L sc x m out P G R Q h' → cn' ≤ cn + 200 → sn' ≤ sn + 2000 → J 1161 [some (j_r (some sc)), some (j_r (some x)), some (j_r (some m)), some (j_r (some out)), some (j_i i), none, none] [] h' cn' sn') : J 384 [some (j_r (some sc)), some (j_r (some x)), some (j_r (some m)), some (j_r (some out)), some (j_i i), none, none] [] h cn sn := by
  have q1 : (i + Int32.ofInt (1)).toInt = i.toInt + 1 := j_inc1 (by omega)
  have q2 : (i + Int32.ofInt (2)).toInt = i.toInt + 2 := j_i2 i0 (by omega)
  have q3 : (i + Int32.ofInt (3)).toInt = i.toInt + 3 := j_i3 i0 (by omega)
  have q4 : (i + Int32.ofInt (4)).toInt = i.toInt + 4 := j_i4 i0 (by omega)
  refine hJ [1161] 400 _ _ _ _ _ _ ?_
  conv => whnf
  have lsv47 : j_ln h sc = L := lw.1.2.2.2.2.2.2
  refine ⟨_, _, rfl, lw.1.2.2.2.2.2.1, rfl, j_vp (by omega) (by rw [lsv47]; omega), fun v47 ev47 => ?_⟩
  conv => whnf
  have lsv48 : j_ln h sc = L := lw.1.2.2.2.2.2.2
  refine ⟨_, _, rfl, lw.1.2.2.2.2.2.1, rfl, j_vp (by omega) (by rw [lsv48]; omega), fun v48 ev48 => ?_⟩
  conv => whnf
  have lsv49 : j_ln h sc = L := lw.1.2.2.2.2.2.2
  refine ⟨_, _, rfl, lw.1.2.2.2.2.2.1, rfl, j_vp (by omega) (by rw [lsv49]; omega), fun v49 ev49 => ?_⟩
  conv => whnf
  have lsv50 : j_ln h sc = L := lw.1.2.2.2.2.2.2
  refine ⟨_, _, rfl, lw.1.2.2.2.2.2.1, rfl, j_vp (by omega) (by rw [lsv50]; omega), fun v50 ev50 => ?_⟩
  conv => whnf
  refine ⟨rfl, _, _, _, _, _, _, c_Lw_runz lw.1.1 lw.2.1 lw.2.2.1.1 lw.1.2.2.1, ⟨Nat.le_of_ble_eq_true rfl, Nat.le_of_ble_eq_true rfl, by (try dsimp only); omega, by (try dsimp only); omega⟩, fun _ _ z => False.elim z, ?_⟩
  rintro u9 H51 a
  obtain rfl := a.1
  obtain ⟨l1, s1, m1⟩ := lw.1.lq a
  conv => whnf
  have lsv53 : j_ln H51 sc = L := l1.2.2.2.2.2.2
  refine ⟨_, _, rfl, l1.2.2.2.2.2.1, rfl, j_vp (by omega) (by rw [lsv53]; omega), fun v53 ev53 => ?_⟩
  obtain rfl : v47 = v53 := ev47.symm.trans ((s1 _).symm.trans ev53)
  conv => whnf
  have lsv54 : j_ln H51 sc = L := l1.2.2.2.2.2.2
  refine ⟨_, _, rfl, l1.2.2.2.2.2.1, rfl, j_vp (by omega) (by rw [lsv54]; omega), fun v54 ev54 => ?_⟩
  obtain rfl : v48 = v54 := ev48.symm.trans ((s1 _).symm.trans ev54)
  conv => whnf
  have lsv55 : j_ln H51 sc = L := l1.2.2.2.2.2.2
  refine ⟨_, _, rfl, l1.2.2.2.2.2.1, rfl, j_vp (by omega) (by rw [lsv55]; omega), fun v55 ev55 => ?_⟩
  obtain rfl : v49 = v55 := ev49.symm.trans ((s1 _).symm.trans ev55)
  conv => whnf
  have lsv56 : j_ln H51 sc = L := l1.2.2.2.2.2.2
  refine ⟨_, _, rfl, l1.2.2.2.2.2.1, rfl, j_vp (by omega) (by rw [lsv56]; omega), fun v56 ev56 => ?_⟩
  obtain rfl : v50 = v56 := ev50.symm.trans ((s1 _).symm.trans ev56)
  conv => whnf
  obtain ⟨ρ9, w9⟩ := l1.2.1
  have eq9 : z_eq (z_d H51 m P G R Q) (z_c h x) := m1.tr lw.2.2.2
  have V := lw.2.2.1.1
  have B := lw.2.2.1.2
  refine ⟨w9.km, rfl, _, _, _, _, _, _, c_Mo_runz w9, ⟨Nat.le_of_ble_eq_true rfl, Nat.le_of_ble_eq_true rfl, by (try dsimp only); omega, by (try dsimp only); omega⟩, fun _ _ z => False.elim z, ?_⟩
  rintro u9 H57 b
  have hq : q_run (j_am H51 m P G R) v47 v48 v49 v50 = q_run (z_cn h x) v47 v48 v49 v50 := q_run_c (z_amc eq9)
  obtain ⟨lw2, o2⟩ := lw.told a b.ms hq (fun z => (cN_run eq9.sy (by rw [← eq9.1 1 (by decide)]; exact w9.b.2.1.2) z).sy) (fun z => ⟨cV_run V z, cB_run B z⟩)
  obtain ⟨r9, rfl⟩ := b.2.2.2.2.2.2
  exact j_use hF (back _ _ _ lw2 (by omega) (by omega)) (And.intro rfl (And.intro rfl (And.intro rfl (And.intro rfl (And.intro rfl trivial)))))
set_option maxHeartbeats 4000000 in
set_option maxRecDepth 20000 in
theorem j_turn7 {J : j_J} {L sc x m out P G R Q cn sn : Nat} {i : Int32} {h : j_H} (hJ : j_Cl k_law j_lF j_lP j_no J) (hF : j_Fg J) (hL : L ≤ 2560) (i0 : 0 ≤ i.toInt) (i1 : i.toInt + 5 ≤ (L : Int)) (hc : cn ≤ 500000) (hs : sn ≤ 6000000) (lw : j_LW L sc x m out P G R Q h) (back : ∀ (h' : j_H) (cn' sn' : Nat), j_LW L sc x m out P G R Q h' → cn' ≤ cn + 200 → sn' ≤ sn + 2000 → J 1161 [some (j_r (some sc)), some (j_r (some x)), some (j_r (some m)), some (j_r (some out)), some (j_i i), none, none] [] h' cn' sn') : J 448 [some (j_r (some sc)), some (j_r (some x)), some (j_r (some m)), some (j_r (some out)), some (j_i i), none, none] [] h cn sn := by
  have q1 : (i + Int32.ofInt (1)).toInt = i.toInt + 1 := j_inc1 (by omega)
  have q2 : (i + Int32.ofInt (2)).toInt = i.toInt + 2 := j_i2 i0 (by omega)
  have q3 : (i + Int32.ofInt (3)).toInt = i.toInt + 3 := j_i3 i0 (by omega)
  have q4 : (i + Int32.ofInt (4)).toInt = i.toInt + 4 := j_i4 i0 (by omega)
  refine hJ [1161] 400 _ _ _ _ _ _ ?_
  conv => whnf
  have lsv59 : j_ln h sc = L := lw.1.2.2.2.2.2.2
  refine ⟨_, _, rfl, lw.1.2.2.2.2.2.1, rfl, j_vp (by omega) (by rw [lsv59]; omega), fun v59 ev59 => ?_⟩
  conv => whnf
  refine ⟨rfl, _, _, _, _, _, _, c_Lw_withdrawz lw.1.1 lw.2.1 lw.1.2.2.1, ⟨Nat.le_of_ble_eq_true rfl, Nat.le_of_ble_eq_true rfl, by (try dsimp only); omega, by (try dsimp only); omega⟩, fun _ _ z => False.elim z, ?_⟩
  rintro u9 H60 a
  obtain rfl := a.1
  obtain ⟨l1, s1, m1⟩ := lw.1.lq a
  conv => whnf
  have lsv62 : j_ln H60 sc = L := l1.2.2.2.2.2.2
  refine ⟨_, _, rfl, l1.2.2.2.2.2.1, rfl, j_vp (by omega) (by rw [lsv62]; omega), fun v62 ev62 => ?_⟩
  obtain rfl : v59 = v62 := ev59.symm.trans ((s1 _).symm.trans ev62)
  conv => whnf
  obtain ⟨ρ9, w9⟩ := l1.2.1
  have eq9 : z_eq (z_d H60 m P G R Q) (z_c h x) := m1.tr lw.2.2.2
  have V := lw.2.2.1.1
  have B := lw.2.2.1.2
  refine ⟨w9.km, rfl, _, _, _, _, _, _, c_Mo_withdrawz w9, ⟨Nat.le_of_ble_eq_true rfl, Nat.le_of_ble_eq_true rfl, by (try dsimp only); omega, by (try dsimp only); omega⟩, fun _ _ z => False.elim z, ?_⟩
  rintro u9 H63 b
  have hq : q_withdraw (z_d H60 m P G R Q) v59 = q_withdraw (z_c h x) v59 := q_withdraw_c eq9
  obtain ⟨lw2, o2⟩ := lw.told a b.ms hq (fun _ => n_withdraw_c eq9) (fun z => ⟨z_V.withdraw V, cB_withdraw B⟩)
  obtain ⟨r9, rfl⟩ := b.2.2.2.2.2.2
  exact j_use hF (back _ _ _ lw2 (by omega) (by omega)) (And.intro rfl (And.intro rfl (And.intro rfl (And.intro rfl (And.intro rfl trivial)))))
set_option maxHeartbeats 4000000 in
set_option maxRecDepth 20000 in
theorem j_turn8 {J : j_J} {L sc x m out P G R Q cn sn : Nat} {i : Int32} {h : j_H} (hJ : j_Cl k_law j_lF j_lP j_no J) (hF : j_Fg J) (hL : L ≤ 2560) (i0 : 0 ≤ i.toInt) (i1 : i.toInt + 5 ≤ (L : Int)) (hc : cn ≤ 500000) (hs : sn ≤ 6000000) (lw : j_LW L sc x m out P G R Q h) (back : ∀ (h' : j_H) (cn' sn' : Nat), j_LW L sc x m out P G R Q h' → cn' ≤ cn + 200 → sn' ≤ sn + 2000 → J 1161 [some (j_r (some sc)), some (j_r (some x)), some (j_r (some m)), some (j_r (some out)), some (j_i i), none, none] [] h' cn' sn') : J 476 [some (j_r (some sc)), some (j_r (some x)), some (j_r (some m)), some (j_r (some out)), some (j_i i), none, none] [] h cn sn := by
  have q1 : (i + Int32.ofInt (1)).toInt = i.toInt + 1 := j_inc1 (by omega)
  have q2 : (i + Int32.ofInt (2)).toInt = i.toInt + 2 := j_i2 i0 (by omega)
  have q3 : (i + Int32.ofInt (3)).toInt = i.toInt + 3 := j_i3 i0 (by omega)
  have q4 : (i + Int32.ofInt (4)).toInt = i.toInt + 4 := j_i4 i0 (by omega)
  refine hJ [1161] 400 _ _ _ _ _ _ ?_
  conv => whnf
  have lsv65 : j_ln h sc = L := lw.1.2.2.2.2.2.2
  refine ⟨_, _, rfl, lw.1.2.2.2.2.2.1, rfl, j_vp (by omega) (by rw [lsv65]; omega), fun v65 ev65 => ?_⟩
  conv => whnf
  have lsv66 : j_ln h sc = L := lw.1.2.2.2.2.2.2
  refine ⟨_, _, rfl, lw.1.2.2.2.2.2.1, rfl, j_vp (by omega) (by rw [lsv66]; omega), fun v66 ev66 => ?_⟩
  conv => whnf
  refine ⟨rfl, _, _, _, _, _, _, c_Lw_swapz lw.1.1 lw.2.1 lw.1.2.2.1, ⟨Nat.le_of_ble_eq_true rfl, Nat.le_of_ble_eq_true rfl, by (try dsimp only); omega, by (try dsimp only); omega⟩, fun _ _ z => False.elim z, ?_⟩
  rintro u9 H67 ⟨A9, a⟩
  obtain rfl := a.1
  obtain ⟨l1, s1, m1⟩ := lw.1.lq a
  conv => whnf
  have lsv69 : j_ln H67 sc = L := l1.2.2.2.2.2.2
  refine ⟨_, _, rfl, l1.2.2.2.2.2.1, rfl, j_vp (by omega) (by rw [lsv69]; omega), fun v69 ev69 => ?_⟩
  obtain rfl : v65 = v69 := ev65.symm.trans ((s1 _).symm.trans ev69)
  conv => whnf
  have lsv70 : j_ln H67 sc = L := l1.2.2.2.2.2.2
  refine ⟨_, _, rfl, l1.2.2.2.2.2.1, rfl, j_vp (by omega) (by rw [lsv70]; omega), fun v70 ev70 => ?_⟩
  obtain rfl : v66 = v70 := ev66.symm.trans ((s1 _).symm.trans ev70)
  conv => whnf
  obtain ⟨ρ9, w9⟩ := l1.2.1
  have eq9 : z_eq (z_d H67 m P G R Q) (z_c h x) := m1.tr lw.2.2.2
  have V := lw.2.2.1.1
  have B := lw.2.2.1.2
  refine ⟨w9.km, rfl, _, _, _, _, _, _, c_Mo_swapz w9, ⟨Nat.le_of_ble_eq_true rfl, Nat.le_of_ble_eq_true rfl, by (try dsimp only); omega, by (try dsimp only); omega⟩, fun _ _ z => False.elim z, ?_⟩
  rintro u9 H71 ⟨b, r9, rfl⟩
  have hq : q_swap (z_d H67 m P G R Q) v65 v66 = q_swap (z_c h x) v65 v66 := q_swap_c eq9
  obtain ⟨lw2, o2⟩ := lw.told a b hq (fun z => (cN_swap eq9.sy z).sy) (fun z => ⟨z_V.swap V, cB_swap B⟩)
  exact j_use hF (back _ _ _ lw2 (by omega) (by omega)) (And.intro rfl (And.intro rfl (And.intro rfl (And.intro rfl (And.intro rfl trivial)))))
set_option maxHeartbeats 4000000 in
set_option maxRecDepth 20000 in
theorem j_turn9 {J : j_J} {L sc x m out P G R Q cn sn : Nat} {i : Int32} {h : j_H} (hJ : j_Cl k_law j_lF j_lP j_no J) (hF : j_Fg J) (hL : L ≤ 2560) (i0 : 0 ≤ i.toInt) (i1 : i.toInt + 5 ≤ (L : Int)) (hc : cn ≤ 500000) (hs : sn ≤ 6000000) (lw : j_LW L sc x m out P G R Q h) (back : ∀ (h' : j_H) (cn' sn' : Nat), j_LW L sc x m out P G R Q h' → cn' ≤ cn + 200 → sn' ≤ sn + 2000 → J 1161 [some (j_r (some sc)), some (j_r (some x)), some (j_r (some m)), some (j_r (some out)), some (j_i i), none, none] [] h' cn' sn') : J 516 [some (j_r (some sc)), some (j_r (some x)), some (j_r (some m)), some (j_r (some out)), some (j_i i), none, none] [] h cn sn := by
  have q1 : (i + Int32.ofInt (1)).toInt = i.toInt + 1 := j_inc1 (by omega)
  have q2 : (i + Int32.ofInt (2)).toInt = i.toInt + 2 := j_i2 i0 (by omega)
  have q3 : (i + Int32.ofInt (3)).toInt = i.toInt + 3 := j_i3 i0 (by omega)
  have q4 : (i + Int32.ofInt (4)).toInt = i.toInt + 4 := j_i4 i0 (by omega)
  refine hJ [1161] 400 _ _ _ _ _ _ ?_
  conv => whnf
  have lsv73 : j_ln h sc = L := lw.1.2.2.2.2.2.2
  refine ⟨_, _, rfl, lw.1.2.2.2.2.2.1, rfl, j_vp (by omega) (by rw [lsv73]; omega), fun v73 ev73 => ?_⟩
  conv => whnf
  have lsv74 : j_ln h sc = L := lw.1.2.2.2.2.2.2
  refine ⟨_, _, rfl, lw.1.2.2.2.2.2.1, rfl, j_vp (by omega) (by rw [lsv74]; omega), fun v74 ev74 => ?_⟩
  conv => whnf
  refine ⟨rfl, _, _, _, _, _, _, c_Lw_printz lw.1.1 lw.2.1 lw.1.2.2.1, ⟨Nat.le_of_ble_eq_true rfl, Nat.le_of_ble_eq_true rfl, by (try dsimp only); omega, by (try dsimp only); omega⟩, fun _ _ z => False.elim z, ?_⟩
  rintro u9 H75 a
  obtain rfl := a.1
  obtain ⟨l1, s1, m1⟩ := lw.1.lq a
  conv => whnf
  have lsv77 : j_ln H75 sc = L := l1.2.2.2.2.2.2
  refine ⟨_, _, rfl, l1.2.2.2.2.2.1, rfl, j_vp (by omega) (by rw [lsv77]; omega), fun v77 ev77 => ?_⟩
  obtain rfl : v73 = v77 := ev73.symm.trans ((s1 _).symm.trans ev77)
  conv => whnf
  have lsv78 : j_ln H75 sc = L := l1.2.2.2.2.2.2
  refine ⟨_, _, rfl, l1.2.2.2.2.2.1, rfl, j_vp (by omega) (by rw [lsv78]; omega), fun v78 ev78 => ?_⟩
  obtain rfl : v74 = v78 := ev74.symm.trans ((s1 _).symm.trans ev78)
  conv => whnf
  obtain ⟨ρ9, w9⟩ := l1.2.1
  have eq9 : z_eq (z_d H75 m P G R Q) (z_c h x) := m1.tr lw.2.2.2
  have V := lw.2.2.1.1
  have B := lw.2.2.1.2
  refine ⟨w9.km, rfl, _, _, _, _, _, _, c_Mo_printz w9, ⟨Nat.le_of_ble_eq_true rfl, Nat.le_of_ble_eq_true rfl, by (try dsimp only); omega, by (try dsimp only); omega⟩, fun _ _ z => False.elim z, ?_⟩
  rintro u9 H79 b
  have hq : q_print (z_d H75 m P G R Q) v73 v74 = q_print (z_c h x) v73 v74 := q_print_c eq9 w9.Pp
  obtain ⟨lw2, o2⟩ := lw.told a b.ms hq (fun z => (cN_print eq9.sy (by rw [← eq9.1 2 (by decide)]; exact w9.b.2.2.2) z).sy) (fun z => ⟨z_V.print V, cB_print B⟩)
  obtain ⟨r9, rfl⟩ := b.2.2.2.2.2.2
  exact j_use hF (back _ _ _ lw2 (by omega) (by omega)) (And.intro rfl (And.intro rfl (And.intro rfl (And.intro rfl (And.intro rfl trivial)))))
set_option maxHeartbeats 4000000 in
set_option maxRecDepth 20000 in
theorem j_turn10 {J : j_J} {L sc x m out P G R Q cn sn : Nat} {i : Int32} {h : j_H} (hJ : j_Cl k_law j_lF j_lP j_no J) (hF : j_Fg J) (hL : L ≤ 2560) (i0 : 0 ≤ i.toInt) (i1 : i.toInt + 5 ≤ (L : Int)) (hc : cn ≤ 500000) (hs : sn ≤ 6000000) (lw : j_LW L sc x m out P G R Q h) (back : ∀ (h' : j_H) (cn' sn' : Nat), j_LW L sc x m out P G R Q h' → cn' ≤ cn + 200 → sn' ≤ sn + 2000 → J 1161 [some (j_r (some sc)), some (j_r (some x)), some (j_r (some m)), some (j_r (some out)), some (j_i i), none, none] [] h' cn' sn') : J 556 [some (j_r (some sc)), some (j_r (some x)), some (j_r (some m)), some (j_r (some out)), some (j_i i), none, none] [] h cn sn := by
  have q1 : (i + Int32.ofInt (1)).toInt = i.toInt + 1 := j_inc1 (by omega)
  have q2 : (i + Int32.ofInt (2)).toInt = i.toInt + 2 := j_i2 i0 (by omega)
  have q3 : (i + Int32.ofInt (3)).toInt = i.toInt + 3 := j_i3 i0 (by omega)
  have q4 : (i + Int32.ofInt (4)).toInt = i.toInt + 4 := j_i4 i0 (by omega)
  refine hJ [1161] 400 _ _ _ _ _ _ ?_
  conv => whnf
  have lsv81 : j_ln h sc = L := lw.1.2.2.2.2.2.2
  refine ⟨_, _, rfl, lw.1.2.2.2.2.2.1, rfl, j_vp (by omega) (by rw [lsv81]; omega), fun v81 ev81 => ?_⟩
  conv => whnf
  have lsv82 : j_ln h sc = L := lw.1.2.2.2.2.2.2
  refine ⟨_, _, rfl, lw.1.2.2.2.2.2.1, rfl, j_vp (by omega) (by rw [lsv82]; omega), fun v82 ev82 => ?_⟩
  conv => whnf
  refine ⟨rfl, _, _, _, _, _, _, c_Lw_ofGrainx lw.1.1 lw.2.1 lw.1.2.2.1, ⟨Nat.le_of_ble_eq_true rfl, Nat.le_of_ble_eq_true rfl, by (try dsimp only); omega, by (try dsimp only); omega⟩, fun _ _ z => False.elim z, ?_⟩
  rintro u9 H83 a
  obtain rfl := a.1
  obtain ⟨l1, s1, m1⟩ := lw.1.lq a
  conv => whnf
  have lsv85 : j_ln H83 sc = L := l1.2.2.2.2.2.2
  refine ⟨_, _, rfl, l1.2.2.2.2.2.1, rfl, j_vp (by omega) (by rw [lsv85]; omega), fun v85 ev85 => ?_⟩
  obtain rfl : v81 = v85 := ev81.symm.trans ((s1 _).symm.trans ev85)
  conv => whnf
  have lsv86 : j_ln H83 sc = L := l1.2.2.2.2.2.2
  refine ⟨_, _, rfl, l1.2.2.2.2.2.1, rfl, j_vp (by omega) (by rw [lsv86]; omega), fun v86 ev86 => ?_⟩
  obtain rfl : v82 = v86 := ev82.symm.trans ((s1 _).symm.trans ev86)
  conv => whnf
  obtain ⟨ρ9, w9⟩ := l1.2.1
  have eq9 : z_eq (z_d H83 m P G R Q) (z_c h x) := m1.tr lw.2.2.2
  have V := lw.2.2.1.1
  have B := lw.2.2.1.2
  refine ⟨w9.km, rfl, _, _, _, _, _, _, c_Mo_ofGrainz w9, ⟨Nat.le_of_ble_eq_true rfl, Nat.le_of_ble_eq_true rfl, by (try dsimp only); omega, by (try dsimp only); omega⟩, fun _ _ z => False.elim z, ?_⟩
  rintro u9 H87 b
  have hq : q_ofGrain (z_d H83 m P G R Q) v81 v82 = q_ofGrain (z_c h x) v81 v82 := q_ofGrain_c eq9
  obtain ⟨lw2, o2⟩ := lw.told a b.ms hq (fun _ => eq9) (fun _ => ⟨V, B⟩)
  obtain ⟨r9, rfl⟩ := b.2.2.2.2.2.2
  exact j_use hF (back _ _ _ lw2 (by omega) (by omega)) (And.intro rfl (And.intro rfl (And.intro rfl (And.intro rfl (And.intro rfl trivial)))))
set_option maxHeartbeats 4000000 in
set_option maxRecDepth 20000 in
theorem j_turn11 {J : j_J} {L sc x m out P G R Q cn sn : Nat} {i : Int32} {h : j_H} (hJ : j_Cl k_law j_lF j_lP j_no J) (hF : j_Fg J) (hL : L ≤ 2560) (i0 : 0 ≤ i.toInt) (i1 : i.toInt + 5 ≤ (L : Int)) (hc : cn ≤ 500000) (hs : sn ≤ 6000000) (lw : j_LW L sc x m out P G R Q h) (back : ∀ (h' : j_H) (cn' sn' : Nat), j_LW L sc x m out P G R Q h' → cn' ≤ cn + 200 → sn' ≤ sn + 2000 → J 1161 [some (j_r (some sc)), some (j_r (some x)), some (j_r (some m)), some (j_r (some out)), some (j_i i), none, none] [] h' cn' sn') : J 596 [some (j_r (some sc)), some (j_r (some x)), some (j_r (some m)), some (j_r (some out)), some (j_i i), none, none] [] h cn sn := by
  have q1 : (i + Int32.ofInt (1)).toInt = i.toInt + 1 := j_inc1 (by omega)
  have q2 : (i + Int32.ofInt (2)).toInt = i.toInt + 2 := j_i2 i0 (by omega)
  have q3 : (i + Int32.ofInt (3)).toInt = i.toInt + 3 := j_i3 i0 (by omega)
  have q4 : (i + Int32.ofInt (4)).toInt = i.toInt + 4 := j_i4 i0 (by omega)
  refine hJ [1161] 400 _ _ _ _ _ _ ?_
  conv => whnf
  have lsv89 : j_ln h sc = L := lw.1.2.2.2.2.2.2
  refine ⟨_, _, rfl, lw.1.2.2.2.2.2.1, rfl, j_vp (by omega) (by rw [lsv89]; omega), fun v89 ev89 => ?_⟩
  conv => whnf
  have lsv90 : j_ln h sc = L := lw.1.2.2.2.2.2.2
  refine ⟨_, _, rfl, lw.1.2.2.2.2.2.1, rfl, j_vp (by omega) (by rw [lsv90]; omega), fun v90 ev90 => ?_⟩
  conv => whnf
  refine ⟨rfl, _, _, _, _, _, _, c_Lw_ofRunx lw.1.1 lw.2.1 lw.1.2.2.1, ⟨Nat.le_of_ble_eq_true rfl, Nat.le_of_ble_eq_true rfl, by (try dsimp only); omega, by (try dsimp only); omega⟩, fun _ _ z => False.elim z, ?_⟩
  rintro u9 H91 a
  obtain rfl := a.1
  obtain ⟨l1, s1, m1⟩ := lw.1.lq a
  conv => whnf
  have lsv93 : j_ln H91 sc = L := l1.2.2.2.2.2.2
  refine ⟨_, _, rfl, l1.2.2.2.2.2.1, rfl, j_vp (by omega) (by rw [lsv93]; omega), fun v93 ev93 => ?_⟩
  obtain rfl : v89 = v93 := ev89.symm.trans ((s1 _).symm.trans ev93)
  conv => whnf
  have lsv94 : j_ln H91 sc = L := l1.2.2.2.2.2.2
  refine ⟨_, _, rfl, l1.2.2.2.2.2.1, rfl, j_vp (by omega) (by rw [lsv94]; omega), fun v94 ev94 => ?_⟩
  obtain rfl : v90 = v94 := ev90.symm.trans ((s1 _).symm.trans ev94)
  conv => whnf
  obtain ⟨ρ9, w9⟩ := l1.2.1
  have eq9 : z_eq (z_d H91 m P G R Q) (z_c h x) := m1.tr lw.2.2.2
  have V := lw.2.2.1.1
  have B := lw.2.2.1.2
  refine ⟨w9.km, rfl, _, _, _, _, _, _, c_Mo_ofRunz w9 (V.eq eq9), ⟨Nat.le_of_ble_eq_true rfl, Nat.le_of_ble_eq_true rfl, by (try dsimp only); omega, by (try dsimp only); omega⟩, fun _ _ z => False.elim z, ?_⟩
  rintro u9 H95 b
  have hq : q_ofRun (z_d H91 m P G R Q) v89 v90 = q_ofRun (z_c h x) v89 v90 := q_ofRun_c eq9
  obtain ⟨lw2, o2⟩ := lw.told a b.ms hq (fun _ => eq9) (fun _ => ⟨V, B⟩)
  obtain ⟨r9, rfl⟩ := b.2.2.2.2.2.2
  exact j_use hF (back _ _ _ lw2 (by omega) (by omega)) (And.intro rfl (And.intro rfl (And.intro rfl (And.intro rfl (And.intro rfl trivial)))))
set_option maxHeartbeats 4000000 in
set_option maxRecDepth 20000 in
theorem j_turn12 {J : j_J} {L sc x m out P G R Q cn sn : Nat} {i : Int32} {h : j_H} (hJ : j_Cl k_law j_lF j_lP j_no J) (hF : j_Fg J) (hL : L ≤ 2560) (i0 : 0 ≤ i.toInt) (i1 : i.toInt + 5 ≤ (L : Int)) (hc : cn ≤ 500000) (hs : sn ≤ 6000000) (lw : j_LW L sc x m out P G R Q h) (back : ∀ (h' : j_H) (cn' sn' : Nat), j_LW L sc x m out P G R Q h' → cn' ≤ cn + 200 → sn' ≤ sn + 2000 → J 1161 [some (j_r (some sc)), some (j_r (some x)), some (j_r (some m)), some (j_r (some out)), some (j_i i), none, none] [] h' cn' sn') : J 636 [some (j_r (some sc)), some (j_r (some x)), some (j_r (some m)), some (j_r (some out)), some (j_i i), none, none] [] h cn sn := by
  have q1 : (i + Int32.ofInt (1)).toInt = i.toInt + 1 := j_inc1 (by omega)
  have q2 : (i + Int32.ofInt (2)).toInt = i.toInt + 2 := j_i2 i0 (by omega)
  have q3 : (i + Int32.ofInt (3)).toInt = i.toInt + 3 := j_i3 i0 (by omega)
  have q4 : (i + Int32.ofInt (4)).toInt = i.toInt + 4 := j_i4 i0 (by omega)
  refine hJ [1161] 400 _ _ _ _ _ _ ?_
  conv => whnf
  have lsv97 : j_ln h sc = L := lw.1.2.2.2.2.2.2
  refine ⟨_, _, rfl, lw.1.2.2.2.2.2.1, rfl, j_vp (by omega) (by rw [lsv97]; omega), fun v97 ev97 => ?_⟩
  conv => whnf
  have lsv98 : j_ln h sc = L := lw.1.2.2.2.2.2.2
  refine ⟨_, _, rfl, lw.1.2.2.2.2.2.1, rfl, j_vp (by omega) (by rw [lsv98]; omega), fun v98 ev98 => ?_⟩
  conv => whnf
  have lsv99 : j_ln h sc = L := lw.1.2.2.2.2.2.2
  refine ⟨_, _, rfl, lw.1.2.2.2.2.2.1, rfl, j_vp (by omega) (by rw [lsv99]; omega), fun v99 ev99 => ?_⟩
  conv => whnf
  refine ⟨rfl, _, _, _, _, _, _, c_Lw_spanx lw.1.1 lw.2.1 lw.1.2.2.1, ⟨Nat.le_of_ble_eq_true rfl, Nat.le_of_ble_eq_true rfl, by (try dsimp only); omega, by (try dsimp only); omega⟩, fun _ _ z => False.elim z, ?_⟩
  rintro u9 H100 a
  obtain rfl := a.1
  obtain ⟨l1, s1, m1⟩ := lw.1.lq a
  conv => whnf
  have lsv102 : j_ln H100 sc = L := l1.2.2.2.2.2.2
  refine ⟨_, _, rfl, l1.2.2.2.2.2.1, rfl, j_vp (by omega) (by rw [lsv102]; omega), fun v102 ev102 => ?_⟩
  obtain rfl : v97 = v102 := ev97.symm.trans ((s1 _).symm.trans ev102)
  conv => whnf
  have lsv103 : j_ln H100 sc = L := l1.2.2.2.2.2.2
  refine ⟨_, _, rfl, l1.2.2.2.2.2.1, rfl, j_vp (by omega) (by rw [lsv103]; omega), fun v103 ev103 => ?_⟩
  obtain rfl : v98 = v103 := ev98.symm.trans ((s1 _).symm.trans ev103)
  conv => whnf
  have lsv104 : j_ln H100 sc = L := l1.2.2.2.2.2.2
  refine ⟨_, _, rfl, l1.2.2.2.2.2.1, rfl, j_vp (by omega) (by rw [lsv104]; omega), fun v104 ev104 => ?_⟩
  obtain rfl : v99 = v104 := ev99.symm.trans ((s1 _).symm.trans ev104)
  conv => whnf
  obtain ⟨ρ9, w9⟩ := l1.2.1
  have eq9 : z_eq (z_d H100 m P G R Q) (z_c h x) := m1.tr lw.2.2.2
  have V := lw.2.2.1.1
  have B := lw.2.2.1.2
  refine ⟨w9.km, rfl, _, _, _, _, _, _, c_Mo_spanz w9 (V.eq eq9), ⟨Nat.le_of_ble_eq_true rfl, Nat.le_of_ble_eq_true rfl, by (try dsimp only); omega, by (try dsimp only); omega⟩, fun _ _ z => False.elim z, ?_⟩
  rintro u9 H105 b
  have hq : q_span (z_d H100 m P G R Q) v97 v98 v99 = q_span (z_c h x) v97 v98 v99 := q_span_c eq9
  obtain ⟨lw2, o2⟩ := lw.told a b.ms hq (fun _ => eq9) (fun _ => ⟨V, B⟩)
  obtain ⟨r9, rfl⟩ := b.2.2.2.2.2.2
  exact j_use hF (back _ _ _ lw2 (by omega) (by omega)) (And.intro rfl (And.intro rfl (And.intro rfl (And.intro rfl (And.intro rfl trivial)))))
set_option maxHeartbeats 4000000 in
set_option maxRecDepth 20000 in
theorem j_turn13 {J : j_J} {L sc x m out P G R Q cn sn : Nat} {i : Int32} {h : j_H} (hJ : j_Cl k_law j_lF j_lP j_no J) (hF : j_Fg J) (hL : L ≤ 2560) (i0 : 0 ≤ i.toInt) (i1 : i.toInt + 5 ≤ (L : Int)) (hc : cn ≤ 500000) (hs : sn ≤ 6000000) (lw : j_LW L sc x m out P G R Q h) (back : ∀ (h' : j_H) (cn' sn' : Nat), j_LW L sc x m out P G R Q h' → cn' ≤ cn + 200 → sn' ≤ sn + 2000 → J 1161 [some (j_r (some sc)), some (j_r (some x)), some (j_r (some m)), some (j_r (some out)), some (j_i i), none, none] [] h' cn' sn') : J 688 [some (j_r (some sc)), some (j_r (some x)), some (j_r (some m)), some (j_r (some out)), some (j_i i), none, none] [] h cn sn := by
  have q1 : (i + Int32.ofInt (1)).toInt = i.toInt + 1 := j_inc1 (by omega)
  have q2 : (i + Int32.ofInt (2)).toInt = i.toInt + 2 := j_i2 i0 (by omega)
  have q3 : (i + Int32.ofInt (3)).toInt = i.toInt + 3 := j_i3 i0 (by omega)
  have q4 : (i + Int32.ofInt (4)).toInt = i.toInt + 4 := j_i4 i0 (by omega)
  refine hJ [1161] 400 _ _ _ _ _ _ ?_
  conv => whnf
  have lsv107 : j_ln h sc = L := lw.1.2.2.2.2.2.2
  refine ⟨_, _, rfl, lw.1.2.2.2.2.2.1, rfl, j_vp (by omega) (by rw [lsv107]; omega), fun v107 ev107 => ?_⟩
  conv => whnf
  have lsv108 : j_ln h sc = L := lw.1.2.2.2.2.2.2
  refine ⟨_, _, rfl, lw.1.2.2.2.2.2.1, rfl, j_vp (by omega) (by rw [lsv108]; omega), fun v108 ev108 => ?_⟩
  conv => whnf
  refine ⟨fun c109 => ?_, fun c109 => ?_⟩
  · skip
    conv => whnf
    refine ⟨rfl, _, _, _, _, _, _, c_Lw_narrowedx lw.1.1 lw.2.1 lw.1.2.2.1, ⟨Nat.le_of_ble_eq_true rfl, Nat.le_of_ble_eq_true rfl, by (try dsimp only); omega, by (try dsimp only); omega⟩, fun _ _ z => False.elim z, ?_⟩
    rintro u9 H110 a
    obtain rfl := a.1
    obtain ⟨l1, s1, m1⟩ := lw.1.lq a
    conv => whnf
    have lsv112 : j_ln H110 sc = L := l1.2.2.2.2.2.2
    refine ⟨_, _, rfl, l1.2.2.2.2.2.1, rfl, j_vp (by omega) (by rw [lsv112]; omega), fun v112 ev112 => ?_⟩
    obtain rfl : v107 = v112 := ev107.symm.trans ((s1 _).symm.trans ev112)
    conv => whnf
    have lsv113 : j_ln H110 sc = L := l1.2.2.2.2.2.2
    refine ⟨_, _, rfl, l1.2.2.2.2.2.1, rfl, j_vp (by omega) (by rw [lsv113]; omega), fun v113 ev113 => ?_⟩
    obtain rfl : v108 = v113 := ev108.symm.trans ((s1 _).symm.trans ev113)
    conv => whnf
    refine ⟨fun c114 => ?_, fun c114 => ?_⟩
    · skip
      conv => whnf
      obtain ⟨ρ9, w9⟩ := l1.2.1
      have eq9 : z_eq (z_d H110 m P G R Q) (z_c h x) := m1.tr lw.2.2.2
      have V := lw.2.2.1.1
      have B := lw.2.2.1.2
      refine ⟨w9.km, rfl, _, _, _, _, _, _, c_Mo_narrowedz w9 (V.eq eq9) (B.eq eq9), ⟨Nat.le_of_ble_eq_true rfl, Nat.le_of_ble_eq_true rfl, by (try dsimp only); omega, by (try dsimp only); omega⟩, fun _ _ z => False.elim z, ?_⟩
      rintro u9 H115 b
      have hq : q_narrowed (z_d H110 m P G R Q) v107 = q_narrowed (z_c h x) v107 := q_narrowed_c eq9
      obtain ⟨lw2, o2⟩ := lw.told a b.ms hq (fun _ => eq9) (fun _ => ⟨V, B⟩)
      obtain ⟨r9, rfl⟩ := b.2.2.2.2.2.2
      exact j_use hF (back _ _ _ lw2 (by omega) (by omega)) (And.intro rfl (And.intro rfl (And.intro rfl (And.intro rfl (And.intro rfl trivial)))))
    · exact absurd (show v108.toInt = 0 from c109) c114
  · skip
    conv => whnf
    refine ⟨rfl, _, _, _, _, _, _, c_Lw_narrowedx lw.1.1 lw.2.1 lw.1.2.2.1, ⟨Nat.le_of_ble_eq_true rfl, Nat.le_of_ble_eq_true rfl, by (try dsimp only); omega, by (try dsimp only); omega⟩, fun _ _ z => False.elim z, ?_⟩
    rintro u9 H117 a
    obtain rfl := a.1
    obtain ⟨l1, s1, m1⟩ := lw.1.lq a
    conv => whnf
    have lsv119 : j_ln H117 sc = L := l1.2.2.2.2.2.2
    refine ⟨_, _, rfl, l1.2.2.2.2.2.1, rfl, j_vp (by omega) (by rw [lsv119]; omega), fun v119 ev119 => ?_⟩
    obtain rfl : v107 = v119 := ev107.symm.trans ((s1 _).symm.trans ev119)
    conv => whnf
    have lsv120 : j_ln H117 sc = L := l1.2.2.2.2.2.2
    refine ⟨_, _, rfl, l1.2.2.2.2.2.1, rfl, j_vp (by omega) (by rw [lsv120]; omega), fun v120 ev120 => ?_⟩
    obtain rfl : v108 = v120 := ev108.symm.trans ((s1 _).symm.trans ev120)
    conv => whnf
    refine ⟨fun c121 => ?_, fun c121 => ?_⟩
    · exact absurd (show v108.toInt = 0 from c121) c109
    · skip
      conv => whnf
      obtain ⟨ρ9, w9⟩ := l1.2.1
      have eq9 : z_eq (z_d H117 m P G R Q) (z_c h x) := m1.tr lw.2.2.2
      have V := lw.2.2.1.1
      have B := lw.2.2.1.2
      refine ⟨w9.km, rfl, _, _, _, _, _, _, c_Mo_narrowedz w9 (V.eq eq9) (B.eq eq9), ⟨Nat.le_of_ble_eq_true rfl, Nat.le_of_ble_eq_true rfl, by (try dsimp only); omega, by (try dsimp only); omega⟩, fun _ _ z => False.elim z, ?_⟩
      rintro u9 H122 b
      have hq : q_narrowed (z_d H117 m P G R Q) v107 = q_narrowed (z_c h x) v107 := q_narrowed_c eq9
      obtain ⟨lw2, o2⟩ := lw.told a b.ms hq (fun _ => eq9) (fun _ => ⟨V, B⟩)
      obtain ⟨r9, rfl⟩ := b.2.2.2.2.2.2
      exact j_use hF (back _ _ _ lw2 (by omega) (by omega)) (And.intro rfl (And.intro rfl (And.intro rfl (And.intro rfl (And.intro rfl trivial)))))
set_option maxHeartbeats 4000000 in
set_option maxRecDepth 20000 in
theorem j_turn14 {J : j_J} {L sc x m out P G R Q cn sn : Nat} {i : Int32} {h : j_H} (hJ : j_Cl k_law j_lF j_lP j_no J) (hF : j_Fg J) (hL : L ≤ 2560) (i0 : 0 ≤ i.toInt) (i1 : i.toInt + 5 ≤ (L : Int)) (hc : cn ≤ 500000) (hs : sn ≤ 6000000) (lw : j_LW L sc x m out P G R Q h) (back : ∀ (h' : j_H) (cn' sn' : Nat), j_LW L sc x m out P G R Q h' → cn' ≤ cn + 200 → sn' ≤ sn + 2000 → J 1161 [some (j_r (some sc)), some (j_r (some x)), some (j_r (some m)), some (j_r (some out)), some (j_i i), none, none] [] h' cn' sn') : J 744 [some (j_r (some sc)), some (j_r (some x)), some (j_r (some m)), some (j_r (some out)), some (j_i i), none, none] [] h cn sn := by
  have q1 : (i + Int32.ofInt (1)).toInt = i.toInt + 1 := j_inc1 (by omega)
  have q2 : (i + Int32.ofInt (2)).toInt = i.toInt + 2 := j_i2 i0 (by omega)
  have q3 : (i + Int32.ofInt (3)).toInt = i.toInt + 3 := j_i3 i0 (by omega)
  have q4 : (i + Int32.ofInt (4)).toInt = i.toInt + 4 := j_i4 i0 (by omega)
  refine hJ [1161] 400 _ _ _ _ _ _ ?_
  conv => whnf
  have lsv124 : j_ln h sc = L := lw.1.2.2.2.2.2.2
  refine ⟨_, _, rfl, lw.1.2.2.2.2.2.1, rfl, j_vp (by omega) (by rw [lsv124]; omega), fun v124 ev124 => ?_⟩
  conv => whnf
  have lsv125 : j_ln h sc = L := lw.1.2.2.2.2.2.2
  refine ⟨_, _, rfl, lw.1.2.2.2.2.2.1, rfl, j_vp (by omega) (by rw [lsv125]; omega), fun v125 ev125 => ?_⟩
  conv => whnf
  refine ⟨rfl, _, _, _, _, _, _, c_Lw_ofPrintx lw.1.1 lw.2.1 lw.1.2.2.1, ⟨Nat.le_of_ble_eq_true rfl, Nat.le_of_ble_eq_true rfl, by (try dsimp only); omega, by (try dsimp only); omega⟩, fun _ _ z => False.elim z, ?_⟩
  rintro u9 H126 a
  obtain rfl := a.1
  obtain ⟨l1, s1, m1⟩ := lw.1.lq a
  conv => whnf
  have lsv128 : j_ln H126 sc = L := l1.2.2.2.2.2.2
  refine ⟨_, _, rfl, l1.2.2.2.2.2.1, rfl, j_vp (by omega) (by rw [lsv128]; omega), fun v128 ev128 => ?_⟩
  obtain rfl : v124 = v128 := ev124.symm.trans ((s1 _).symm.trans ev128)
  conv => whnf
  have lsv129 : j_ln H126 sc = L := l1.2.2.2.2.2.2
  refine ⟨_, _, rfl, l1.2.2.2.2.2.1, rfl, j_vp (by omega) (by rw [lsv129]; omega), fun v129 ev129 => ?_⟩
  obtain rfl : v125 = v129 := ev125.symm.trans ((s1 _).symm.trans ev129)
  conv => whnf
  obtain ⟨ρ9, w9⟩ := l1.2.1
  have eq9 : z_eq (z_d H126 m P G R Q) (z_c h x) := m1.tr lw.2.2.2
  have V := lw.2.2.1.1
  have B := lw.2.2.1.2
  refine ⟨w9.km, rfl, _, _, _, _, _, _, c_Mo_ofPrintz w9, ⟨Nat.le_of_ble_eq_true rfl, Nat.le_of_ble_eq_true rfl, by (try dsimp only); omega, by (try dsimp only); omega⟩, fun _ _ z => False.elim z, ?_⟩
  rintro u9 H130 b
  have hq : q_ofPrint (z_d H126 m P G R Q) v124 v125 = q_ofPrint (z_c h x) v124 v125 := q_ofPrint_c eq9
  obtain ⟨lw2, o2⟩ := lw.told a b.ms hq (fun _ => eq9) (fun _ => ⟨V, B⟩)
  obtain ⟨r9, rfl⟩ := b.2.2.2.2.2.2
  exact j_use hF (back _ _ _ lw2 (by omega) (by omega)) (And.intro rfl (And.intro rfl (And.intro rfl (And.intro rfl (And.intro rfl trivial)))))
set_option maxHeartbeats 4000000 in
set_option maxRecDepth 20000 in
theorem j_turn15 {J : j_J} {L sc x m out P G R Q cn sn : Nat} {i : Int32} {h : j_H} (hJ : j_Cl k_law j_lF j_lP j_no J) (hF : j_Fg J) (hL : L ≤ 2560) (i0 : 0 ≤ i.toInt) (i1 : i.toInt + 5 ≤ (L : Int)) (hc : cn ≤ 500000) (hs : sn ≤ 6000000) (lw : j_LW L sc x m out P G R Q h) (back : ∀ (h' : j_H) (cn' sn' : Nat), j_LW L sc x m out P G R Q h' → cn' ≤ cn + 200 → sn' ≤ sn + 2000 → J 1161 [some (j_r (some sc)), some (j_r (some x)), some (j_r (some m)), some (j_r (some out)), some (j_i i), none, none] [] h' cn' sn') : J 784 [some (j_r (some sc)), some (j_r (some x)), some (j_r (some m)), some (j_r (some out)), some (j_i i), none, none] [] h cn sn := by
  have q1 : (i + Int32.ofInt (1)).toInt = i.toInt + 1 := j_inc1 (by omega)
  have q2 : (i + Int32.ofInt (2)).toInt = i.toInt + 2 := j_i2 i0 (by omega)
  have q3 : (i + Int32.ofInt (3)).toInt = i.toInt + 3 := j_i3 i0 (by omega)
  have q4 : (i + Int32.ofInt (4)).toInt = i.toInt + 4 := j_i4 i0 (by omega)
  refine hJ [1161] 400 _ _ _ _ _ _ ?_
  conv => whnf
  have lsv132 : j_ln h sc = L := lw.1.2.2.2.2.2.2
  refine ⟨_, _, rfl, lw.1.2.2.2.2.2.1, rfl, j_vp (by omega) (by rw [lsv132]; omega), fun v132 ev132 => ?_⟩
  conv => whnf
  refine ⟨rfl, _, _, _, _, _, _, c_Lw_labz lw.1.1 lw.2.1 lw.1.2.2.1, ⟨Nat.le_of_ble_eq_true rfl, Nat.le_of_ble_eq_true rfl, by (try dsimp only); omega, by (try dsimp only); omega⟩, fun _ _ z => False.elim z, ?_⟩
  rintro v9 H133 ⟨⟨r135, rfl⟩, fo⟩
  have l134 := (lw.fo fo).1
  conv => whnf
  have lsv136 : j_ln H133 sc = L := l134.1.2.2.2.2.2.2
  refine ⟨_, _, rfl, l134.1.2.2.2.2.2.1, rfl, j_vp (by omega) (by rw [lsv136]; omega), fun v136 ev136 => ?_⟩
  conv => whnf
  obtain ⟨ρ140, w139⟩ := l134.1.2.1
  refine ⟨w139.km, rfl, _, _, _, _, _, _, c_Mo_lab w139, ⟨Nat.le_of_ble_eq_true rfl, Nat.le_of_ble_eq_true rfl, by (try dsimp only); omega, by (try dsimp only); omega⟩, fun _ _ z => False.elim z, ?_⟩
  rintro v9 H137 ⟨st9, r9, rfl⟩
  have l138 := l134.mf w139 st9
  exact j_use hF (back _ _ _ l138 (by omega) (by omega)) (And.intro rfl (And.intro rfl (And.intro rfl (And.intro rfl (And.intro rfl trivial)))))
set_option maxHeartbeats 4000000 in
set_option maxRecDepth 20000 in
theorem j_turn16 {J : j_J} {L sc x m out P G R Q cn sn : Nat} {i : Int32} {h : j_H} (hJ : j_Cl k_law j_lF j_lP j_no J) (hF : j_Fg J) (hL : L ≤ 2560) (i0 : 0 ≤ i.toInt) (i1 : i.toInt + 5 ≤ (L : Int)) (hc : cn ≤ 500000) (hs : sn ≤ 6000000) (lw : j_LW L sc x m out P G R Q h) (back : ∀ (h' : j_H) (cn' sn' : Nat), j_LW L sc x m out P G R Q h' → cn' ≤ cn + 200 → sn' ≤ sn + 2000 → J 1161 [some (j_r (some sc)), some (j_r (some x)), some (j_r (some m)), some (j_r (some out)), some (j_i i), none, none] [] h' cn' sn') : J 812 [some (j_r (some sc)), some (j_r (some x)), some (j_r (some m)), some (j_r (some out)), some (j_i i), none, none] [] h cn sn := by
  have q1 : (i + Int32.ofInt (1)).toInt = i.toInt + 1 := j_inc1 (by omega)
  have q2 : (i + Int32.ofInt (2)).toInt = i.toInt + 2 := j_i2 i0 (by omega)
  have q3 : (i + Int32.ofInt (3)).toInt = i.toInt + 3 := j_i3 i0 (by omega)
  have q4 : (i + Int32.ofInt (4)).toInt = i.toInt + 4 := j_i4 i0 (by omega)
  refine hJ [1161] 400 _ _ _ _ _ _ ?_
  conv => whnf
  have lsv141 : j_ln h sc = L := lw.1.2.2.2.2.2.2
  refine ⟨_, _, rfl, lw.1.2.2.2.2.2.1, rfl, j_vp (by omega) (by rw [lsv141]; omega), fun v141 ev141 => ?_⟩
  conv => whnf
  refine ⟨rfl, _, _, _, _, _, _, c_Lw_textz lw.1.1 lw.2.1 lw.1.2.2.2.1 lw.1.2.2.1, ⟨Nat.le_of_ble_eq_true rfl, Nat.le_of_ble_eq_true rfl, by (try dsimp only); omega, by (try dsimp only); omega⟩, fun _ _ z => False.elim z, ?_⟩
  rintro v9 H142 ⟨⟨r144, rfl⟩, fo⟩
  have l143 := (lw.fo fo).1
  conv => whnf
  have lsv145 : j_ln H142 sc = L := l143.1.2.2.2.2.2.2
  refine ⟨_, _, rfl, l143.1.2.2.2.2.2.1, rfl, j_vp (by omega) (by rw [lsv145]; omega), fun v145 ev145 => ?_⟩
  conv => whnf
  obtain ⟨ρ149, w148⟩ := l143.1.2.1
  refine ⟨w148.km, rfl, _, _, _, _, _, _, c_Mo_text w148 l143.1.2.2.2.1, ⟨Nat.le_of_ble_eq_true rfl, Nat.le_of_ble_eq_true rfl, by (try dsimp only); omega, by (try dsimp only); omega⟩, fun _ _ z => False.elim z, ?_⟩
  rintro v9 H146 ⟨st9, s9, rfl⟩
  have l147 := l143.mf w148 st9
  exact j_use hF (back _ _ _ l147 (by omega) (by omega)) (And.intro rfl (And.intro rfl (And.intro rfl (And.intro rfl (And.intro rfl trivial)))))
set_option maxHeartbeats 4000000 in
set_option maxRecDepth 20000 in
theorem j_turn17 {J : j_J} {L sc x m out P G R Q cn sn : Nat} {i : Int32} {h : j_H} (hJ : j_Cl k_law j_lF j_lP j_no J) (hF : j_Fg J) (hL : L ≤ 2560) (i0 : 0 ≤ i.toInt) (i1 : i.toInt + 5 ≤ (L : Int)) (hc : cn ≤ 500000) (hs : sn ≤ 6000000) (lw : j_LW L sc x m out P G R Q h) (back : ∀ (h' : j_H) (cn' sn' : Nat), j_LW L sc x m out P G R Q h' → cn' ≤ cn + 200 → sn' ≤ sn + 2000 → J 1161 [some (j_r (some sc)), some (j_r (some x)), some (j_r (some m)), some (j_r (some out)), some (j_i i), none, none] [] h' cn' sn') : J 840 [some (j_r (some sc)), some (j_r (some x)), some (j_r (some m)), some (j_r (some out)), some (j_i i), none, none] [] h cn sn := by
  have q1 : (i + Int32.ofInt (1)).toInt = i.toInt + 1 := j_inc1 (by omega)
  have q2 : (i + Int32.ofInt (2)).toInt = i.toInt + 2 := j_i2 i0 (by omega)
  have q3 : (i + Int32.ofInt (3)).toInt = i.toInt + 3 := j_i3 i0 (by omega)
  have q4 : (i + Int32.ofInt (4)).toInt = i.toInt + 4 := j_i4 i0 (by omega)
  refine hJ [1161] 400 _ _ _ _ _ _ ?_
  conv => whnf
  have lsv150 : j_ln h sc = L := lw.1.2.2.2.2.2.2
  refine ⟨_, _, rfl, lw.1.2.2.2.2.2.1, rfl, j_vp (by omega) (by rw [lsv150]; omega), fun v150 ev150 => ?_⟩
  conv => whnf
  have lsv151 : j_ln h sc = L := lw.1.2.2.2.2.2.2
  refine ⟨_, _, rfl, lw.1.2.2.2.2.2.1, rfl, j_vp (by omega) (by rw [lsv151]; omega), fun v151 ev151 => ?_⟩
  conv => whnf
  have lsv152 : j_ln h sc = L := lw.1.2.2.2.2.2.2
  refine ⟨_, _, rfl, lw.1.2.2.2.2.2.1, rfl, j_vp (by omega) (by rw [lsv152]; omega), fun v152 ev152 => ?_⟩
  conv => whnf
  refine ⟨rfl, _, _, _, _, _, _, c_Lw_leftz lw.1.1 lw.2.1 lw.1.2.2.1, ⟨Nat.le_of_ble_eq_true rfl, Nat.le_of_ble_eq_true rfl, by (try dsimp only); omega, by (try dsimp only); omega⟩, fun _ _ z => False.elim z, ?_⟩
  rintro v9 H153 ⟨⟨r155, rfl⟩, fo⟩
  have l154 := (lw.fo fo).1
  conv => whnf
  have lsv156 : j_ln H153 sc = L := l154.1.2.2.2.2.2.2
  refine ⟨_, _, rfl, l154.1.2.2.2.2.2.1, rfl, j_vp (by omega) (by rw [lsv156]; omega), fun v156 ev156 => ?_⟩
  conv => whnf
  have lsv157 : j_ln H153 sc = L := l154.1.2.2.2.2.2.2
  refine ⟨_, _, rfl, l154.1.2.2.2.2.2.1, rfl, j_vp (by omega) (by rw [lsv157]; omega), fun v157 ev157 => ?_⟩
  conv => whnf
  have lsv158 : j_ln H153 sc = L := l154.1.2.2.2.2.2.2
  refine ⟨_, _, rfl, l154.1.2.2.2.2.2.1, rfl, j_vp (by omega) (by rw [lsv158]; omega), fun v158 ev158 => ?_⟩
  conv => whnf
  obtain ⟨ρ162, w161⟩ := l154.1.2.1
  refine ⟨w161.km, rfl, _, _, _, _, _, _, c_Mo_left w161, ⟨Nat.le_of_ble_eq_true rfl, Nat.le_of_ble_eq_true rfl, by (try dsimp only); omega, by (try dsimp only); omega⟩, fun _ _ z => False.elim z, ?_⟩
  rintro v9 H159 ⟨st9, r9, rfl⟩
  have l160 := l154.mf w161 st9
  exact j_use hF (back _ _ _ l160 (by omega) (by omega)) (And.intro rfl (And.intro rfl (And.intro rfl (And.intro rfl (And.intro rfl trivial)))))
set_option maxHeartbeats 4000000 in
set_option maxRecDepth 20000 in
theorem j_turn18 {J : j_J} {L sc x m out P G R Q cn sn : Nat} {i : Int32} {h : j_H} (hJ : j_Cl k_law j_lF j_lP j_no J) (hF : j_Fg J) (hL : L ≤ 2560) (i0 : 0 ≤ i.toInt) (i1 : i.toInt + 5 ≤ (L : Int)) (hc : cn ≤ 500000) (hs : sn ≤ 6000000) (lw : j_LW L sc x m out P G R Q h) (back : ∀ (h' : j_H) (cn' sn' : Nat), j_LW L sc x m out P G R Q h' → cn' ≤ cn + 200 → sn' ≤ sn + 2000 → J 1161 [some (j_r (some sc)), some (j_r (some x)), some (j_r (some m)), some (j_r (some out)), some (j_i i), none, none] [] h' cn' sn') : J 892 [some (j_r (some sc)), some (j_r (some x)), some (j_r (some m)), some (j_r (some out)), some (j_i i), none, none] [] h cn sn := by
  have q1 : (i + Int32.ofInt (1)).toInt = i.toInt + 1 := j_inc1 (by omega)
  have q2 : (i + Int32.ofInt (2)).toInt = i.toInt + 2 := j_i2 i0 (by omega)
  have q3 : (i + Int32.ofInt (3)).toInt = i.toInt + 3 := j_i3 i0 (by omega)
  have q4 : (i + Int32.ofInt (4)).toInt = i.toInt + 4 := j_i4 i0 (by omega)
  refine hJ [1161] 400 _ _ _ _ _ _ ?_
  conv => whnf
  have lsv163 : j_ln h sc = L := lw.1.2.2.2.2.2.2
  refine ⟨_, _, rfl, lw.1.2.2.2.2.2.1, rfl, j_vp (by omega) (by rw [lsv163]; omega), fun v163 ev163 => ?_⟩
  conv => whnf
  have lsv164 : j_ln h sc = L := lw.1.2.2.2.2.2.2
  refine ⟨_, _, rfl, lw.1.2.2.2.2.2.1, rfl, j_vp (by omega) (by rw [lsv164]; omega), fun v164 ev164 => ?_⟩
  conv => whnf
  have lsv165 : j_ln h sc = L := lw.1.2.2.2.2.2.2
  refine ⟨_, _, rfl, lw.1.2.2.2.2.2.1, rfl, j_vp (by omega) (by rw [lsv165]; omega), fun v165 ev165 => ?_⟩
  conv => whnf
  have lsv166 : j_ln h sc = L := lw.1.2.2.2.2.2.2
  refine ⟨_, _, rfl, lw.1.2.2.2.2.2.1, rfl, j_vp (by omega) (by rw [lsv166]; omega), fun v166 ev166 => ?_⟩
  conv => whnf
  refine ⟨fun c167 => ?_, fun c167 => ?_⟩
  · skip
    conv => whnf
    refine ⟨rfl, _, _, _, _, _, _, c_Lw_agez lw.1.1 lw.2.1 lw.1.2.2.1, ⟨Nat.le_of_ble_eq_true rfl, Nat.le_of_ble_eq_true rfl, by (try dsimp only); omega, by (try dsimp only); omega⟩, fun _ _ z => False.elim z, ?_⟩
    rintro v9 H168 ⟨⟨r170, rfl⟩, fo⟩
    have l169 := (lw.fo fo).1
    conv => whnf
    have lsv171 : j_ln H168 sc = L := l169.1.2.2.2.2.2.2
    refine ⟨_, _, rfl, l169.1.2.2.2.2.2.1, rfl, j_vp (by omega) (by rw [lsv171]; omega), fun v171 ev171 => ?_⟩
    conv => whnf
    have lsv172 : j_ln H168 sc = L := l169.1.2.2.2.2.2.2
    refine ⟨_, _, rfl, l169.1.2.2.2.2.2.1, rfl, j_vp (by omega) (by rw [lsv172]; omega), fun v172 ev172 => ?_⟩
    conv => whnf
    have lsv173 : j_ln H168 sc = L := l169.1.2.2.2.2.2.2
    refine ⟨_, _, rfl, l169.1.2.2.2.2.2.1, rfl, j_vp (by omega) (by rw [lsv173]; omega), fun v173 ev173 => ?_⟩
    conv => whnf
    have lsv174 : j_ln H168 sc = L := l169.1.2.2.2.2.2.2
    refine ⟨_, _, rfl, l169.1.2.2.2.2.2.1, rfl, j_vp (by omega) (by rw [lsv174]; omega), fun v174 ev174 => ?_⟩
    conv => whnf
    refine ⟨fun c175 => ?_, fun c175 => ?_⟩
    · skip
      conv => whnf
      obtain ⟨ρ179, w178⟩ := l169.1.2.1
      refine ⟨w178.km, rfl, _, _, _, _, _, _, c_Mo_age w178, ⟨Nat.le_of_ble_eq_true rfl, Nat.le_of_ble_eq_true rfl, by (try dsimp only); omega, by (try dsimp only); omega⟩, fun _ _ z => False.elim z, ?_⟩
      rintro v9 H176 ⟨st9, r9, rfl⟩
      have l177 := l169.mf w178 st9
      exact j_use hF (back _ _ _ l177 (by omega) (by omega)) (And.intro rfl (And.intro rfl (And.intro rfl (And.intro rfl (And.intro rfl trivial)))))
    · skip
      conv => whnf
      obtain ⟨ρ183, w182⟩ := l169.1.2.1
      refine ⟨w182.km, rfl, _, _, _, _, _, _, c_Mo_age w182, ⟨Nat.le_of_ble_eq_true rfl, Nat.le_of_ble_eq_true rfl, by (try dsimp only); omega, by (try dsimp only); omega⟩, fun _ _ z => False.elim z, ?_⟩
      rintro v9 H180 ⟨st9, r9, rfl⟩
      have l181 := l169.mf w182 st9
      exact j_use hF (back _ _ _ l181 (by omega) (by omega)) (And.intro rfl (And.intro rfl (And.intro rfl (And.intro rfl (And.intro rfl trivial)))))
  · skip
    conv => whnf
    refine ⟨rfl, _, _, _, _, _, _, c_Lw_agez lw.1.1 lw.2.1 lw.1.2.2.1, ⟨Nat.le_of_ble_eq_true rfl, Nat.le_of_ble_eq_true rfl, by (try dsimp only); omega, by (try dsimp only); omega⟩, fun _ _ z => False.elim z, ?_⟩
    rintro v9 H184 ⟨⟨r186, rfl⟩, fo⟩
    have l185 := (lw.fo fo).1
    conv => whnf
    have lsv187 : j_ln H184 sc = L := l185.1.2.2.2.2.2.2
    refine ⟨_, _, rfl, l185.1.2.2.2.2.2.1, rfl, j_vp (by omega) (by rw [lsv187]; omega), fun v187 ev187 => ?_⟩
    conv => whnf
    have lsv188 : j_ln H184 sc = L := l185.1.2.2.2.2.2.2
    refine ⟨_, _, rfl, l185.1.2.2.2.2.2.1, rfl, j_vp (by omega) (by rw [lsv188]; omega), fun v188 ev188 => ?_⟩
    conv => whnf
    have lsv189 : j_ln H184 sc = L := l185.1.2.2.2.2.2.2
    refine ⟨_, _, rfl, l185.1.2.2.2.2.2.1, rfl, j_vp (by omega) (by rw [lsv189]; omega), fun v189 ev189 => ?_⟩
    conv => whnf
    have lsv190 : j_ln H184 sc = L := l185.1.2.2.2.2.2.2
    refine ⟨_, _, rfl, l185.1.2.2.2.2.2.1, rfl, j_vp (by omega) (by rw [lsv190]; omega), fun v190 ev190 => ?_⟩
    conv => whnf
    refine ⟨fun c191 => ?_, fun c191 => ?_⟩
    · skip
      conv => whnf
      obtain ⟨ρ195, w194⟩ := l185.1.2.1
      refine ⟨w194.km, rfl, _, _, _, _, _, _, c_Mo_age w194, ⟨Nat.le_of_ble_eq_true rfl, Nat.le_of_ble_eq_true rfl, by (try dsimp only); omega, by (try dsimp only); omega⟩, fun _ _ z => False.elim z, ?_⟩
      rintro v9 H192 ⟨st9, r9, rfl⟩
      have l193 := l185.mf w194 st9
      exact j_use hF (back _ _ _ l193 (by omega) (by omega)) (And.intro rfl (And.intro rfl (And.intro rfl (And.intro rfl (And.intro rfl trivial)))))
    · skip
      conv => whnf
      obtain ⟨ρ199, w198⟩ := l185.1.2.1
      refine ⟨w198.km, rfl, _, _, _, _, _, _, c_Mo_age w198, ⟨Nat.le_of_ble_eq_true rfl, Nat.le_of_ble_eq_true rfl, by (try dsimp only); omega, by (try dsimp only); omega⟩, fun _ _ z => False.elim z, ?_⟩
      rintro v9 H196 ⟨st9, r9, rfl⟩
      have l197 := l185.mf w198 st9
      exact j_use hF (back _ _ _ l197 (by omega) (by omega)) (And.intro rfl (And.intro rfl (And.intro rfl (And.intro rfl (And.intro rfl trivial)))))
set_option maxHeartbeats 4000000 in
set_option maxRecDepth 20000 in
theorem j_turn19 {J : j_J} {L sc x m out P G R Q cn sn : Nat} {i : Int32} {h : j_H} (hJ : j_Cl k_law j_lF j_lP j_no J) (hF : j_Fg J) (hL : L ≤ 2560) (i0 : 0 ≤ i.toInt) (i1 : i.toInt + 5 ≤ (L : Int)) (hc : cn ≤ 500000) (hs : sn ≤ 6000000) (lw : j_LW L sc x m out P G R Q h) (back : ∀ (h' : j_H) (cn' sn' : Nat), j_LW L sc x m out P G R Q h' → cn' ≤ cn + 200 → sn' ≤ sn + 2000 → J 1161 [some (j_r (some sc)), some (j_r (some x)), some (j_r (some m)), some (j_r (some out)), some (j_i i), none, none] [] h' cn' sn') : J 972 [some (j_r (some sc)), some (j_r (some x)), some (j_r (some m)), some (j_r (some out)), some (j_i i), none, none] [] h cn sn := by
  have q1 : (i + Int32.ofInt (1)).toInt = i.toInt + 1 := j_inc1 (by omega)
  have q2 : (i + Int32.ofInt (2)).toInt = i.toInt + 2 := j_i2 i0 (by omega)
  have q3 : (i + Int32.ofInt (3)).toInt = i.toInt + 3 := j_i3 i0 (by omega)
  have q4 : (i + Int32.ofInt (4)).toInt = i.toInt + 4 := j_i4 i0 (by omega)
  refine hJ [1161] 400 _ _ _ _ _ _ ?_
  conv => whnf
  refine ⟨lw.1.1.1, rfl, _, _, _, _, _, _, c_G_fewest (h := h) lw.1.1 j_Sc.rf, ⟨Nat.le_of_ble_eq_true rfl, Nat.le_of_ble_eq_true rfl, by (try dsimp only); omega, by (try dsimp only); omega⟩, fun _ _ z => False.elim z, ?_⟩
  rintro v9 H200 ⟨it202, e9, s9, r9, rfl⟩
  have fr9 : z_Fo x out h H200 := by rw [e9]; exact z_Fo.of (z_notes lw.1.1 lw.2.1 s9)
  have l201 := (lw.fo fr9).1
  conv => whnf
  obtain ⟨ρ206, w205⟩ := l201.1.2.1
  refine ⟨w205.km, rfl, _, _, _, _, _, _, c_Mo_fewest w205, ⟨Nat.le_of_ble_eq_true rfl, Nat.le_of_ble_eq_true rfl, by (try dsimp only); omega, by (try dsimp only); omega⟩, fun _ _ z => False.elim z, ?_⟩
  rintro v9 H203 ⟨st9, r9, rfl⟩
  have l204 := l201.mf w205 st9
  exact j_use hF (back _ _ _ l204 (by omega) (by omega)) (And.intro rfl (And.intro rfl (And.intro rfl (And.intro rfl (And.intro rfl trivial)))))
set_option maxHeartbeats 4000000 in
set_option maxRecDepth 20000 in
theorem j_turn20 {J : j_J} {L sc x m out P G R Q cn sn : Nat} {i : Int32} {h : j_H} (hJ : j_Cl k_law j_lF j_lP j_no J) (hF : j_Fg J) (hL : L ≤ 2560) (i0 : 0 ≤ i.toInt) (i1 : i.toInt + 5 ≤ (L : Int)) (hc : cn ≤ 500000) (hs : sn ≤ 6000000) (lw : j_LW L sc x m out P G R Q h) (back : ∀ (h' : j_H) (cn' sn' : Nat), j_LW L sc x m out P G R Q h' → cn' ≤ cn + 200 → sn' ≤ sn + 2000 → J 1161 [some (j_r (some sc)), some (j_r (some x)), some (j_r (some m)), some (j_r (some out)), some (j_i i), none, none] [] h' cn' sn') : J 985 [some (j_r (some sc)), some (j_r (some x)), some (j_r (some m)), some (j_r (some out)), some (j_i i), none, none] [] h cn sn := by
  have q1 : (i + Int32.ofInt (1)).toInt = i.toInt + 1 := j_inc1 (by omega)
  have q2 : (i + Int32.ofInt (2)).toInt = i.toInt + 2 := j_i2 i0 (by omega)
  have q3 : (i + Int32.ofInt (3)).toInt = i.toInt + 3 := j_i3 i0 (by omega)
  have q4 : (i + Int32.ofInt (4)).toInt = i.toInt + 4 := j_i4 i0 (by omega)
  refine hJ [1161] 400 _ _ _ _ _ _ ?_
  conv => whnf
  have lsv207 : j_ln h sc = L := lw.1.2.2.2.2.2.2
  refine ⟨_, _, rfl, lw.1.2.2.2.2.2.1, rfl, j_vp (by omega) (by rw [lsv207]; omega), fun v207 ev207 => ?_⟩
  conv => whnf
  refine ⟨fun c208 => ?_, fun c208 => ?_⟩
  · skip
    conv => whnf
    refine ⟨lw.1.1.1, rfl, _, _, _, _, _, _, c_G_bestSwap (h := h) lw.1.1 j_Sc.rf, ⟨Nat.le_of_ble_eq_true rfl, Nat.le_of_ble_eq_true rfl, by (try dsimp only); omega, by (try dsimp only); omega⟩, fun _ _ z => False.elim z, ?_⟩
    rintro v9 H209 ⟨it211, e9, s9, r9, rfl⟩
    have fr9 : z_Fo x out h H209 := by rw [e9]; exact z_Fo.of (z_notes lw.1.1 lw.2.1 s9)
    have l210 := (lw.fo fr9).1
    conv => whnf
    have lsv212 : j_ln H209 sc = L := l210.1.2.2.2.2.2.2
    refine ⟨_, _, rfl, l210.1.2.2.2.2.2.1, rfl, j_vp (by omega) (by rw [lsv212]; omega), fun v212 ev212 => ?_⟩
    conv => whnf
    refine ⟨fun c213 => ?_, fun c213 => ?_⟩
    · skip
      conv => whnf
      obtain ⟨ρ217, w216⟩ := l210.1.2.1
      refine ⟨w216.km, rfl, _, _, _, _, _, _, c_Mo_bestSwap w216, ⟨Nat.le_of_ble_eq_true rfl, Nat.le_of_ble_eq_true rfl, by (try dsimp only); omega, by (try dsimp only); omega⟩, fun _ _ z => False.elim z, ?_⟩
      rintro v9 H214 ⟨st9, r9, rfl⟩
      have l215 := l210.mf w216 st9
      exact j_use hF (back _ _ _ l215 (by omega) (by omega)) (And.intro rfl (And.intro rfl (And.intro rfl (And.intro rfl (And.intro rfl trivial)))))
    · skip
      conv => whnf
      obtain ⟨ρ221, w220⟩ := l210.1.2.1
      refine ⟨w220.km, rfl, _, _, _, _, _, _, c_Mo_bestSwap w220, ⟨Nat.le_of_ble_eq_true rfl, Nat.le_of_ble_eq_true rfl, by (try dsimp only); omega, by (try dsimp only); omega⟩, fun _ _ z => False.elim z, ?_⟩
      rintro v9 H218 ⟨st9, r9, rfl⟩
      have l219 := l210.mf w220 st9
      exact j_use hF (back _ _ _ l219 (by omega) (by omega)) (And.intro rfl (And.intro rfl (And.intro rfl (And.intro rfl (And.intro rfl trivial)))))
  · skip
    conv => whnf
    refine ⟨lw.1.1.1, rfl, _, _, _, _, _, _, c_G_bestSwap (h := h) lw.1.1 j_Sc.rf, ⟨Nat.le_of_ble_eq_true rfl, Nat.le_of_ble_eq_true rfl, by (try dsimp only); omega, by (try dsimp only); omega⟩, fun _ _ z => False.elim z, ?_⟩
    rintro v9 H222 ⟨it224, e9, s9, r9, rfl⟩
    have fr9 : z_Fo x out h H222 := by rw [e9]; exact z_Fo.of (z_notes lw.1.1 lw.2.1 s9)
    have l223 := (lw.fo fr9).1
    conv => whnf
    have lsv225 : j_ln H222 sc = L := l223.1.2.2.2.2.2.2
    refine ⟨_, _, rfl, l223.1.2.2.2.2.2.1, rfl, j_vp (by omega) (by rw [lsv225]; omega), fun v225 ev225 => ?_⟩
    conv => whnf
    refine ⟨fun c226 => ?_, fun c226 => ?_⟩
    · skip
      conv => whnf
      obtain ⟨ρ230, w229⟩ := l223.1.2.1
      refine ⟨w229.km, rfl, _, _, _, _, _, _, c_Mo_bestSwap w229, ⟨Nat.le_of_ble_eq_true rfl, Nat.le_of_ble_eq_true rfl, by (try dsimp only); omega, by (try dsimp only); omega⟩, fun _ _ z => False.elim z, ?_⟩
      rintro v9 H227 ⟨st9, r9, rfl⟩
      have l228 := l223.mf w229 st9
      exact j_use hF (back _ _ _ l228 (by omega) (by omega)) (And.intro rfl (And.intro rfl (And.intro rfl (And.intro rfl (And.intro rfl trivial)))))
    · skip
      conv => whnf
      obtain ⟨ρ234, w233⟩ := l223.1.2.1
      refine ⟨w233.km, rfl, _, _, _, _, _, _, c_Mo_bestSwap w233, ⟨Nat.le_of_ble_eq_true rfl, Nat.le_of_ble_eq_true rfl, by (try dsimp only); omega, by (try dsimp only); omega⟩, fun _ _ z => False.elim z, ?_⟩
      rintro v9 H231 ⟨st9, r9, rfl⟩
      have l232 := l223.mf w233 st9
      exact j_use hF (back _ _ _ l232 (by omega) (by omega)) (And.intro rfl (And.intro rfl (And.intro rfl (And.intro rfl (And.intro rfl trivial)))))
set_option maxHeartbeats 4000000 in
set_option maxRecDepth 20000 in
theorem j_turn21 {J : j_J} {L sc x m out P G R Q cn sn : Nat} {i : Int32} {h : j_H} (hJ : j_Cl k_law j_lF j_lP j_no J) (hF : j_Fg J) (hL : L ≤ 2560) (i0 : 0 ≤ i.toInt) (i1 : i.toInt + 5 ≤ (L : Int)) (hc : cn ≤ 500000) (hs : sn ≤ 6000000) (lw : j_LW L sc x m out P G R Q h) (back : ∀ (h' : j_H) (cn' sn' : Nat), j_LW L sc x m out P G R Q h' → cn' ≤ cn + 200 → sn' ≤ sn + 2000 → J 1161 [some (j_r (some sc)), some (j_r (some x)), some (j_r (some m)), some (j_r (some out)), some (j_i i), none, none] [] h' cn' sn') : J 1026 [some (j_r (some sc)), some (j_r (some x)), some (j_r (some m)), some (j_r (some out)), some (j_i i), none, none] [] h cn sn := by
  have q1 : (i + Int32.ofInt (1)).toInt = i.toInt + 1 := j_inc1 (by omega)
  have q2 : (i + Int32.ofInt (2)).toInt = i.toInt + 2 := j_i2 i0 (by omega)
  have q3 : (i + Int32.ofInt (3)).toInt = i.toInt + 3 := j_i3 i0 (by omega)
  have q4 : (i + Int32.ofInt (4)).toInt = i.toInt + 4 := j_i4 i0 (by omega)
  refine hJ [1161] 400 _ _ _ _ _ _ ?_
  conv => whnf
  have lsv235 : j_ln h sc = L := lw.1.2.2.2.2.2.2
  refine ⟨_, _, rfl, lw.1.2.2.2.2.2.1, rfl, j_vp (by omega) (by rw [lsv235]; omega), fun v235 ev235 => ?_⟩
  conv => whnf
  have lsv236 : j_ln h sc = L := lw.1.2.2.2.2.2.2
  refine ⟨_, _, rfl, lw.1.2.2.2.2.2.1, rfl, j_vp (by omega) (by rw [lsv236]; omega), fun v236 ev236 => ?_⟩
  conv => whnf
  refine ⟨rfl, _, _, _, _, _, _, c_Lw_changedx lw.1.1 lw.2.1 lw.2.2.1.1 lw.1.2.2.1, ⟨Nat.le_of_ble_eq_true rfl, Nat.le_of_ble_eq_true rfl, by (try dsimp only); omega, by (try dsimp only); omega⟩, fun _ _ z => False.elim z, ?_⟩
  rintro u9 H237 a
  obtain rfl := a.1
  obtain ⟨l1, s1, m1⟩ := lw.1.lq a
  conv => whnf
  have lsv239 : j_ln H237 sc = L := l1.2.2.2.2.2.2
  refine ⟨_, _, rfl, l1.2.2.2.2.2.1, rfl, j_vp (by omega) (by rw [lsv239]; omega), fun v239 ev239 => ?_⟩
  obtain rfl : v235 = v239 := ev235.symm.trans ((s1 _).symm.trans ev239)
  conv => whnf
  have lsv240 : j_ln H237 sc = L := l1.2.2.2.2.2.2
  refine ⟨_, _, rfl, l1.2.2.2.2.2.1, rfl, j_vp (by omega) (by rw [lsv240]; omega), fun v240 ev240 => ?_⟩
  obtain rfl : v236 = v240 := ev236.symm.trans ((s1 _).symm.trans ev240)
  conv => whnf
  obtain ⟨ρ9, w9⟩ := l1.2.1
  have eq9 : z_eq (z_d H237 m P G R Q) (z_c h x) := m1.tr lw.2.2.2
  have V := lw.2.2.1.1
  have B := lw.2.2.1.2
  refine ⟨w9.km, rfl, _, _, _, _, _, _, c_Mo_changedz w9 (V.eq eq9) (B.eq eq9), ⟨Nat.le_of_ble_eq_true rfl, Nat.le_of_ble_eq_true rfl, by (try dsimp only); omega, by (try dsimp only); omega⟩, fun _ _ z => False.elim z, ?_⟩
  rintro u9 H241 b
  have hq : q_pace v235 v236 = q_pace v235 v236 := rfl
  obtain ⟨lw2, o2⟩ := lw.told a b.ms hq (fun _ => eq9) (fun _ => ⟨V, B⟩)
  obtain ⟨r9, rfl⟩ := b.2.2.2.2.2.2
  exact j_use hF (back _ _ _ lw2 (by omega) (by omega)) (And.intro rfl (And.intro rfl (And.intro rfl (And.intro rfl (And.intro rfl trivial)))))
set_option maxHeartbeats 4000000 in
set_option maxRecDepth 20000 in
theorem j_turn22 {J : j_J} {L sc x m out P G R Q cn sn : Nat} {i : Int32} {h : j_H} (hJ : j_Cl k_law j_lF j_lP j_no J) (hF : j_Fg J) (hL : L ≤ 2560) (i0 : 0 ≤ i.toInt) (i1 : i.toInt + 5 ≤ (L : Int)) (hc : cn ≤ 500000) (hs : sn ≤ 6000000) (lw : j_LW L sc x m out P G R Q h) (back : ∀ (h' : j_H) (cn' sn' : Nat), j_LW L sc x m out P G R Q h' → cn' ≤ cn + 200 → sn' ≤ sn + 2000 → J 1161 [some (j_r (some sc)), some (j_r (some x)), some (j_r (some m)), some (j_r (some out)), some (j_i i), none, none] [] h' cn' sn') : J 1066 [some (j_r (some sc)), some (j_r (some x)), some (j_r (some m)), some (j_r (some out)), some (j_i i), none, none] [] h cn sn := by
  have q1 : (i + Int32.ofInt (1)).toInt = i.toInt + 1 := j_inc1 (by omega)
  have q2 : (i + Int32.ofInt (2)).toInt = i.toInt + 2 := j_i2 i0 (by omega)
  have q3 : (i + Int32.ofInt (3)).toInt = i.toInt + 3 := j_i3 i0 (by omega)
  have q4 : (i + Int32.ofInt (4)).toInt = i.toInt + 4 := j_i4 i0 (by omega)
  refine hJ [1161] 400 _ _ _ _ _ _ ?_
  conv => whnf
  have lsv243 : j_ln h sc = L := lw.1.2.2.2.2.2.2
  refine ⟨_, _, rfl, lw.1.2.2.2.2.2.1, rfl, j_vp (by omega) (by rw [lsv243]; omega), fun v243 ev243 => ?_⟩
  conv => whnf
  have lsv244 : j_ln h sc = L := lw.1.2.2.2.2.2.2
  refine ⟨_, _, rfl, lw.1.2.2.2.2.2.1, rfl, j_vp (by omega) (by rw [lsv244]; omega), fun v244 ev244 => ?_⟩
  conv => whnf
  refine ⟨rfl, _, _, _, _, _, _, c_Lw_widerx lw.1.1 lw.2.1 lw.1.2.2.1, ⟨Nat.le_of_ble_eq_true rfl, Nat.le_of_ble_eq_true rfl, by (try dsimp only); omega, by (try dsimp only); omega⟩, fun _ _ z => False.elim z, ?_⟩
  rintro u9 H245 a
  obtain rfl := a.1
  obtain ⟨l1, s1, m1⟩ := lw.1.lq a
  conv => whnf
  have lsv247 : j_ln H245 sc = L := l1.2.2.2.2.2.2
  refine ⟨_, _, rfl, l1.2.2.2.2.2.1, rfl, j_vp (by omega) (by rw [lsv247]; omega), fun v247 ev247 => ?_⟩
  obtain rfl : v243 = v247 := ev243.symm.trans ((s1 _).symm.trans ev247)
  conv => whnf
  have lsv248 : j_ln H245 sc = L := l1.2.2.2.2.2.2
  refine ⟨_, _, rfl, l1.2.2.2.2.2.1, rfl, j_vp (by omega) (by rw [lsv248]; omega), fun v248 ev248 => ?_⟩
  obtain rfl : v244 = v248 := ev244.symm.trans ((s1 _).symm.trans ev248)
  conv => whnf
  obtain ⟨ρ9, w9⟩ := l1.2.1
  have eq9 : z_eq (z_d H245 m P G R Q) (z_c h x) := m1.tr lw.2.2.2
  have V := lw.2.2.1.1
  have B := lw.2.2.1.2
  refine ⟨w9.km, rfl, _, _, _, _, _, _, c_Mo_widerz w9 (V.eq eq9), ⟨Nat.le_of_ble_eq_true rfl, Nat.le_of_ble_eq_true rfl, by (try dsimp only); omega, by (try dsimp only); omega⟩, fun _ _ z => False.elim z, ?_⟩
  rintro u9 H249 b
  have hq : q_wider (z_d H245 m P G R Q) v243 v244 = q_wider (z_c h x) v243 v244 := q_wider_c eq9
  obtain ⟨lw2, o2⟩ := lw.told a b.ms hq (fun _ => eq9) (fun _ => ⟨V, B⟩)
  obtain ⟨r9, rfl⟩ := b.2.2.2.2.2.2
  conv => whnf
  have t2 := b.2.2.1
  rw [hq] at t2
  obtain ⟨ρ8, w8⟩ := lw2.1.2.1
  refine ⟨w8.km, rfl, _, _, _, _, _, _, c_Mo_thrownx w8.km, ⟨Nat.le_of_ble_eq_true rfl, Nat.le_of_ble_eq_true rfl, by (try dsimp only); omega, by (try dsimp only); omega⟩, fun _ _ z => False.elim z, ?_⟩
  rintro v7 h7 ⟨rfl, e7⟩
  obtain rfl : H249 = h7 := e7.symm
  rw [t2]
  conv => whnf
  refine ⟨fun _ => ?_, fun c => absurd rfl c⟩
  conv => whnf
  refine ⟨fun _ => ?_, fun c => ?_⟩
  · exact j_use hF (back _ _ _ lw2 (by omega) (by omega)) (And.intro rfl (And.intro rfl (And.intro rfl (And.intro rfl (And.intro rfl trivial)))))
  have c : ¬ ¬ (Int32.ofInt (q_wider (z_c h x) v243 v244)).toInt = 0 := c
  have z : q_wider (z_c h x) v243 v244 = 0 := j_nz q_wider_n (Decidable.not_not.mp c)
  obtain rfl : r9 = z_wd (z_c h x) (v243).toNatClampNeg v244 := (Sum.inl.inj (Option.some.inj (b.2.2.2.2.2.1 (hq.trans z)))).trans (z_wd_c eq9 w9.b.2.1.1)
  conv => whnf
  refine ⟨_, rfl, lw2.1.2.2.1, fun y ey => ?_⟩
  obtain rfl : y = (z_wd (z_c h x) (v243).toNatClampNeg v244).toInt64 := ey.symm.trans (o2.trans (a.2.2.2.2 z))
  conv => whnf
  refine ⟨fun _ => ?_, fun c => absurd (j_cmp0 _) c⟩
  exact j_use hF (back _ _ _ lw2 (by omega) (by omega)) (And.intro rfl (And.intro rfl (And.intro rfl (And.intro rfl (And.intro rfl trivial)))))
set_option maxHeartbeats 4000000 in
set_option maxRecDepth 20000 in
theorem j_turn23 {J : j_J} {L sc x m out P G R Q cn sn : Nat} {i : Int32} {h : j_H} (hJ : j_Cl k_law j_lF j_lP j_no J) (hF : j_Fg J) (hL : L ≤ 2560) (i0 : 0 ≤ i.toInt) (i1 : i.toInt + 5 ≤ (L : Int)) (hc : cn ≤ 500000) (hs : sn ≤ 6000000) (lw : j_LW L sc x m out P G R Q h) (back : ∀ (h' : j_H) (cn' sn' : Nat), j_LW L sc x m out P G R Q h' → cn' ≤ cn + 200 → sn' ≤ sn + 2000 → J 1161 [some (j_r (some sc)), some (j_r (some x)), some (j_r (some m)), some (j_r (some out)), some (j_i i), none, none] [] h' cn' sn') : J 1135 [some (j_r (some sc)), some (j_r (some x)), some (j_r (some m)), some (j_r (some out)), some (j_i i), none, none] [] h cn sn := by
  have q1 : (i + Int32.ofInt (1)).toInt = i.toInt + 1 := j_inc1 (by omega)
  have q2 : (i + Int32.ofInt (2)).toInt = i.toInt + 2 := j_i2 i0 (by omega)
  have q3 : (i + Int32.ofInt (3)).toInt = i.toInt + 3 := j_i3 i0 (by omega)
  have q4 : (i + Int32.ofInt (4)).toInt = i.toInt + 4 := j_i4 i0 (by omega)
  refine hJ [1161] 400 _ _ _ _ _ _ ?_
  conv => whnf
  refine ⟨lw.1.1.1, rfl, _, _, _, _, _, _, c_G_isSound (h := h) lw.1.1 j_Sc.rf, ⟨Nat.le_of_ble_eq_true rfl, Nat.le_of_ble_eq_true rfl, by (try dsimp only); omega, by (try dsimp only); omega⟩, fun _ _ z => False.elim z, ?_⟩
  rintro v9 H253 ⟨it255, e9, s9, r9, rfl, -⟩
  have fr9 : z_Fo x out h H253 := by rw [e9]; exact z_Fo.of (z_notes lw.1.1 lw.2.1 s9)
  have l254 := (lw.fo fr9).1
  conv => whnf
  obtain ⟨ρ259, w258⟩ := l254.1.2.1
  refine ⟨w258.km, rfl, _, _, _, _, _, _, c_Mo_isSound w258, ⟨Nat.le_of_ble_eq_true rfl, Nat.le_of_ble_eq_true rfl, by (try dsimp only); omega, by (try dsimp only); omega⟩, fun _ _ z => False.elim z, ?_⟩
  rintro v9 H256 ⟨st9, r9, rfl, -⟩
  have l257 := l254.mf w258 st9
  exact j_use hF (back _ _ _ l257 (by omega) (by omega)) (And.intro rfl (And.intro rfl (And.intro rfl (And.intro rfl (And.intro rfl trivial)))))
set_option maxHeartbeats 4000000 in
set_option maxRecDepth 20000 in
theorem j_turn24 {J : j_J} {L sc x m out P G R Q cn sn : Nat} {i : Int32} {h : j_H} (hJ : j_Cl k_law j_lF j_lP j_no J) (hF : j_Fg J) (hL : L ≤ 2560) (i0 : 0 ≤ i.toInt) (i1 : i.toInt + 5 ≤ (L : Int)) (hc : cn ≤ 500000) (hs : sn ≤ 6000000) (lw : j_LW L sc x m out P G R Q h) (back : ∀ (h' : j_H) (cn' sn' : Nat), j_LW L sc x m out P G R Q h' → cn' ≤ cn + 200 → sn' ≤ sn + 2000 → J 1161 [some (j_r (some sc)), some (j_r (some x)), some (j_r (some m)), some (j_r (some out)), some (j_i i), none, none] [] h' cn' sn') : J 1148 [some (j_r (some sc)), some (j_r (some x)), some (j_r (some m)), some (j_r (some out)), some (j_i i), none, none] [] h cn sn := by
  have q1 : (i + Int32.ofInt (1)).toInt = i.toInt + 1 := j_inc1 (by omega)
  have q2 : (i + Int32.ofInt (2)).toInt = i.toInt + 2 := j_i2 i0 (by omega)
  have q3 : (i + Int32.ofInt (3)).toInt = i.toInt + 3 := j_i3 i0 (by omega)
  have q4 : (i + Int32.ofInt (4)).toInt = i.toInt + 4 := j_i4 i0 (by omega)
  refine hJ [1161] 400 _ _ _ _ _ _ ?_
  conv => whnf
  refine ⟨lw.1.1.1, rfl, _, _, _, _, _, _, c_G_digest (h := h) lw.1.1 j_Sc.rf, ⟨Nat.le_of_ble_eq_true rfl, Nat.le_of_ble_eq_true rfl, by (try dsimp only); omega, by (try dsimp only); omega⟩, fun _ _ z => False.elim z, ?_⟩
  rintro v9 H260 ⟨it262, e9, s9, r9, rfl⟩
  have fr9 : z_Fo x out h H260 := by rw [e9]; exact z_Fo.of (z_notes lw.1.1 lw.2.1 s9)
  have l261 := (lw.fo fr9).1
  conv => whnf
  obtain ⟨ρ266, w265⟩ := l261.1.2.1
  refine ⟨w265.km, rfl, _, _, _, _, _, _, c_Mo_digest w265, ⟨Nat.le_of_ble_eq_true rfl, Nat.le_of_ble_eq_true rfl, by (try dsimp only); omega, by (try dsimp only); omega⟩, fun _ _ z => False.elim z, ?_⟩
  rintro v9 H263 ⟨st9, r9, rfl⟩
  have l264 := l261.mf w265 st9
  exact j_use hF (back _ _ _ l264 (by omega) (by omega)) (And.intro rfl (And.intro rfl (And.intro rfl (And.intro rfl (And.intro rfl trivial)))))
set_option maxHeartbeats 4000000 in
set_option maxRecDepth 20000 in
theorem j_lawloop {J : j_J} {L sc x m out P G R Q : Nat} (hJ : j_Cl k_law j_lF j_lP j_no J) (hF : j_Fg J) (hL : L ≤ 2560) : ∀ (k : Nat) (i : Int32) (h : j_H) (cn sn : Nat), j_LW L sc x m out P G R Q h → 0 ≤ i.toInt → i.toInt ≤ (L : Int) → ((L : Int) + 5 - i.toInt) < (k : Int) → cn ≤ 100 + 40 * i.toInt.toNat → sn ≤ 1000 + 400 * i.toInt.toNat → J 27 [some (j_r (some sc)), some (j_r (some x)), some (j_r (some m)), some (j_r (some out)), some (j_i i), none, none] [] h cn sn := by
  intro k
  induction k with
  | zero => intro i h cn sn lw i0 i1 hk hc hs; omega
  | succ k ih =>
    intro i h cn sn lw i0 i1 hk hc hs
    have q5 : (Int32.ofInt 5).toInt = 5 := by decide
    have ls : j_ln h sc = L := lw.1.2.2.2.2.2.2
    have hn : (nI (j_ln h sc)).toInt = (L : Int) := by rw [ls]; exact nI_toInt (by omega)
    have hs5 : (nI (j_ln h sc) - Int32.ofInt 5).toInt = (L : Int) - 5 := by rw [j_subI (by rw [hn, q5]; omega) (by rw [hn, q5]; omega), hn, q5]
    refine hJ [156, 208, 236, 276, 316, 356, 384, 448, 476, 516, 556, 596, 636, 688, 744, 784, 812, 840, 892, 972, 985, 1026, 1066, 1135, 1148, 1161] 400 _ _ _ _ _ _ ?_
    conv => whnf
    refine ⟨_, _, rfl, lw.1.2.2.2.2.2.1, ?_⟩
    conv => whnf
    refine ⟨fun c => ?_, fun c => ?_⟩
    · conv => whnf
      exact ⟨Or.inr rfl, ⟨by (try dsimp only); omega, by (try dsimp only); omega⟩, rfl⟩
    have c : ¬ (nI (j_ln h sc) - Int32.ofInt 5).toInt < i.toInt := c
    rw [hs5] at c
    have back : ∀ (h' : j_H) (cn' sn' : Nat), j_LW L sc x m out P G R Q h' → cn' ≤ cn + 200 → sn' ≤ sn + 2000 → J 1161 [some (j_r (some sc)), some (j_r (some x)), some (j_r (some m)), some (j_r (some out)), some (j_i i), none, none] [] h' cn' sn' := by
      intro h' cn' sn' lw' hc' hs'
      have t : (i + Int32.ofInt (5)).toInt = i.toInt + 5 := j_i5 i0 (by omega)
      refine hJ [27] 400 _ _ _ _ _ _ ?_
      conv => whnf
      exact j_use hF (ih (i + Int32.ofInt (5)) h' cn' sn' lw' (by omega) (by omega) (by omega) (by omega) (by omega)) (And.intro rfl (And.intro rfl (And.intro rfl (And.intro rfl (And.intro rfl trivial)))))
    conv => whnf
    refine ⟨_, _, rfl, lw.1.2.2.2.2.2.1, rfl, j_vp (by omega) (by omega), fun v _ => ?_⟩
    conv => whnf
    refine ⟨And.intro (fun _ => ?_) (And.intro (fun _ => ?_) (And.intro (fun _ => ?_) (And.intro (fun _ => ?_) (And.intro (fun _ => ?_) (And.intro (fun _ => ?_) (And.intro (fun _ => ?_) (And.intro (fun _ => ?_) (And.intro (fun _ => ?_) (And.intro (fun _ => ?_) (And.intro (fun _ => ?_) (And.intro (fun _ => ?_) (And.intro (fun _ => ?_) (And.intro (fun _ => ?_) (And.intro (fun _ => ?_) (And.intro (fun _ => ?_) (And.intro (fun _ => ?_) (And.intro (fun _ => ?_) (And.intro (fun _ => ?_) (And.intro (fun _ => ?_) (And.intro (fun _ => ?_) (And.intro (fun _ => ?_) (And.intro (fun _ => ?_) (And.intro (fun _ => ?_) (And.intro (fun _ => ?_) (trivial))))))))))))))))))))))))), fun _ => ?_⟩
    · exact j_use hF (j_turn0 hJ hF hL i0 (by omega) (by omega) (by omega) lw back) (And.intro rfl (And.intro rfl (And.intro rfl (And.intro rfl (And.intro rfl trivial)))))
    · exact j_use hF (j_turn1 hJ hF hL i0 (by omega) (by omega) (by omega) lw back) (And.intro rfl (And.intro rfl (And.intro rfl (And.intro rfl (And.intro rfl trivial)))))
    · exact j_use hF (j_turn2 hJ hF hL i0 (by omega) (by omega) (by omega) lw back) (And.intro rfl (And.intro rfl (And.intro rfl (And.intro rfl (And.intro rfl trivial)))))
    · exact j_use hF (j_turn3 hJ hF hL i0 (by omega) (by omega) (by omega) lw back) (And.intro rfl (And.intro rfl (And.intro rfl (And.intro rfl (And.intro rfl trivial)))))
    · exact j_use hF (j_turn4 hJ hF hL i0 (by omega) (by omega) (by omega) lw back) (And.intro rfl (And.intro rfl (And.intro rfl (And.intro rfl (And.intro rfl trivial)))))
    · exact j_use hF (j_turn5 hJ hF hL i0 (by omega) (by omega) (by omega) lw back) (And.intro rfl (And.intro rfl (And.intro rfl (And.intro rfl (And.intro rfl trivial)))))
    · exact j_use hF (j_turn6 hJ hF hL i0 (by omega) (by omega) (by omega) lw back) (And.intro rfl (And.intro rfl (And.intro rfl (And.intro rfl (And.intro rfl trivial)))))
    · exact j_use hF (j_turn7 hJ hF hL i0 (by omega) (by omega) (by omega) lw back) (And.intro rfl (And.intro rfl (And.intro rfl (And.intro rfl (And.intro rfl trivial)))))
    · exact j_use hF (j_turn8 hJ hF hL i0 (by omega) (by omega) (by omega) lw back) (And.intro rfl (And.intro rfl (And.intro rfl (And.intro rfl (And.intro rfl trivial)))))
    · exact j_use hF (j_turn9 hJ hF hL i0 (by omega) (by omega) (by omega) lw back) (And.intro rfl (And.intro rfl (And.intro rfl (And.intro rfl (And.intro rfl trivial)))))
    · exact j_use hF (j_turn10 hJ hF hL i0 (by omega) (by omega) (by omega) lw back) (And.intro rfl (And.intro rfl (And.intro rfl (And.intro rfl (And.intro rfl trivial)))))
    · exact j_use hF (j_turn11 hJ hF hL i0 (by omega) (by omega) (by omega) lw back) (And.intro rfl (And.intro rfl (And.intro rfl (And.intro rfl (And.intro rfl trivial)))))
    · exact j_use hF (j_turn12 hJ hF hL i0 (by omega) (by omega) (by omega) lw back) (And.intro rfl (And.intro rfl (And.intro rfl (And.intro rfl (And.intro rfl trivial)))))
    · exact j_use hF (j_turn13 hJ hF hL i0 (by omega) (by omega) (by omega) lw back) (And.intro rfl (And.intro rfl (And.intro rfl (And.intro rfl (And.intro rfl trivial)))))
    · exact j_use hF (j_turn14 hJ hF hL i0 (by omega) (by omega) (by omega) lw back) (And.intro rfl (And.intro rfl (And.intro rfl (And.intro rfl (And.intro rfl trivial)))))
    · exact j_use hF (j_turn15 hJ hF hL i0 (by omega) (by omega) (by omega) lw back) (And.intro rfl (And.intro rfl (And.intro rfl (And.intro rfl (And.intro rfl trivial)))))
    · exact j_use hF (j_turn16 hJ hF hL i0 (by omega) (by omega) (by omega) lw back) (And.intro rfl (And.intro rfl (And.intro rfl (And.intro rfl (And.intro rfl trivial)))))
    · exact j_use hF (j_turn17 hJ hF hL i0 (by omega) (by omega) (by omega) lw back) (And.intro rfl (And.intro rfl (And.intro rfl (And.intro rfl (And.intro rfl trivial)))))
    · exact j_use hF (j_turn18 hJ hF hL i0 (by omega) (by omega) (by omega) lw back) (And.intro rfl (And.intro rfl (And.intro rfl (And.intro rfl (And.intro rfl trivial)))))
    · exact j_use hF (j_turn19 hJ hF hL i0 (by omega) (by omega) (by omega) lw back) (And.intro rfl (And.intro rfl (And.intro rfl (And.intro rfl (And.intro rfl trivial)))))
    · exact j_use hF (j_turn20 hJ hF hL i0 (by omega) (by omega) (by omega) lw back) (And.intro rfl (And.intro rfl (And.intro rfl (And.intro rfl (And.intro rfl trivial)))))
    · exact j_use hF (j_turn21 hJ hF hL i0 (by omega) (by omega) (by omega) lw back) (And.intro rfl (And.intro rfl (And.intro rfl (And.intro rfl (And.intro rfl trivial)))))
    · exact j_use hF (j_turn22 hJ hF hL i0 (by omega) (by omega) (by omega) lw back) (And.intro rfl (And.intro rfl (And.intro rfl (And.intro rfl (And.intro rfl trivial)))))
    · exact j_use hF (j_turn23 hJ hF hL i0 (by omega) (by omega) (by omega) lw back) (And.intro rfl (And.intro rfl (And.intro rfl (And.intro rfl (And.intro rfl trivial)))))
    · exact j_use hF (j_turn24 hJ hF hL i0 (by omega) (by omega) (by omega) lw back) (And.intro rfl (And.intro rfl (And.intro rfl (And.intro rfl (And.intro rfl trivial)))))
    · exact j_use hF (back h cn sn lw (by omega) (by omega)) (And.intro rfl (And.intro rfl (And.intro rfl (And.intro rfl (And.intro rfl trivial)))))
