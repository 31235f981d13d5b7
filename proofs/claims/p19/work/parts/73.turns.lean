/-! the law's turns, one by one -/
theorem j_i2 {i : Int32} (h0 : 0 ≤ i.toInt) (h1 : i.toInt ≤ 100000) : (i + Int32.ofInt (2)).toInt = i.toInt + 2 := by
  have e : (Int32.ofInt (2)).toInt = 2 := by decide
  rw [j_addI (by omega) (by omega), e]
theorem j_i3 {i : Int32} (h0 : 0 ≤ i.toInt) (h1 : i.toInt ≤ 100000) : (i + Int32.ofInt (3)).toInt = i.toInt + 3 := by
  have e : (Int32.ofInt (3)).toInt = 3 := by decide
  rw [j_addI (by omega) (by omega), e]
theorem j_i4 {i : Int32} (h0 : 0 ≤ i.toInt) (h1 : i.toInt ≤ 100000) : (i + Int32.ofInt (4)).toInt = i.toInt + 4 := by
  have e : (Int32.ofInt (4)).toInt = 4 := by decide
  rw [j_addI (by omega) (by omega), e]
theorem j_i5 {i : Int32} (h0 : 0 ≤ i.toInt) (h1 : i.toInt ≤ 100000) : (i + Int32.ofInt (5)).toInt = i.toInt + 5 := by
  have e : (Int32.ofInt (5)).toInt = 5 := by decide
  rw [j_addI (by omega) (by omega), e]
abbrev j_lF : j_F := (7, some .boolean, 2048, 84000, 601024, 7293033)
def j_lP : Option j_V → j_H → Prop := fun v _ => v = some (j_i (Int32.ofInt 1))
theorem j_cmp0 (x : Int64) : (lg_cmp x x).toInt = 0 := by
  have e : lg_cmp x x = 0 := by
    unfold lg_cmp
    simp
  rw [e]
  decide
set_option maxHeartbeats 4000000 in
set_option maxRecDepth 20000 in
theorem j_turn0 {J : j_J} {L sc x m out P G R Q cn sn : Nat} {i : Int32} {h : j_H} (hJ : j_Cl k_law j_lF j_lP j_no J) (hF : j_Fg J) (hL : L ≤ 2560) (i0 : 0 ≤ i.toInt) (i1 : i.toInt + 5 ≤ (L : Int)) (hc : cn ≤ 500000) (hs : sn ≤ 6000000) (lw : j_LW L sc x m out P G R Q h) (back : ∀ (h' : j_H) (cn' sn' : Nat), j_LW L sc x m out P G R Q h' → cn' ≤ cn + 200 → sn' ≤ sn + 2000 → J 1161 [some (j_r (some sc)), some (j_r (some x)), some (j_r (some m)), some (j_r (some out)), some (j_i i), none, none] [] h' cn' sn') : J 156 [some (j_r (some sc)), some (j_r (some x)), some (j_r (some m)), some (j_r (some out)), some (j_i i), none, none] [] h cn sn := by
  have q1 : (i + Int32.ofInt (1)).toInt = i.toInt + 1 := j_inc1 (by omega)
  have q2 : (i + Int32.ofInt (2)).toInt = i.toInt + 2 := j_i2 i0 (by omega)
  have q3 : (i + Int32.ofInt (3)).toInt = i.toInt + 3 := j_i3 i0 (by omega)
  have q4 : (i + Int32.ofInt (4)).toInt = i.toInt + 4 := j_i4 i0 (by omega)
  refine hJ [1161] 400 _ _ _ _ _ _ ?_
  conv => whnf
  have lsv1 : j_ln h sc = L := lw.1.2.2.2.2.2.2
  refine ⟨_, _, rfl, lw.1.2.2.2.2.2.1, rfl, j_vp (by omega) (by rw [lsv1]; omega), fun v1 ev1 => ?_⟩
  conv => whnf
  have lsv2 : j_ln h sc = L := lw.1.2.2.2.2.2.2
  refine ⟨_, _, rfl, lw.1.2.2.2.2.2.1, rfl, j_vp (by omega) (by rw [lsv2]; omega), fun v2 ev2 => ?_⟩
  conv => whnf
  have lsv3 : j_ln h sc = L := lw.1.2.2.2.2.2.2
  refine ⟨_, _, rfl, lw.1.2.2.2.2.2.1, rfl, j_vp (by omega) (by rw [lsv3]; omega), fun v3 ev3 => ?_⟩
  conv => whnf
  refine ⟨rfl, _, _, _, _, _, _, c_Lw_grainq lw.1.1 lw.1.2.2.1, ⟨Nat.le_of_ble_eq_true rfl, Nat.le_of_ble_eq_true rfl, by (try dsimp only); omega, by (try dsimp only); omega⟩, fun _ _ z => False.elim z, ?_⟩
  rintro u9 H4 a
  obtain rfl := a.1
  obtain ⟨l1, s1, m1⟩ := lw.1.lq a
  conv => whnf
  have lsv6 : j_ln H4 sc = L := l1.2.2.2.2.2.2
  refine ⟨_, _, rfl, l1.2.2.2.2.2.1, rfl, j_vp (by omega) (by rw [lsv6]; omega), fun v6 ev6 => ?_⟩
  obtain rfl : v1 = v6 := ev1.symm.trans ((s1 _).symm.trans ev6)
  conv => whnf
  have lsv7 : j_ln H4 sc = L := l1.2.2.2.2.2.2
  refine ⟨_, _, rfl, l1.2.2.2.2.2.1, rfl, j_vp (by omega) (by rw [lsv7]; omega), fun v7 ev7 => ?_⟩
  obtain rfl : v2 = v7 := ev2.symm.trans ((s1 _).symm.trans ev7)
  conv => whnf
  have lsv8 : j_ln H4 sc = L := l1.2.2.2.2.2.2
  refine ⟨_, _, rfl, l1.2.2.2.2.2.1, rfl, j_vp (by omega) (by rw [lsv8]; omega), fun v8 ev8 => ?_⟩
  obtain rfl : v3 = v8 := ev3.symm.trans ((s1 _).symm.trans ev8)
  conv => whnf
  obtain ⟨ρ9, w9⟩ := l1.2.1
  have eq9 : ∀ k, j_aK k = true → j_am H4 m P G R k = j_ax h x k := fun k hk => (m1 k hk).trans (lw.2.2 k hk)
  refine ⟨w9.km, rfl, _, _, _, _, _, _, c_Mo_grainq w9, ⟨Nat.le_of_ble_eq_true rfl, Nat.le_of_ble_eq_true rfl, by (try dsimp only); omega, by (try dsimp only); omega⟩, fun _ _ z => False.elim z, ?_⟩
  rintro u9 H9 b
  have hq : q_grain (j_am H4 m P G R) v1 v2 v3 = q_grain (j_ax h x) v1 v2 v3 := q_grain_c eq9
  obtain ⟨lw2, o2⟩ := lw.told a b hq (fun _ => j_u1_c eq9 (by rw [eq9 0 rfl])) (fun _ => j_TV.u1 lw.2.1 (fun z => by omega))
  obtain ⟨r9, rfl⟩ := b.2.2.2.2.2.2
  exact j_use hF (back _ _ _ lw2 (by omega) (by omega)) (And.intro rfl (And.intro rfl (And.intro rfl (And.intro rfl (And.intro rfl trivial)))))
set_option maxHeartbeats 4000000 in
set_option maxRecDepth 20000 in
theorem j_turn1 {J : j_J} {L sc x m out P G R Q cn sn : Nat} {i : Int32} {h : j_H} (hJ : j_Cl k_law j_lF j_lP j_no J) (hF : j_Fg J) (hL : L ≤ 2560) (i0 : 0 ≤ i.toInt) (i1 : i.toInt + 5 ≤ (L : Int)) (hc : cn ≤ 500000) (hs : sn ≤ 6000000) (lw : j_LW L sc x m out P G R Q h) (back : ∀ (h' : j_H) (cn' sn' : Nat), j_LW L sc x m out P G R Q h' → cn' ≤ cn + 200 → sn' ≤ sn + 2000 → J 1161 [some (j_r (some sc)), some (j_r (some x)), some (j_r (some m)), some (j_r (some out)), some (j_i i), none, none] [] h' cn' sn') : J 208 [some (j_r (some sc)), some (j_r (some x)), some (j_r (some m)), some (j_r (some out)), some (j_i i), none, none] [] h cn sn := by
  have q1 : (i + Int32.ofInt (1)).toInt = i.toInt + 1 := j_inc1 (by omega)
  have q2 : (i + Int32.ofInt (2)).toInt = i.toInt + 2 := j_i2 i0 (by omega)
  have q3 : (i + Int32.ofInt (3)).toInt = i.toInt + 3 := j_i3 i0 (by omega)
  have q4 : (i + Int32.ofInt (4)).toInt = i.toInt + 4 := j_i4 i0 (by omega)
  refine hJ [1161] 400 _ _ _ _ _ _ ?_
  conv => whnf
  have lsv11 : j_ln h sc = L := lw.1.2.2.2.2.2.2
  refine ⟨_, _, rfl, lw.1.2.2.2.2.2.1, rfl, j_vp (by omega) (by rw [lsv11]; omega), fun v11 ev11 => ?_⟩
  conv => whnf
  refine ⟨rfl, _, _, _, _, _, _, c_Lw_passq lw.1.1 lw.1.2.2.1, ⟨Nat.le_of_ble_eq_true rfl, Nat.le_of_ble_eq_true rfl, by (try dsimp only); omega, by (try dsimp only); omega⟩, fun _ _ z => False.elim z, ?_⟩
  rintro u9 H12 a
  obtain rfl := a.1
  obtain ⟨l1, s1, m1⟩ := lw.1.lq a
  conv => whnf
  have lsv14 : j_ln H12 sc = L := l1.2.2.2.2.2.2
  refine ⟨_, _, rfl, l1.2.2.2.2.2.1, rfl, j_vp (by omega) (by rw [lsv14]; omega), fun v14 ev14 => ?_⟩
  obtain rfl : v11 = v14 := ev11.symm.trans ((s1 _).symm.trans ev14)
  conv => whnf
  obtain ⟨ρ9, w9⟩ := l1.2.1
  have eq9 : ∀ k, j_aK k = true → j_am H12 m P G R k = j_ax h x k := fun k hk => (m1 k hk).trans (lw.2.2 k hk)
  refine ⟨w9.km, rfl, _, _, _, _, _, _, c_Mo_passq w9, ⟨Nat.le_of_ble_eq_true rfl, Nat.le_of_ble_eq_true rfl, by (try dsimp only); omega, by (try dsimp only); omega⟩, fun _ _ z => False.elim z, ?_⟩
  rintro u9 H15 b
  have hq : q_pass (j_am H12 m P G R) v11 = q_pass (j_ax h x) v11 := q_pass_c eq9
  obtain ⟨lw2, o2⟩ := lw.told a b hq (fun _ => j_u1_c eq9 (by rw [eq9 6 rfl])) (fun _ => j_TV.u1 lw.2.1 (fun z => by omega))
  obtain ⟨r9, rfl⟩ := b.2.2.2.2.2.2
  exact j_use hF (back _ _ _ lw2 (by omega) (by omega)) (And.intro rfl (And.intro rfl (And.intro rfl (And.intro rfl (And.intro rfl trivial)))))
set_option maxHeartbeats 4000000 in
set_option maxRecDepth 20000 in
theorem j_turn2 {J : j_J} {L sc x m out P G R Q cn sn : Nat} {i : Int32} {h : j_H} (hJ : j_Cl k_law j_lF j_lP j_no J) (hF : j_Fg J) (hL : L ≤ 2560) (i0 : 0 ≤ i.toInt) (i1 : i.toInt + 5 ≤ (L : Int)) (hc : cn ≤ 500000) (hs : sn ≤ 6000000) (lw : j_LW L sc x m out P G R Q h) (back : ∀ (h' : j_H) (cn' sn' : Nat), j_LW L sc x m out P G R Q h' → cn' ≤ cn + 200 → sn' ≤ sn + 2000 → J 1161 [some (j_r (some sc)), some (j_r (some x)), some (j_r (some m)), some (j_r (some out)), some (j_i i), none, none] [] h' cn' sn') : J 236 [some (j_r (some sc)), some (j_r (some x)), some (j_r (some m)), some (j_r (some out)), some (j_i i), none, none] [] h cn sn := by
  have q1 : (i + Int32.ofInt (1)).toInt = i.toInt + 1 := j_inc1 (by omega)
  have q2 : (i + Int32.ofInt (2)).toInt = i.toInt + 2 := j_i2 i0 (by omega)
  have q3 : (i + Int32.ofInt (3)).toInt = i.toInt + 3 := j_i3 i0 (by omega)
  have q4 : (i + Int32.ofInt (4)).toInt = i.toInt + 4 := j_i4 i0 (by omega)
  refine hJ [1161] 400 _ _ _ _ _ _ ?_
  conv => whnf
  have lsv17 : j_ln h sc = L := lw.1.2.2.2.2.2.2
  refine ⟨_, _, rfl, lw.1.2.2.2.2.2.1, rfl, j_vp (by omega) (by rw [lsv17]; omega), fun v17 ev17 => ?_⟩
  conv => whnf
  have lsv18 : j_ln h sc = L := lw.1.2.2.2.2.2.2
  refine ⟨_, _, rfl, lw.1.2.2.2.2.2.1, rfl, j_vp (by omega) (by rw [lsv18]; omega), fun v18 ev18 => ?_⟩
  conv => whnf
  refine ⟨rfl, _, _, _, _, _, _, c_Lw_heat lw.1.1 lw.1.2.2.1, ⟨Nat.le_of_ble_eq_true rfl, Nat.le_of_ble_eq_true rfl, by (try dsimp only); omega, by (try dsimp only); omega⟩, fun _ _ z => False.elim z, ?_⟩
  rintro v9 H19 ⟨⟨r21, rfl⟩, fo⟩
  have l20 := (lw.fo fo).1
  conv => whnf
  have lsv22 : j_ln H19 sc = L := l20.1.2.2.2.2.2.2
  refine ⟨_, _, rfl, l20.1.2.2.2.2.2.1, rfl, j_vp (by omega) (by rw [lsv22]; omega), fun v22 ev22 => ?_⟩
  conv => whnf
  have lsv23 : j_ln H19 sc = L := l20.1.2.2.2.2.2.2
  refine ⟨_, _, rfl, l20.1.2.2.2.2.2.1, rfl, j_vp (by omega) (by rw [lsv23]; omega), fun v23 ev23 => ?_⟩
  conv => whnf
  obtain ⟨ρ27, w26⟩ := l20.1.2.1
  refine ⟨w26.km, rfl, _, _, _, _, _, _, c_Mo_heat w26, ⟨Nat.le_of_ble_eq_true rfl, Nat.le_of_ble_eq_true rfl, by (try dsimp only); omega, by (try dsimp only); omega⟩, fun _ _ z => False.elim z, ?_⟩
  rintro v9 H24 ⟨st9, r9, rfl⟩
  have l25 := l20.mf w26 st9
  exact j_use hF (back _ _ _ l25 (by omega) (by omega)) (And.intro rfl (And.intro rfl (And.intro rfl (And.intro rfl (And.intro rfl trivial)))))
set_option maxHeartbeats 4000000 in
set_option maxRecDepth 20000 in
theorem j_turn3 {J : j_J} {L sc x m out P G R Q cn sn : Nat} {i : Int32} {h : j_H} (hJ : j_Cl k_law j_lF j_lP j_no J) (hF : j_Fg J) (hL : L ≤ 2560) (i0 : 0 ≤ i.toInt) (i1 : i.toInt + 5 ≤ (L : Int)) (hc : cn ≤ 500000) (hs : sn ≤ 6000000) (lw : j_LW L sc x m out P G R Q h) (back : ∀ (h' : j_H) (cn' sn' : Nat), j_LW L sc x m out P G R Q h' → cn' ≤ cn + 200 → sn' ≤ sn + 2000 → J 1161 [some (j_r (some sc)), some (j_r (some x)), some (j_r (some m)), some (j_r (some out)), some (j_i i), none, none] [] h' cn' sn') : J 276 [some (j_r (some sc)), some (j_r (some x)), some (j_r (some m)), some (j_r (some out)), some (j_i i), none, none] [] h cn sn := by
  have q1 : (i + Int32.ofInt (1)).toInt = i.toInt + 1 := j_inc1 (by omega)
  have q2 : (i + Int32.ofInt (2)).toInt = i.toInt + 2 := j_i2 i0 (by omega)
  have q3 : (i + Int32.ofInt (3)).toInt = i.toInt + 3 := j_i3 i0 (by omega)
  have q4 : (i + Int32.ofInt (4)).toInt = i.toInt + 4 := j_i4 i0 (by omega)
  refine hJ [1161] 400 _ _ _ _ _ _ ?_
  conv => whnf
  have lsv28 : j_ln h sc = L := lw.1.2.2.2.2.2.2
  refine ⟨_, _, rfl, lw.1.2.2.2.2.2.1, rfl, j_vp (by omega) (by rw [lsv28]; omega), fun v28 ev28 => ?_⟩
  conv => whnf
  have lsv29 : j_ln h sc = L := lw.1.2.2.2.2.2.2
  refine ⟨_, _, rfl, lw.1.2.2.2.2.2.1, rfl, j_vp (by omega) (by rw [lsv29]; omega), fun v29 ev29 => ?_⟩
  conv => whnf
  refine ⟨rfl, _, _, _, _, _, _, c_Lw_wash lw.1.1 lw.1.2.2.1, ⟨Nat.le_of_ble_eq_true rfl, Nat.le_of_ble_eq_true rfl, by (try dsimp only); omega, by (try dsimp only); omega⟩, fun _ _ z => False.elim z, ?_⟩
  rintro v9 H30 ⟨⟨r32, rfl⟩, fo⟩
  have l31 := (lw.fo fo).1
  conv => whnf
  have lsv33 : j_ln H30 sc = L := l31.1.2.2.2.2.2.2
  refine ⟨_, _, rfl, l31.1.2.2.2.2.2.1, rfl, j_vp (by omega) (by rw [lsv33]; omega), fun v33 ev33 => ?_⟩
  conv => whnf
  have lsv34 : j_ln H30 sc = L := l31.1.2.2.2.2.2.2
  refine ⟨_, _, rfl, l31.1.2.2.2.2.2.1, rfl, j_vp (by omega) (by rw [lsv34]; omega), fun v34 ev34 => ?_⟩
  conv => whnf
  obtain ⟨ρ38, w37⟩ := l31.1.2.1
  refine ⟨w37.km, rfl, _, _, _, _, _, _, c_Mo_wash w37, ⟨Nat.le_of_ble_eq_true rfl, Nat.le_of_ble_eq_true rfl, by (try dsimp only); omega, by (try dsimp only); omega⟩, fun _ _ z => False.elim z, ?_⟩
  rintro v9 H35 ⟨st9, r9, rfl⟩
  have l36 := l31.mf w37 st9
  exact j_use hF (back _ _ _ l36 (by omega) (by omega)) (And.intro rfl (And.intro rfl (And.intro rfl (And.intro rfl (And.intro rfl trivial)))))
set_option maxHeartbeats 4000000 in
set_option maxRecDepth 20000 in
theorem j_turn4 {J : j_J} {L sc x m out P G R Q cn sn : Nat} {i : Int32} {h : j_H} (hJ : j_Cl k_law j_lF j_lP j_no J) (hF : j_Fg J) (hL : L ≤ 2560) (i0 : 0 ≤ i.toInt) (i1 : i.toInt + 5 ≤ (L : Int)) (hc : cn ≤ 500000) (hs : sn ≤ 6000000) (lw : j_LW L sc x m out P G R Q h) (back : ∀ (h' : j_H) (cn' sn' : Nat), j_LW L sc x m out P G R Q h' → cn' ≤ cn + 200 → sn' ≤ sn + 2000 → J 1161 [some (j_r (some sc)), some (j_r (some x)), some (j_r (some m)), some (j_r (some out)), some (j_i i), none, none] [] h' cn' sn') : J 316 [some (j_r (some sc)), some (j_r (some x)), some (j_r (some m)), some (j_r (some out)), some (j_i i), none, none] [] h cn sn := by
  have q1 : (i + Int32.ofInt (1)).toInt = i.toInt + 1 := j_inc1 (by omega)
  have q2 : (i + Int32.ofInt (2)).toInt = i.toInt + 2 := j_i2 i0 (by omega)
  have q3 : (i + Int32.ofInt (3)).toInt = i.toInt + 3 := j_i3 i0 (by omega)
  have q4 : (i + Int32.ofInt (4)).toInt = i.toInt + 4 := j_i4 i0 (by omega)
  refine hJ [1161] 400 _ _ _ _ _ _ ?_
  conv => whnf
  have lsv39 : j_ln h sc = L := lw.1.2.2.2.2.2.2
  refine ⟨_, _, rfl, lw.1.2.2.2.2.2.1, rfl, j_vp (by omega) (by rw [lsv39]; omega), fun v39 ev39 => ?_⟩
  conv => whnf
  have lsv40 : j_ln h sc = L := lw.1.2.2.2.2.2.2
  refine ⟨_, _, rfl, lw.1.2.2.2.2.2.1, rfl, j_vp (by omega) (by rw [lsv40]; omega), fun v40 ev40 => ?_⟩
  conv => whnf
  refine ⟨rfl, _, _, _, _, _, _, c_Lw_paceq lw.1.1 lw.1.2.2.1, ⟨Nat.le_of_ble_eq_true rfl, Nat.le_of_ble_eq_true rfl, by (try dsimp only); omega, by (try dsimp only); omega⟩, fun _ _ z => False.elim z, ?_⟩
  rintro u9 H41 a
  obtain rfl := a.1
  obtain ⟨l1, s1, m1⟩ := lw.1.lq a
  conv => whnf
  have lsv43 : j_ln H41 sc = L := l1.2.2.2.2.2.2
  refine ⟨_, _, rfl, l1.2.2.2.2.2.1, rfl, j_vp (by omega) (by rw [lsv43]; omega), fun v43 ev43 => ?_⟩
  obtain rfl : v39 = v43 := ev39.symm.trans ((s1 _).symm.trans ev43)
  conv => whnf
  have lsv44 : j_ln H41 sc = L := l1.2.2.2.2.2.2
  refine ⟨_, _, rfl, l1.2.2.2.2.2.1, rfl, j_vp (by omega) (by rw [lsv44]; omega), fun v44 ev44 => ?_⟩
  obtain rfl : v40 = v44 := ev40.symm.trans ((s1 _).symm.trans ev44)
  conv => whnf
  obtain ⟨ρ9, w9⟩ := l1.2.1
  have eq9 : ∀ k, j_aK k = true → j_am H41 m P G R k = j_ax h x k := fun k hk => (m1 k hk).trans (lw.2.2 k hk)
  refine ⟨w9.km, rfl, _, _, _, _, _, _, c_Mo_paceq w9, ⟨Nat.le_of_ble_eq_true rfl, Nat.le_of_ble_eq_true rfl, by (try dsimp only); omega, by (try dsimp only); omega⟩, fun _ _ z => False.elim z, ?_⟩
  rintro u9 H45 b
  have hq : q_pace v39 v40 = q_pace v39 v40 := rfl
  obtain ⟨lw2, o2⟩ := lw.told a b hq (fun _ => j_u1_c eq9 rfl) (fun z => j_TV.u1 lw.2.1 (fun _ => q_pace_z z))
  obtain ⟨r9, rfl⟩ := b.2.2.2.2.2.2
  exact j_use hF (back _ _ _ lw2 (by omega) (by omega)) (And.intro rfl (And.intro rfl (And.intro rfl (And.intro rfl (And.intro rfl trivial)))))
set_option maxHeartbeats 4000000 in
set_option maxRecDepth 20000 in
theorem j_turn5 {J : j_J} {L sc x m out P G R Q cn sn : Nat} {i : Int32} {h : j_H} (hJ : j_Cl k_law j_lF j_lP j_no J) (hF : j_Fg J) (hL : L ≤ 2560) (i0 : 0 ≤ i.toInt) (i1 : i.toInt + 5 ≤ (L : Int)) (hc : cn ≤ 500000) (hs : sn ≤ 6000000) (lw : j_LW L sc x m out P G R Q h) (back : ∀ (h' : j_H) (cn' sn' : Nat), j_LW L sc x m out P G R Q h' → cn' ≤ cn + 200 → sn' ≤ sn + 2000 → J 1161 [some (j_r (some sc)), some (j_r (some x)), some (j_r (some m)), some (j_r (some out)), some (j_i i), none, none] [] h' cn' sn') : J 356 [some (j_r (some sc)), some (j_r (some x)), some (j_r (some m)), some (j_r (some out)), some (j_i i), none, none] [] h cn sn := by
  have q1 : (i + Int32.ofInt (1)).toInt = i.toInt + 1 := j_inc1 (by omega)
  have q2 : (i + Int32.ofInt (2)).toInt = i.toInt + 2 := j_i2 i0 (by omega)
  have q3 : (i + Int32.ofInt (3)).toInt = i.toInt + 3 := j_i3 i0 (by omega)
  have q4 : (i + Int32.ofInt (4)).toInt = i.toInt + 4 := j_i4 i0 (by omega)
  refine hJ [1161] 400 _ _ _ _ _ _ ?_
  conv => whnf
  have lsv47 : j_ln h sc = L := lw.1.2.2.2.2.2.2
  refine ⟨_, _, rfl, lw.1.2.2.2.2.2.1, rfl, j_vp (by omega) (by rw [lsv47]; omega), fun v47 ev47 => ?_⟩
  conv => whnf
  refine ⟨rfl, _, _, _, _, _, _, c_Lw_slipq lw.1.1 lw.1.2.2.1, ⟨Nat.le_of_ble_eq_true rfl, Nat.le_of_ble_eq_true rfl, by (try dsimp only); omega, by (try dsimp only); omega⟩, fun _ _ z => False.elim z, ?_⟩
  rintro u9 H48 a
  obtain rfl := a.1
  obtain ⟨l1, s1, m1⟩ := lw.1.lq a
  conv => whnf
  have lsv50 : j_ln H48 sc = L := l1.2.2.2.2.2.2
  refine ⟨_, _, rfl, l1.2.2.2.2.2.1, rfl, j_vp (by omega) (by rw [lsv50]; omega), fun v50 ev50 => ?_⟩
  obtain rfl : v47 = v50 := ev47.symm.trans ((s1 _).symm.trans ev50)
  conv => whnf
  obtain ⟨ρ9, w9⟩ := l1.2.1
  have eq9 : ∀ k, j_aK k = true → j_am H48 m P G R k = j_ax h x k := fun k hk => (m1 k hk).trans (lw.2.2 k hk)
  refine ⟨w9.km, rfl, _, _, _, _, _, _, c_Mo_slipq w9, ⟨Nat.le_of_ble_eq_true rfl, Nat.le_of_ble_eq_true rfl, by (try dsimp only); omega, by (try dsimp only); omega⟩, fun _ _ z => False.elim z, ?_⟩
  rintro u9 H51 b
  have hq : q_slip v47 = q_slip v47 := rfl
  obtain ⟨lw2, o2⟩ := lw.told a b hq (fun _ => j_u1_c eq9 rfl) (fun _ => j_TV.u1 lw.2.1 (fun z => by omega))
  obtain ⟨r9, rfl⟩ := b.2.2.2.2.2.2
  exact j_use hF (back _ _ _ lw2 (by omega) (by omega)) (And.intro rfl (And.intro rfl (And.intro rfl (And.intro rfl (And.intro rfl trivial)))))
set_option maxHeartbeats 4000000 in
set_option maxRecDepth 20000 in
theorem j_turn6 {J : j_J} {L sc x m out P G R Q cn sn : Nat} {i : Int32} {h : j_H} (hJ : j_Cl k_law j_lF j_lP j_no J) (hF : j_Fg J) (hL : L ≤ 2560) (i0 : 0 ≤ i.toInt) (i1 : i.toInt + 5 ≤ (L : Int)) (hc : cn ≤ 500000) (hs : sn ≤ 6000000) (lw : j_LW L sc x m out P G R Q h) (back : ∀ (h' : j_H) (cn' sn' : Nat), j_LW L sc x m out P G R Q h' → cn' ≤ cn + 200 → sn' ≤ sn + 2000 → J 1161 [some (j_r (some sc)), some (j_r (some x)), some (j_r (some m)), some (j_r (some out)), some (j_i i), none, none] [] h' cn' sn') : J 384 [some (j_r (some sc)), some (j_r (some x)), some (j_r (some m)), some (j_r (some out)), some (j_i i), none, none] [] h cn sn := by
  have q1 : (i + Int32.ofInt (1)).toInt = i.toInt + 1 := j_inc1 (by omega)
  have q2 : (i + Int32.ofInt (2)).toInt = i.toInt + 2 := j_i2 i0 (by omega)
  have q3 : (i + Int32.ofInt (3)).toInt = i.toInt + 3 := j_i3 i0 (by omega)
  have q4 : (i + Int32.ofInt (4)).toInt = i.toInt + 4 := j_i4 i0 (by omega)
  refine hJ [1161] 400 _ _ _ _ _ _ ?_
  conv => whnf
  have lsv53 : j_ln h sc = L := lw.1.2.2.2.2.2.2
  refine ⟨_, _, rfl, lw.1.2.2.2.2.2.1, rfl, j_vp (by omega) (by rw [lsv53]; omega), fun v53 ev53 => ?_⟩
  conv => whnf
  have lsv54 : j_ln h sc = L := lw.1.2.2.2.2.2.2
  refine ⟨_, _, rfl, lw.1.2.2.2.2.2.1, rfl, j_vp (by omega) (by rw [lsv54]; omega), fun v54 ev54 => ?_⟩
  conv => whnf
  have lsv55 : j_ln h sc = L := lw.1.2.2.2.2.2.2
  refine ⟨_, _, rfl, lw.1.2.2.2.2.2.1, rfl, j_vp (by omega) (by rw [lsv55]; omega), fun v55 ev55 => ?_⟩
  conv => whnf
  have lsv56 : j_ln h sc = L := lw.1.2.2.2.2.2.2
  refine ⟨_, _, rfl, lw.1.2.2.2.2.2.1, rfl, j_vp (by omega) (by rw [lsv56]; omega), fun v56 ev56 => ?_⟩
  conv => whnf
  refine ⟨rfl, _, _, _, _, _, _, c_Lw_runq lw.1.1 lw.1.2.2.1, ⟨Nat.le_of_ble_eq_true rfl, Nat.le_of_ble_eq_true rfl, by (try dsimp only); omega, by (try dsimp only); omega⟩, fun _ _ z => False.elim z, ?_⟩
  rintro u9 H57 a
  obtain rfl := a.1
  obtain ⟨l1, s1, m1⟩ := lw.1.lq a
  conv => whnf
  have lsv59 : j_ln H57 sc = L := l1.2.2.2.2.2.2
  refine ⟨_, _, rfl, l1.2.2.2.2.2.1, rfl, j_vp (by omega) (by rw [lsv59]; omega), fun v59 ev59 => ?_⟩
  obtain rfl : v53 = v59 := ev53.symm.trans ((s1 _).symm.trans ev59)
  conv => whnf
  have lsv60 : j_ln H57 sc = L := l1.2.2.2.2.2.2
  refine ⟨_, _, rfl, l1.2.2.2.2.2.1, rfl, j_vp (by omega) (by rw [lsv60]; omega), fun v60 ev60 => ?_⟩
  obtain rfl : v54 = v60 := ev54.symm.trans ((s1 _).symm.trans ev60)
  conv => whnf
  have lsv61 : j_ln H57 sc = L := l1.2.2.2.2.2.2
  refine ⟨_, _, rfl, l1.2.2.2.2.2.1, rfl, j_vp (by omega) (by rw [lsv61]; omega), fun v61 ev61 => ?_⟩
  obtain rfl : v55 = v61 := ev55.symm.trans ((s1 _).symm.trans ev61)
  conv => whnf
  have lsv62 : j_ln H57 sc = L := l1.2.2.2.2.2.2
  refine ⟨_, _, rfl, l1.2.2.2.2.2.1, rfl, j_vp (by omega) (by rw [lsv62]; omega), fun v62 ev62 => ?_⟩
  obtain rfl : v56 = v62 := ev56.symm.trans ((s1 _).symm.trans ev62)
  conv => whnf
  obtain ⟨ρ9, w9⟩ := l1.2.1
  have eq9 : ∀ k, j_aK k = true → j_am H57 m P G R k = j_ax h x k := fun k hk => (m1 k hk).trans (lw.2.2 k hk)
  refine ⟨w9.km, rfl, _, _, _, _, _, _, c_Mo_runq w9, ⟨Nat.le_of_ble_eq_true rfl, Nat.le_of_ble_eq_true rfl, by (try dsimp only); omega, by (try dsimp only); omega⟩, fun _ _ z => False.elim z, ?_⟩
  rintro u9 H63 b
  have hq : q_run (j_am H57 m P G R) v53 v54 v55 v56 = q_run (j_ax h x) v53 v54 v55 v56 := q_run_c eq9
  obtain ⟨lw2, o2⟩ := lw.told a b hq (fun _ => j_u1_c eq9 (by rw [eq9 1 rfl])) (fun _ => j_TV.u1 lw.2.1 (fun z => by omega))
  obtain ⟨r9, rfl⟩ := b.2.2.2.2.2.2
  exact j_use hF (back _ _ _ lw2 (by omega) (by omega)) (And.intro rfl (And.intro rfl (And.intro rfl (And.intro rfl (And.intro rfl trivial)))))
set_option maxHeartbeats 4000000 in
set_option maxRecDepth 20000 in
theorem j_turn7 {J : j_J} {L sc x m out P G R Q cn sn : Nat} {i : Int32} {h : j_H} (hJ : j_Cl k_law j_lF j_lP j_no J) (hF : j_Fg J) (hL : L ≤ 2560) (i0 : 0 ≤ i.toInt) (i1 : i.toInt + 5 ≤ (L : Int)) (hc : cn ≤ 500000) (hs : sn ≤ 6000000) (lw : j_LW L sc x m out P G R Q h) (back : ∀ (h' : j_H) (cn' sn' : Nat), j_LW L sc x m out P G R Q h' → cn' ≤ cn + 200 → sn' ≤ sn + 2000 → J 1161 [some (j_r (some sc)), some (j_r (some x)), some (j_r (some m)), some (j_r (some out)), some (j_i i), none, none] [] h' cn' sn') : J 448 [some (j_r (some sc)), some (j_r (some x)), some (j_r (some m)), some (j_r (some out)), some (j_i i), none, none] [] h cn sn := by
  have q1 : (i + Int32.ofInt (1)).toInt = i.toInt + 1 := j_inc1 (by omega)
  have q2 : (i + Int32.ofInt (2)).toInt = i.toInt + 2 := j_i2 i0 (by omega)
  have q3 : (i + Int32.ofInt (3)).toInt = i.toInt + 3 := j_i3 i0 (by omega)
  have q4 : (i + Int32.ofInt (4)).toInt = i.toInt + 4 := j_i4 i0 (by omega)
  refine hJ [1161] 400 _ _ _ _ _ _ ?_
  conv => whnf
  have lsv65 : j_ln h sc = L := lw.1.2.2.2.2.2.2
  refine ⟨_, _, rfl, lw.1.2.2.2.2.2.1, rfl, j_vp (by omega) (by rw [lsv65]; omega), fun v65 ev65 => ?_⟩
  conv => whnf
  refine ⟨rfl, _, _, _, _, _, _, c_Lw_withdraw lw.1.1 lw.1.2.2.1, ⟨Nat.le_of_ble_eq_true rfl, Nat.le_of_ble_eq_true rfl, by (try dsimp only); omega, by (try dsimp only); omega⟩, fun _ _ z => False.elim z, ?_⟩
  rintro v9 H66 ⟨⟨r68, rfl⟩, fo⟩
  have l67 := (lw.fo fo).1
  conv => whnf
  have lsv69 : j_ln H66 sc = L := l67.1.2.2.2.2.2.2
  refine ⟨_, _, rfl, l67.1.2.2.2.2.2.1, rfl, j_vp (by omega) (by rw [lsv69]; omega), fun v69 ev69 => ?_⟩
  conv => whnf
  obtain ⟨ρ73, w72⟩ := l67.1.2.1
  refine ⟨w72.km, rfl, _, _, _, _, _, _, c_Mo_withdraw w72, ⟨Nat.le_of_ble_eq_true rfl, Nat.le_of_ble_eq_true rfl, by (try dsimp only); omega, by (try dsimp only); omega⟩, fun _ _ z => False.elim z, ?_⟩
  rintro v9 H70 ⟨st9, r9, rfl⟩
  have l71 := l67.mf w72 st9
  exact j_use hF (back _ _ _ l71 (by omega) (by omega)) (And.intro rfl (And.intro rfl (And.intro rfl (And.intro rfl (And.intro rfl trivial)))))
set_option maxHeartbeats 4000000 in
set_option maxRecDepth 20000 in
theorem j_turn8 {J : j_J} {L sc x m out P G R Q cn sn : Nat} {i : Int32} {h : j_H} (hJ : j_Cl k_law j_lF j_lP j_no J) (hF : j_Fg J) (hL : L ≤ 2560) (i0 : 0 ≤ i.toInt) (i1 : i.toInt + 5 ≤ (L : Int)) (hc : cn ≤ 500000) (hs : sn ≤ 6000000) (lw : j_LW L sc x m out P G R Q h) (back : ∀ (h' : j_H) (cn' sn' : Nat), j_LW L sc x m out P G R Q h' → cn' ≤ cn + 200 → sn' ≤ sn + 2000 → J 1161 [some (j_r (some sc)), some (j_r (some x)), some (j_r (some m)), some (j_r (some out)), some (j_i i), none, none] [] h' cn' sn') : J 476 [some (j_r (some sc)), some (j_r (some x)), some (j_r (some m)), some (j_r (some out)), some (j_i i), none, none] [] h cn sn := by
  have q1 : (i + Int32.ofInt (1)).toInt = i.toInt + 1 := j_inc1 (by omega)
  have q2 : (i + Int32.ofInt (2)).toInt = i.toInt + 2 := j_i2 i0 (by omega)
  have q3 : (i + Int32.ofInt (3)).toInt = i.toInt + 3 := j_i3 i0 (by omega)
  have q4 : (i + Int32.ofInt (4)).toInt = i.toInt + 4 := j_i4 i0 (by omega)
  refine hJ [1161] 400 _ _ _ _ _ _ ?_
  conv => whnf
  have lsv74 : j_ln h sc = L := lw.1.2.2.2.2.2.2
  refine ⟨_, _, rfl, lw.1.2.2.2.2.2.1, rfl, j_vp (by omega) (by rw [lsv74]; omega), fun v74 ev74 => ?_⟩
  conv => whnf
  have lsv75 : j_ln h sc = L := lw.1.2.2.2.2.2.2
  refine ⟨_, _, rfl, lw.1.2.2.2.2.2.1, rfl, j_vp (by omega) (by rw [lsv75]; omega), fun v75 ev75 => ?_⟩
  conv => whnf
  refine ⟨rfl, _, _, _, _, _, _, c_Lw_swap lw.1.1 lw.1.2.2.1, ⟨Nat.le_of_ble_eq_true rfl, Nat.le_of_ble_eq_true rfl, by (try dsimp only); omega, by (try dsimp only); omega⟩, fun _ _ z => False.elim z, ?_⟩
  rintro v9 H76 ⟨⟨r78, rfl⟩, fo⟩
  have l77 := (lw.fo fo).1
  conv => whnf
  have lsv79 : j_ln H76 sc = L := l77.1.2.2.2.2.2.2
  refine ⟨_, _, rfl, l77.1.2.2.2.2.2.1, rfl, j_vp (by omega) (by rw [lsv79]; omega), fun v79 ev79 => ?_⟩
  conv => whnf
  have lsv80 : j_ln H76 sc = L := l77.1.2.2.2.2.2.2
  refine ⟨_, _, rfl, l77.1.2.2.2.2.2.1, rfl, j_vp (by omega) (by rw [lsv80]; omega), fun v80 ev80 => ?_⟩
  conv => whnf
  obtain ⟨ρ84, w83⟩ := l77.1.2.1
  refine ⟨w83.km, rfl, _, _, _, _, _, _, c_Mo_swap w83, ⟨Nat.le_of_ble_eq_true rfl, Nat.le_of_ble_eq_true rfl, by (try dsimp only); omega, by (try dsimp only); omega⟩, fun _ _ z => False.elim z, ?_⟩
  rintro v9 H81 ⟨st9, r9, rfl⟩
  have l82 := l77.mf w83 st9
  exact j_use hF (back _ _ _ l82 (by omega) (by omega)) (And.intro rfl (And.intro rfl (And.intro rfl (And.intro rfl (And.intro rfl trivial)))))
set_option maxHeartbeats 4000000 in
set_option maxRecDepth 20000 in
theorem j_turn9 {J : j_J} {L sc x m out P G R Q cn sn : Nat} {i : Int32} {h : j_H} (hJ : j_Cl k_law j_lF j_lP j_no J) (hF : j_Fg J) (hL : L ≤ 2560) (i0 : 0 ≤ i.toInt) (i1 : i.toInt + 5 ≤ (L : Int)) (hc : cn ≤ 500000) (hs : sn ≤ 6000000) (lw : j_LW L sc x m out P G R Q h) (back : ∀ (h' : j_H) (cn' sn' : Nat), j_LW L sc x m out P G R Q h' → cn' ≤ cn + 200 → sn' ≤ sn + 2000 → J 1161 [some (j_r (some sc)), some (j_r (some x)), some (j_r (some m)), some (j_r (some out)), some (j_i i), none, none] [] h' cn' sn') : J 516 [some (j_r (some sc)), some (j_r (some x)), some (j_r (some m)), some (j_r (some out)), some (j_i i), none, none] [] h cn sn := by
  have q1 : (i + Int32.ofInt (1)).toInt = i.toInt + 1 := j_inc1 (by omega)
  have q2 : (i + Int32.ofInt (2)).toInt = i.toInt + 2 := j_i2 i0 (by omega)
  have q3 : (i + Int32.ofInt (3)).toInt = i.toInt + 3 := j_i3 i0 (by omega)
  have q4 : (i + Int32.ofInt (4)).toInt = i.toInt + 4 := j_i4 i0 (by omega)
  refine hJ [1161] 400 _ _ _ _ _ _ ?_
  conv => whnf
  have lsv85 : j_ln h sc = L := lw.1.2.2.2.2.2.2
  refine ⟨_, _, rfl, lw.1.2.2.2.2.2.1, rfl, j_vp (by omega) (by rw [lsv85]; omega), fun v85 ev85 => ?_⟩
  conv => whnf
  have lsv86 : j_ln h sc = L := lw.1.2.2.2.2.2.2
  refine ⟨_, _, rfl, lw.1.2.2.2.2.2.1, rfl, j_vp (by omega) (by rw [lsv86]; omega), fun v86 ev86 => ?_⟩
  conv => whnf
  refine ⟨rfl, _, _, _, _, _, _, c_Lw_print lw.1.1 lw.1.2.2.1, ⟨Nat.le_of_ble_eq_true rfl, Nat.le_of_ble_eq_true rfl, by (try dsimp only); omega, by (try dsimp only); omega⟩, fun _ _ z => False.elim z, ?_⟩
  rintro v9 H87 ⟨⟨r89, rfl⟩, fo⟩
  have l88 := (lw.fo fo).1
  conv => whnf
  have lsv90 : j_ln H87 sc = L := l88.1.2.2.2.2.2.2
  refine ⟨_, _, rfl, l88.1.2.2.2.2.2.1, rfl, j_vp (by omega) (by rw [lsv90]; omega), fun v90 ev90 => ?_⟩
  conv => whnf
  have lsv91 : j_ln H87 sc = L := l88.1.2.2.2.2.2.2
  refine ⟨_, _, rfl, l88.1.2.2.2.2.2.1, rfl, j_vp (by omega) (by rw [lsv91]; omega), fun v91 ev91 => ?_⟩
  conv => whnf
  obtain ⟨ρ95, w94⟩ := l88.1.2.1
  refine ⟨w94.km, rfl, _, _, _, _, _, _, c_Mo_print w94, ⟨Nat.le_of_ble_eq_true rfl, Nat.le_of_ble_eq_true rfl, by (try dsimp only); omega, by (try dsimp only); omega⟩, fun _ _ z => False.elim z, ?_⟩
  rintro v9 H92 ⟨w9, g9, r9, rfl⟩
  have l93 := l88.mg w9 g9
  exact j_use hF (back _ _ _ l93 (by omega) (by omega)) (And.intro rfl (And.intro rfl (And.intro rfl (And.intro rfl (And.intro rfl trivial)))))
set_option maxHeartbeats 4000000 in
set_option maxRecDepth 20000 in
theorem j_turn10 {J : j_J} {L sc x m out P G R Q cn sn : Nat} {i : Int32} {h : j_H} (hJ : j_Cl k_law j_lF j_lP j_no J) (hF : j_Fg J) (hL : L ≤ 2560) (i0 : 0 ≤ i.toInt) (i1 : i.toInt + 5 ≤ (L : Int)) (hc : cn ≤ 500000) (hs : sn ≤ 6000000) (lw : j_LW L sc x m out P G R Q h) (back : ∀ (h' : j_H) (cn' sn' : Nat), j_LW L sc x m out P G R Q h' → cn' ≤ cn + 200 → sn' ≤ sn + 2000 → J 1161 [some (j_r (some sc)), some (j_r (some x)), some (j_r (some m)), some (j_r (some out)), some (j_i i), none, none] [] h' cn' sn') : J 556 [some (j_r (some sc)), some (j_r (some x)), some (j_r (some m)), some (j_r (some out)), some (j_i i), none, none] [] h cn sn := by
  have q1 : (i + Int32.ofInt (1)).toInt = i.toInt + 1 := j_inc1 (by omega)
  have q2 : (i + Int32.ofInt (2)).toInt = i.toInt + 2 := j_i2 i0 (by omega)
  have q3 : (i + Int32.ofInt (3)).toInt = i.toInt + 3 := j_i3 i0 (by omega)
  have q4 : (i + Int32.ofInt (4)).toInt = i.toInt + 4 := j_i4 i0 (by omega)
  refine hJ [1161] 400 _ _ _ _ _ _ ?_
  conv => whnf
  have lsv96 : j_ln h sc = L := lw.1.2.2.2.2.2.2
  refine ⟨_, _, rfl, lw.1.2.2.2.2.2.1, rfl, j_vp (by omega) (by rw [lsv96]; omega), fun v96 ev96 => ?_⟩
  conv => whnf
  have lsv97 : j_ln h sc = L := lw.1.2.2.2.2.2.2
  refine ⟨_, _, rfl, lw.1.2.2.2.2.2.1, rfl, j_vp (by omega) (by rw [lsv97]; omega), fun v97 ev97 => ?_⟩
  conv => whnf
  refine ⟨rfl, _, _, _, _, _, _, c_Lw_ofGrain lw.1.1 lw.1.2.2.1, ⟨Nat.le_of_ble_eq_true rfl, Nat.le_of_ble_eq_true rfl, by (try dsimp only); omega, by (try dsimp only); omega⟩, fun _ _ z => False.elim z, ?_⟩
  rintro v9 H98 ⟨⟨r100, rfl⟩, fo⟩
  have l99 := (lw.fo fo).1
  conv => whnf
  have lsv101 : j_ln H98 sc = L := l99.1.2.2.2.2.2.2
  refine ⟨_, _, rfl, l99.1.2.2.2.2.2.1, rfl, j_vp (by omega) (by rw [lsv101]; omega), fun v101 ev101 => ?_⟩
  conv => whnf
  have lsv102 : j_ln H98 sc = L := l99.1.2.2.2.2.2.2
  refine ⟨_, _, rfl, l99.1.2.2.2.2.2.1, rfl, j_vp (by omega) (by rw [lsv102]; omega), fun v102 ev102 => ?_⟩
  conv => whnf
  obtain ⟨ρ106, w105⟩ := l99.1.2.1
  refine ⟨w105.km, rfl, _, _, _, _, _, _, c_Mo_ofGrain w105, ⟨Nat.le_of_ble_eq_true rfl, Nat.le_of_ble_eq_true rfl, by (try dsimp only); omega, by (try dsimp only); omega⟩, fun _ _ z => False.elim z, ?_⟩
  rintro v9 H103 ⟨st9, r9, rfl⟩
  have l104 := l99.mf w105 st9
  exact j_use hF (back _ _ _ l104 (by omega) (by omega)) (And.intro rfl (And.intro rfl (And.intro rfl (And.intro rfl (And.intro rfl trivial)))))
set_option maxHeartbeats 4000000 in
set_option maxRecDepth 20000 in
theorem j_turn11 {J : j_J} {L sc x m out P G R Q cn sn : Nat} {i : Int32} {h : j_H} (hJ : j_Cl k_law j_lF j_lP j_no J) (hF : j_Fg J) (hL : L ≤ 2560) (i0 : 0 ≤ i.toInt) (i1 : i.toInt + 5 ≤ (L : Int)) (hc : cn ≤ 500000) (hs : sn ≤ 6000000) (lw : j_LW L sc x m out P G R Q h) (back : ∀ (h' : j_H) (cn' sn' : Nat), j_LW L sc x m out P G R Q h' → cn' ≤ cn + 200 → sn' ≤ sn + 2000 → J 1161 [some (j_r (some sc)), some (j_r (some x)), some (j_r (some m)), some (j_r (some out)), some (j_i i), none, none] [] h' cn' sn') : J 596 [some (j_r (some sc)), some (j_r (some x)), some (j_r (some m)), some (j_r (some out)), some (j_i i), none, none] [] h cn sn := by
  have q1 : (i + Int32.ofInt (1)).toInt = i.toInt + 1 := j_inc1 (by omega)
  have q2 : (i + Int32.ofInt (2)).toInt = i.toInt + 2 := j_i2 i0 (by omega)
  have q3 : (i + Int32.ofInt (3)).toInt = i.toInt + 3 := j_i3 i0 (by omega)
  have q4 : (i + Int32.ofInt (4)).toInt = i.toInt + 4 := j_i4 i0 (by omega)
  refine hJ [1161] 400 _ _ _ _ _ _ ?_
  conv => whnf
  have lsv107 : j_ln h sc = L := lw.1.2.2.2.2.2.2
  refine ⟨_, _, rfl, lw.1.2.2.2.2.2.1, rfl, j_vp (by omega) (by rw [lsv107]; omega), fun v107 ev107 => ?_⟩
  conv => whnf
  have lsv108 : j_ln h sc = L := lw.1.2.2.2.2.2.2
  refine ⟨_, _, rfl, lw.1.2.2.2.2.2.1, rfl, j_vp (by omega) (by rw [lsv108]; omega), fun v108 ev108 => ?_⟩
  conv => whnf
  refine ⟨rfl, _, _, _, _, _, _, c_Lw_ofRun lw.1.1 lw.1.2.2.1, ⟨Nat.le_of_ble_eq_true rfl, Nat.le_of_ble_eq_true rfl, by (try dsimp only); omega, by (try dsimp only); omega⟩, fun _ _ z => False.elim z, ?_⟩
  rintro v9 H109 ⟨⟨r111, rfl⟩, fo⟩
  have l110 := (lw.fo fo).1
  conv => whnf
  have lsv112 : j_ln H109 sc = L := l110.1.2.2.2.2.2.2
  refine ⟨_, _, rfl, l110.1.2.2.2.2.2.1, rfl, j_vp (by omega) (by rw [lsv112]; omega), fun v112 ev112 => ?_⟩
  conv => whnf
  have lsv113 : j_ln H109 sc = L := l110.1.2.2.2.2.2.2
  refine ⟨_, _, rfl, l110.1.2.2.2.2.2.1, rfl, j_vp (by omega) (by rw [lsv113]; omega), fun v113 ev113 => ?_⟩
  conv => whnf
  obtain ⟨ρ117, w116⟩ := l110.1.2.1
  refine ⟨w116.km, rfl, _, _, _, _, _, _, c_Mo_ofRun w116, ⟨Nat.le_of_ble_eq_true rfl, Nat.le_of_ble_eq_true rfl, by (try dsimp only); omega, by (try dsimp only); omega⟩, fun _ _ z => False.elim z, ?_⟩
  rintro v9 H114 ⟨st9, r9, rfl⟩
  have l115 := l110.mf w116 st9
  exact j_use hF (back _ _ _ l115 (by omega) (by omega)) (And.intro rfl (And.intro rfl (And.intro rfl (And.intro rfl (And.intro rfl trivial)))))
set_option maxHeartbeats 4000000 in
set_option maxRecDepth 20000 in
theorem j_turn12 {J : j_J} {L sc x m out P G R Q cn sn : Nat} {i : Int32} {h : j_H} (hJ : j_Cl k_law j_lF j_lP j_no J) (hF : j_Fg J) (hL : L ≤ 2560) (i0 : 0 ≤ i.toInt) (i1 : i.toInt + 5 ≤ (L : Int)) (hc : cn ≤ 500000) (hs : sn ≤ 6000000) (lw : j_LW L sc x m out P G R Q h) (back : ∀ (h' : j_H) (cn' sn' : Nat), j_LW L sc x m out P G R Q h' → cn' ≤ cn + 200 → sn' ≤ sn + 2000 → J 1161 [some (j_r (some sc)), some (j_r (some x)), some (j_r (some m)), some (j_r (some out)), some (j_i i), none, none] [] h' cn' sn') : J 636 [some (j_r (some sc)), some (j_r (some x)), some (j_r (some m)), some (j_r (some out)), some (j_i i), none, none] [] h cn sn := by
  have q1 : (i + Int32.ofInt (1)).toInt = i.toInt + 1 := j_inc1 (by omega)
  have q2 : (i + Int32.ofInt (2)).toInt = i.toInt + 2 := j_i2 i0 (by omega)
  have q3 : (i + Int32.ofInt (3)).toInt = i.toInt + 3 := j_i3 i0 (by omega)
  have q4 : (i + Int32.ofInt (4)).toInt = i.toInt + 4 := j_i4 i0 (by omega)
  refine hJ [1161] 400 _ _ _ _ _ _ ?_
  conv => whnf
  have lsv118 : j_ln h sc = L := lw.1.2.2.2.2.2.2
  refine ⟨_, _, rfl, lw.1.2.2.2.2.2.1, rfl, j_vp (by omega) (by rw [lsv118]; omega), fun v118 ev118 => ?_⟩
  conv => whnf
  have lsv119 : j_ln h sc = L := lw.1.2.2.2.2.2.2
  refine ⟨_, _, rfl, lw.1.2.2.2.2.2.1, rfl, j_vp (by omega) (by rw [lsv119]; omega), fun v119 ev119 => ?_⟩
  conv => whnf
  have lsv120 : j_ln h sc = L := lw.1.2.2.2.2.2.2
  refine ⟨_, _, rfl, lw.1.2.2.2.2.2.1, rfl, j_vp (by omega) (by rw [lsv120]; omega), fun v120 ev120 => ?_⟩
  conv => whnf
  refine ⟨rfl, _, _, _, _, _, _, c_Lw_span lw.1.1 lw.1.2.2.1, ⟨Nat.le_of_ble_eq_true rfl, Nat.le_of_ble_eq_true rfl, by (try dsimp only); omega, by (try dsimp only); omega⟩, fun _ _ z => False.elim z, ?_⟩
  rintro v9 H121 ⟨⟨r123, rfl⟩, fo⟩
  have l122 := (lw.fo fo).1
  conv => whnf
  have lsv124 : j_ln H121 sc = L := l122.1.2.2.2.2.2.2
  refine ⟨_, _, rfl, l122.1.2.2.2.2.2.1, rfl, j_vp (by omega) (by rw [lsv124]; omega), fun v124 ev124 => ?_⟩
  conv => whnf
  have lsv125 : j_ln H121 sc = L := l122.1.2.2.2.2.2.2
  refine ⟨_, _, rfl, l122.1.2.2.2.2.2.1, rfl, j_vp (by omega) (by rw [lsv125]; omega), fun v125 ev125 => ?_⟩
  conv => whnf
  have lsv126 : j_ln H121 sc = L := l122.1.2.2.2.2.2.2
  refine ⟨_, _, rfl, l122.1.2.2.2.2.2.1, rfl, j_vp (by omega) (by rw [lsv126]; omega), fun v126 ev126 => ?_⟩
  conv => whnf
  obtain ⟨ρ130, w129⟩ := l122.1.2.1
  refine ⟨w129.km, rfl, _, _, _, _, _, _, c_Mo_span w129, ⟨Nat.le_of_ble_eq_true rfl, Nat.le_of_ble_eq_true rfl, by (try dsimp only); omega, by (try dsimp only); omega⟩, fun _ _ z => False.elim z, ?_⟩
  rintro v9 H127 ⟨st9, r9, rfl⟩
  have l128 := l122.mf w129 st9
  exact j_use hF (back _ _ _ l128 (by omega) (by omega)) (And.intro rfl (And.intro rfl (And.intro rfl (And.intro rfl (And.intro rfl trivial)))))
set_option maxHeartbeats 4000000 in
set_option maxRecDepth 20000 in
theorem j_turn13 {J : j_J} {L sc x m out P G R Q cn sn : Nat} {i : Int32} {h : j_H} (hJ : j_Cl k_law j_lF j_lP j_no J) (hF : j_Fg J) (hL : L ≤ 2560) (i0 : 0 ≤ i.toInt) (i1 : i.toInt + 5 ≤ (L : Int)) (hc : cn ≤ 500000) (hs : sn ≤ 6000000) (lw : j_LW L sc x m out P G R Q h) (back : ∀ (h' : j_H) (cn' sn' : Nat), j_LW L sc x m out P G R Q h' → cn' ≤ cn + 200 → sn' ≤ sn + 2000 → J 1161 [some (j_r (some sc)), some (j_r (some x)), some (j_r (some m)), some (j_r (some out)), some (j_i i), none, none] [] h' cn' sn') : J 688 [some (j_r (some sc)), some (j_r (some x)), some (j_r (some m)), some (j_r (some out)), some (j_i i), none, none] [] h cn sn := by
  have q1 : (i + Int32.ofInt (1)).toInt = i.toInt + 1 := j_inc1 (by omega)
  have q2 : (i + Int32.ofInt (2)).toInt = i.toInt + 2 := j_i2 i0 (by omega)
  have q3 : (i + Int32.ofInt (3)).toInt = i.toInt + 3 := j_i3 i0 (by omega)
  have q4 : (i + Int32.ofInt (4)).toInt = i.toInt + 4 := j_i4 i0 (by omega)
  refine hJ [1161] 400 _ _ _ _ _ _ ?_
  conv => whnf
  have lsv131 : j_ln h sc = L := lw.1.2.2.2.2.2.2
  refine ⟨_, _, rfl, lw.1.2.2.2.2.2.1, rfl, j_vp (by omega) (by rw [lsv131]; omega), fun v131 ev131 => ?_⟩
  conv => whnf
  have lsv132 : j_ln h sc = L := lw.1.2.2.2.2.2.2
  refine ⟨_, _, rfl, lw.1.2.2.2.2.2.1, rfl, j_vp (by omega) (by rw [lsv132]; omega), fun v132 ev132 => ?_⟩
  conv => whnf
  refine ⟨fun c133 => ?_, fun c133 => ?_⟩
  · skip
    conv => whnf
    refine ⟨rfl, _, _, _, _, _, _, c_Lw_narrowed lw.1.1 lw.1.2.2.1, ⟨Nat.le_of_ble_eq_true rfl, Nat.le_of_ble_eq_true rfl, by (try dsimp only); omega, by (try dsimp only); omega⟩, fun _ _ z => False.elim z, ?_⟩
    rintro v9 H134 ⟨⟨r136, rfl⟩, fo⟩
    have l135 := (lw.fo fo).1
    conv => whnf
    have lsv137 : j_ln H134 sc = L := l135.1.2.2.2.2.2.2
    refine ⟨_, _, rfl, l135.1.2.2.2.2.2.1, rfl, j_vp (by omega) (by rw [lsv137]; omega), fun v137 ev137 => ?_⟩
    conv => whnf
    have lsv138 : j_ln H134 sc = L := l135.1.2.2.2.2.2.2
    refine ⟨_, _, rfl, l135.1.2.2.2.2.2.1, rfl, j_vp (by omega) (by rw [lsv138]; omega), fun v138 ev138 => ?_⟩
    conv => whnf
    refine ⟨fun c139 => ?_, fun c139 => ?_⟩
    · skip
      conv => whnf
      obtain ⟨ρ143, w142⟩ := l135.1.2.1
      refine ⟨w142.km, rfl, _, _, _, _, _, _, c_Mo_narrowed w142, ⟨Nat.le_of_ble_eq_true rfl, Nat.le_of_ble_eq_true rfl, by (try dsimp only); omega, by (try dsimp only); omega⟩, fun _ _ z => False.elim z, ?_⟩
      rintro v9 H140 ⟨st9, r9, rfl⟩
      have l141 := l135.mf w142 st9
      exact j_use hF (back _ _ _ l141 (by omega) (by omega)) (And.intro rfl (And.intro rfl (And.intro rfl (And.intro rfl (And.intro rfl trivial)))))
    · skip
      conv => whnf
      obtain ⟨ρ147, w146⟩ := l135.1.2.1
      refine ⟨w146.km, rfl, _, _, _, _, _, _, c_Mo_narrowed w146, ⟨Nat.le_of_ble_eq_true rfl, Nat.le_of_ble_eq_true rfl, by (try dsimp only); omega, by (try dsimp only); omega⟩, fun _ _ z => False.elim z, ?_⟩
      rintro v9 H144 ⟨st9, r9, rfl⟩
      have l145 := l135.mf w146 st9
      exact j_use hF (back _ _ _ l145 (by omega) (by omega)) (And.intro rfl (And.intro rfl (And.intro rfl (And.intro rfl (And.intro rfl trivial)))))
  · skip
    conv => whnf
    refine ⟨rfl, _, _, _, _, _, _, c_Lw_narrowed lw.1.1 lw.1.2.2.1, ⟨Nat.le_of_ble_eq_true rfl, Nat.le_of_ble_eq_true rfl, by (try dsimp only); omega, by (try dsimp only); omega⟩, fun _ _ z => False.elim z, ?_⟩
    rintro v9 H148 ⟨⟨r150, rfl⟩, fo⟩
    have l149 := (lw.fo fo).1
    conv => whnf
    have lsv151 : j_ln H148 sc = L := l149.1.2.2.2.2.2.2
    refine ⟨_, _, rfl, l149.1.2.2.2.2.2.1, rfl, j_vp (by omega) (by rw [lsv151]; omega), fun v151 ev151 => ?_⟩
    conv => whnf
    have lsv152 : j_ln H148 sc = L := l149.1.2.2.2.2.2.2
    refine ⟨_, _, rfl, l149.1.2.2.2.2.2.1, rfl, j_vp (by omega) (by rw [lsv152]; omega), fun v152 ev152 => ?_⟩
    conv => whnf
    refine ⟨fun c153 => ?_, fun c153 => ?_⟩
    · skip
      conv => whnf
      obtain ⟨ρ157, w156⟩ := l149.1.2.1
      refine ⟨w156.km, rfl, _, _, _, _, _, _, c_Mo_narrowed w156, ⟨Nat.le_of_ble_eq_true rfl, Nat.le_of_ble_eq_true rfl, by (try dsimp only); omega, by (try dsimp only); omega⟩, fun _ _ z => False.elim z, ?_⟩
      rintro v9 H154 ⟨st9, r9, rfl⟩
      have l155 := l149.mf w156 st9
      exact j_use hF (back _ _ _ l155 (by omega) (by omega)) (And.intro rfl (And.intro rfl (And.intro rfl (And.intro rfl (And.intro rfl trivial)))))
    · skip
      conv => whnf
      obtain ⟨ρ161, w160⟩ := l149.1.2.1
      refine ⟨w160.km, rfl, _, _, _, _, _, _, c_Mo_narrowed w160, ⟨Nat.le_of_ble_eq_true rfl, Nat.le_of_ble_eq_true rfl, by (try dsimp only); omega, by (try dsimp only); omega⟩, fun _ _ z => False.elim z, ?_⟩
      rintro v9 H158 ⟨st9, r9, rfl⟩
      have l159 := l149.mf w160 st9
      exact j_use hF (back _ _ _ l159 (by omega) (by omega)) (And.intro rfl (And.intro rfl (And.intro rfl (And.intro rfl (And.intro rfl trivial)))))
set_option maxHeartbeats 4000000 in
set_option maxRecDepth 20000 in
theorem j_turn14 {J : j_J} {L sc x m out P G R Q cn sn : Nat} {i : Int32} {h : j_H} (hJ : j_Cl k_law j_lF j_lP j_no J) (hF : j_Fg J) (hL : L ≤ 2560) (i0 : 0 ≤ i.toInt) (i1 : i.toInt + 5 ≤ (L : Int)) (hc : cn ≤ 500000) (hs : sn ≤ 6000000) (lw : j_LW L sc x m out P G R Q h) (back : ∀ (h' : j_H) (cn' sn' : Nat), j_LW L sc x m out P G R Q h' → cn' ≤ cn + 200 → sn' ≤ sn + 2000 → J 1161 [some (j_r (some sc)), some (j_r (some x)), some (j_r (some m)), some (j_r (some out)), some (j_i i), none, none] [] h' cn' sn') : J 744 [some (j_r (some sc)), some (j_r (some x)), some (j_r (some m)), some (j_r (some out)), some (j_i i), none, none] [] h cn sn := by
  have q1 : (i + Int32.ofInt (1)).toInt = i.toInt + 1 := j_inc1 (by omega)
  have q2 : (i + Int32.ofInt (2)).toInt = i.toInt + 2 := j_i2 i0 (by omega)
  have q3 : (i + Int32.ofInt (3)).toInt = i.toInt + 3 := j_i3 i0 (by omega)
  have q4 : (i + Int32.ofInt (4)).toInt = i.toInt + 4 := j_i4 i0 (by omega)
  refine hJ [1161] 400 _ _ _ _ _ _ ?_
  conv => whnf
  have lsv162 : j_ln h sc = L := lw.1.2.2.2.2.2.2
  refine ⟨_, _, rfl, lw.1.2.2.2.2.2.1, rfl, j_vp (by omega) (by rw [lsv162]; omega), fun v162 ev162 => ?_⟩
  conv => whnf
  have lsv163 : j_ln h sc = L := lw.1.2.2.2.2.2.2
  refine ⟨_, _, rfl, lw.1.2.2.2.2.2.1, rfl, j_vp (by omega) (by rw [lsv163]; omega), fun v163 ev163 => ?_⟩
  conv => whnf
  refine ⟨rfl, _, _, _, _, _, _, c_Lw_ofPrint lw.1.1 lw.1.2.2.1, ⟨Nat.le_of_ble_eq_true rfl, Nat.le_of_ble_eq_true rfl, by (try dsimp only); omega, by (try dsimp only); omega⟩, fun _ _ z => False.elim z, ?_⟩
  rintro v9 H164 ⟨⟨r166, rfl⟩, fo⟩
  have l165 := (lw.fo fo).1
  conv => whnf
  have lsv167 : j_ln H164 sc = L := l165.1.2.2.2.2.2.2
  refine ⟨_, _, rfl, l165.1.2.2.2.2.2.1, rfl, j_vp (by omega) (by rw [lsv167]; omega), fun v167 ev167 => ?_⟩
  conv => whnf
  have lsv168 : j_ln H164 sc = L := l165.1.2.2.2.2.2.2
  refine ⟨_, _, rfl, l165.1.2.2.2.2.2.1, rfl, j_vp (by omega) (by rw [lsv168]; omega), fun v168 ev168 => ?_⟩
  conv => whnf
  obtain ⟨ρ172, w171⟩ := l165.1.2.1
  refine ⟨w171.km, rfl, _, _, _, _, _, _, c_Mo_ofPrint w171, ⟨Nat.le_of_ble_eq_true rfl, Nat.le_of_ble_eq_true rfl, by (try dsimp only); omega, by (try dsimp only); omega⟩, fun _ _ z => False.elim z, ?_⟩
  rintro v9 H169 ⟨st9, r9, rfl⟩
  have l170 := l165.mf w171 st9
  exact j_use hF (back _ _ _ l170 (by omega) (by omega)) (And.intro rfl (And.intro rfl (And.intro rfl (And.intro rfl (And.intro rfl trivial)))))
set_option maxHeartbeats 4000000 in
set_option maxRecDepth 20000 in
theorem j_turn15 {J : j_J} {L sc x m out P G R Q cn sn : Nat} {i : Int32} {h : j_H} (hJ : j_Cl k_law j_lF j_lP j_no J) (hF : j_Fg J) (hL : L ≤ 2560) (i0 : 0 ≤ i.toInt) (i1 : i.toInt + 5 ≤ (L : Int)) (hc : cn ≤ 500000) (hs : sn ≤ 6000000) (lw : j_LW L sc x m out P G R Q h) (back : ∀ (h' : j_H) (cn' sn' : Nat), j_LW L sc x m out P G R Q h' → cn' ≤ cn + 200 → sn' ≤ sn + 2000 → J 1161 [some (j_r (some sc)), some (j_r (some x)), some (j_r (some m)), some (j_r (some out)), some (j_i i), none, none] [] h' cn' sn') : J 784 [some (j_r (some sc)), some (j_r (some x)), some (j_r (some m)), some (j_r (some out)), some (j_i i), none, none] [] h cn sn := by
  have q1 : (i + Int32.ofInt (1)).toInt = i.toInt + 1 := j_inc1 (by omega)
  have q2 : (i + Int32.ofInt (2)).toInt = i.toInt + 2 := j_i2 i0 (by omega)
  have q3 : (i + Int32.ofInt (3)).toInt = i.toInt + 3 := j_i3 i0 (by omega)
  have q4 : (i + Int32.ofInt (4)).toInt = i.toInt + 4 := j_i4 i0 (by omega)
  refine hJ [1161] 400 _ _ _ _ _ _ ?_
  conv => whnf
  have lsv173 : j_ln h sc = L := lw.1.2.2.2.2.2.2
  refine ⟨_, _, rfl, lw.1.2.2.2.2.2.1, rfl, j_vp (by omega) (by rw [lsv173]; omega), fun v173 ev173 => ?_⟩
  conv => whnf
  refine ⟨rfl, _, _, _, _, _, _, c_Lw_lab lw.1.1 lw.1.2.2.1, ⟨Nat.le_of_ble_eq_true rfl, Nat.le_of_ble_eq_true rfl, by (try dsimp only); omega, by (try dsimp only); omega⟩, fun _ _ z => False.elim z, ?_⟩
  rintro v9 H174 ⟨⟨r176, rfl⟩, fo⟩
  have l175 := (lw.fo fo).1
  conv => whnf
  have lsv177 : j_ln H174 sc = L := l175.1.2.2.2.2.2.2
  refine ⟨_, _, rfl, l175.1.2.2.2.2.2.1, rfl, j_vp (by omega) (by rw [lsv177]; omega), fun v177 ev177 => ?_⟩
  conv => whnf
  obtain ⟨ρ181, w180⟩ := l175.1.2.1
  refine ⟨w180.km, rfl, _, _, _, _, _, _, c_Mo_lab w180, ⟨Nat.le_of_ble_eq_true rfl, Nat.le_of_ble_eq_true rfl, by (try dsimp only); omega, by (try dsimp only); omega⟩, fun _ _ z => False.elim z, ?_⟩
  rintro v9 H178 ⟨st9, r9, rfl⟩
  have l179 := l175.mf w180 st9
  exact j_use hF (back _ _ _ l179 (by omega) (by omega)) (And.intro rfl (And.intro rfl (And.intro rfl (And.intro rfl (And.intro rfl trivial)))))
set_option maxHeartbeats 4000000 in
set_option maxRecDepth 20000 in
theorem j_turn16 {J : j_J} {L sc x m out P G R Q cn sn : Nat} {i : Int32} {h : j_H} (hJ : j_Cl k_law j_lF j_lP j_no J) (hF : j_Fg J) (hL : L ≤ 2560) (i0 : 0 ≤ i.toInt) (i1 : i.toInt + 5 ≤ (L : Int)) (hc : cn ≤ 500000) (hs : sn ≤ 6000000) (lw : j_LW L sc x m out P G R Q h) (back : ∀ (h' : j_H) (cn' sn' : Nat), j_LW L sc x m out P G R Q h' → cn' ≤ cn + 200 → sn' ≤ sn + 2000 → J 1161 [some (j_r (some sc)), some (j_r (some x)), some (j_r (some m)), some (j_r (some out)), some (j_i i), none, none] [] h' cn' sn') : J 812 [some (j_r (some sc)), some (j_r (some x)), some (j_r (some m)), some (j_r (some out)), some (j_i i), none, none] [] h cn sn := by
  have q1 : (i + Int32.ofInt (1)).toInt = i.toInt + 1 := j_inc1 (by omega)
  have q2 : (i + Int32.ofInt (2)).toInt = i.toInt + 2 := j_i2 i0 (by omega)
  have q3 : (i + Int32.ofInt (3)).toInt = i.toInt + 3 := j_i3 i0 (by omega)
  have q4 : (i + Int32.ofInt (4)).toInt = i.toInt + 4 := j_i4 i0 (by omega)
  refine hJ [1161] 400 _ _ _ _ _ _ ?_
  conv => whnf
  have lsv182 : j_ln h sc = L := lw.1.2.2.2.2.2.2
  refine ⟨_, _, rfl, lw.1.2.2.2.2.2.1, rfl, j_vp (by omega) (by rw [lsv182]; omega), fun v182 ev182 => ?_⟩
  conv => whnf
  refine ⟨rfl, _, _, _, _, _, _, c_Lw_text lw.1.1 lw.1.2.2.2.1 lw.1.2.2.1, ⟨Nat.le_of_ble_eq_true rfl, Nat.le_of_ble_eq_true rfl, by (try dsimp only); omega, by (try dsimp only); omega⟩, fun _ _ z => False.elim z, ?_⟩
  rintro v9 H183 ⟨⟨r185, rfl⟩, fo⟩
  have l184 := (lw.fo fo).1
  conv => whnf
  have lsv186 : j_ln H183 sc = L := l184.1.2.2.2.2.2.2
  refine ⟨_, _, rfl, l184.1.2.2.2.2.2.1, rfl, j_vp (by omega) (by rw [lsv186]; omega), fun v186 ev186 => ?_⟩
  conv => whnf
  obtain ⟨ρ190, w189⟩ := l184.1.2.1
  refine ⟨w189.km, rfl, _, _, _, _, _, _, c_Mo_text w189 l184.1.2.2.2.1, ⟨Nat.le_of_ble_eq_true rfl, Nat.le_of_ble_eq_true rfl, by (try dsimp only); omega, by (try dsimp only); omega⟩, fun _ _ z => False.elim z, ?_⟩
  rintro v9 H187 ⟨st9, s9, rfl⟩
  have l188 := l184.mf w189 st9
  exact j_use hF (back _ _ _ l188 (by omega) (by omega)) (And.intro rfl (And.intro rfl (And.intro rfl (And.intro rfl (And.intro rfl trivial)))))
set_option maxHeartbeats 4000000 in
set_option maxRecDepth 20000 in
theorem j_turn17 {J : j_J} {L sc x m out P G R Q cn sn : Nat} {i : Int32} {h : j_H} (hJ : j_Cl k_law j_lF j_lP j_no J) (hF : j_Fg J) (hL : L ≤ 2560) (i0 : 0 ≤ i.toInt) (i1 : i.toInt + 5 ≤ (L : Int)) (hc : cn ≤ 500000) (hs : sn ≤ 6000000) (lw : j_LW L sc x m out P G R Q h) (back : ∀ (h' : j_H) (cn' sn' : Nat), j_LW L sc x m out P G R Q h' → cn' ≤ cn + 200 → sn' ≤ sn + 2000 → J 1161 [some (j_r (some sc)), some (j_r (some x)), some (j_r (some m)), some (j_r (some out)), some (j_i i), none, none] [] h' cn' sn') : J 840 [some (j_r (some sc)), some (j_r (some x)), some (j_r (some m)), some (j_r (some out)), some (j_i i), none, none] [] h cn sn := by
  have q1 : (i + Int32.ofInt (1)).toInt = i.toInt + 1 := j_inc1 (by omega)
  have q2 : (i + Int32.ofInt (2)).toInt = i.toInt + 2 := j_i2 i0 (by omega)
  have q3 : (i + Int32.ofInt (3)).toInt = i.toInt + 3 := j_i3 i0 (by omega)
  have q4 : (i + Int32.ofInt (4)).toInt = i.toInt + 4 := j_i4 i0 (by omega)
  refine hJ [1161] 400 _ _ _ _ _ _ ?_
  conv => whnf
  have lsv191 : j_ln h sc = L := lw.1.2.2.2.2.2.2
  refine ⟨_, _, rfl, lw.1.2.2.2.2.2.1, rfl, j_vp (by omega) (by rw [lsv191]; omega), fun v191 ev191 => ?_⟩
  conv => whnf
  have lsv192 : j_ln h sc = L := lw.1.2.2.2.2.2.2
  refine ⟨_, _, rfl, lw.1.2.2.2.2.2.1, rfl, j_vp (by omega) (by rw [lsv192]; omega), fun v192 ev192 => ?_⟩
  conv => whnf
  have lsv193 : j_ln h sc = L := lw.1.2.2.2.2.2.2
  refine ⟨_, _, rfl, lw.1.2.2.2.2.2.1, rfl, j_vp (by omega) (by rw [lsv193]; omega), fun v193 ev193 => ?_⟩
  conv => whnf
  refine ⟨rfl, _, _, _, _, _, _, c_Lw_leftq lw.1.1 lw.1.2.2.1 lw.2.1, ⟨Nat.le_of_ble_eq_true rfl, Nat.le_of_ble_eq_true rfl, by (try dsimp only); omega, by (try dsimp only); omega⟩, fun _ _ z => False.elim z, ?_⟩
  rintro u9 H194 a
  obtain rfl := a.1
  obtain ⟨l1, s1, m1⟩ := lw.1.lq a
  conv => whnf
  have lsv196 : j_ln H194 sc = L := l1.2.2.2.2.2.2
  refine ⟨_, _, rfl, l1.2.2.2.2.2.1, rfl, j_vp (by omega) (by rw [lsv196]; omega), fun v196 ev196 => ?_⟩
  obtain rfl : v191 = v196 := ev191.symm.trans ((s1 _).symm.trans ev196)
  conv => whnf
  have lsv197 : j_ln H194 sc = L := l1.2.2.2.2.2.2
  refine ⟨_, _, rfl, l1.2.2.2.2.2.1, rfl, j_vp (by omega) (by rw [lsv197]; omega), fun v197 ev197 => ?_⟩
  obtain rfl : v192 = v197 := ev192.symm.trans ((s1 _).symm.trans ev197)
  conv => whnf
  have lsv198 : j_ln H194 sc = L := l1.2.2.2.2.2.2
  refine ⟨_, _, rfl, l1.2.2.2.2.2.1, rfl, j_vp (by omega) (by rw [lsv198]; omega), fun v198 ev198 => ?_⟩
  obtain rfl : v193 = v198 := ev193.symm.trans ((s1 _).symm.trans ev198)
  conv => whnf
  obtain ⟨ρ9, w9⟩ := l1.2.1
  have eq9 : ∀ k, j_aK k = true → j_am H194 m P G R k = j_ax h x k := fun k hk => (m1 k hk).trans (lw.2.2 k hk)
  refine ⟨w9.km, rfl, _, _, _, _, _, _, c_Mo_leftq w9 (lw.2.1.eq eq9), ⟨Nat.le_of_ble_eq_true rfl, Nat.le_of_ble_eq_true rfl, by (try dsimp only); omega, by (try dsimp only); omega⟩, fun _ _ z => False.elim z, ?_⟩
  rintro u9 H199 b
  have hq : q_left v191 v192 v193 = q_left v191 v192 v193 := rfl
  obtain ⟨lw2, o2⟩ := lw.told a b hq (fun _ => eq9) (fun _ => lw.2.1)
  obtain ⟨r9, rfl⟩ := b.2.2.2.2.2.2
  conv => whnf
  have t2 := b.2.2.1
  rw [hq] at t2
  obtain ⟨ρ8, w8⟩ := lw2.1.2.1
  refine ⟨w8.km, rfl, _, _, _, _, _, _, c_Mo_thrownx w8.km, ⟨Nat.le_of_ble_eq_true rfl, Nat.le_of_ble_eq_true rfl, by (try dsimp only); omega, by (try dsimp only); omega⟩, fun _ _ z => False.elim z, ?_⟩
  rintro v7 h7 ⟨rfl, e7⟩
  obtain rfl : H199 = h7 := e7.symm
  rw [t2]
  conv => whnf
  refine ⟨fun _ => ?_, fun c => absurd rfl c⟩
  conv => whnf
  refine ⟨fun _ => ?_, fun c => ?_⟩
  · exact j_use hF (back _ _ _ lw2 (by omega) (by omega)) (And.intro rfl (And.intro rfl (And.intro rfl (And.intro rfl (And.intro rfl trivial)))))
  have c : ¬ ¬ (Int32.ofInt (q_left v191 v192 v193)).toInt = 0 := c
  have z : q_left v191 v192 v193 = 0 := j_nz q_left_n (Decidable.not_not.mp c)
  obtain rfl : r9 = a_left (j_ax h x) v191 v192 v193 := (Sum.inl.inj (Option.some.inj (b.2.2.2.2.2.1 (hq.trans z)))).trans (a_left_c eq9)
  conv => whnf
  refine ⟨_, rfl, lw2.1.2.2.1, fun y ey => ?_⟩
  obtain rfl : y = (a_left (j_ax h x) v191 v192 v193).toInt64 := ey.symm.trans (o2.trans (a.2.2.2.2 z))
  conv => whnf
  refine ⟨fun _ => ?_, fun c => absurd (j_cmp0 _) c⟩
  exact j_use hF (back _ _ _ lw2 (by omega) (by omega)) (And.intro rfl (And.intro rfl (And.intro rfl (And.intro rfl (And.intro rfl trivial)))))
set_option maxHeartbeats 4000000 in
set_option maxRecDepth 20000 in
theorem j_turn18 {J : j_J} {L sc x m out P G R Q cn sn : Nat} {i : Int32} {h : j_H} (hJ : j_Cl k_law j_lF j_lP j_no J) (hF : j_Fg J) (hL : L ≤ 2560) (i0 : 0 ≤ i.toInt) (i1 : i.toInt + 5 ≤ (L : Int)) (hc : cn ≤ 500000) (hs : sn ≤ 6000000) (lw : j_LW L sc x m out P G R Q h) (back : ∀ (h' : j_H) (cn' sn' : Nat), j_LW L sc x m out P G R Q h' → cn' ≤ cn + 200 → sn' ≤ sn + 2000 → J 1161 [some (j_r (some sc)), some (j_r (some x)), some (j_r (some m)), some (j_r (some out)), some (j_i i), none, none] [] h' cn' sn') : J 921 [some (j_r (some sc)), some (j_r (some x)), some (j_r (some m)), some (j_r (some out)), some (j_i i), none, none] [] h cn sn := by
  have q1 : (i + Int32.ofInt (1)).toInt = i.toInt + 1 := j_inc1 (by omega)
  have q2 : (i + Int32.ofInt (2)).toInt = i.toInt + 2 := j_i2 i0 (by omega)
  have q3 : (i + Int32.ofInt (3)).toInt = i.toInt + 3 := j_i3 i0 (by omega)
  have q4 : (i + Int32.ofInt (4)).toInt = i.toInt + 4 := j_i4 i0 (by omega)
  refine hJ [1161] 400 _ _ _ _ _ _ ?_
  conv => whnf
  have lsv203 : j_ln h sc = L := lw.1.2.2.2.2.2.2
  refine ⟨_, _, rfl, lw.1.2.2.2.2.2.1, rfl, j_vp (by omega) (by rw [lsv203]; omega), fun v203 ev203 => ?_⟩
  conv => whnf
  have lsv204 : j_ln h sc = L := lw.1.2.2.2.2.2.2
  refine ⟨_, _, rfl, lw.1.2.2.2.2.2.1, rfl, j_vp (by omega) (by rw [lsv204]; omega), fun v204 ev204 => ?_⟩
  conv => whnf
  have lsv205 : j_ln h sc = L := lw.1.2.2.2.2.2.2
  refine ⟨_, _, rfl, lw.1.2.2.2.2.2.1, rfl, j_vp (by omega) (by rw [lsv205]; omega), fun v205 ev205 => ?_⟩
  conv => whnf
  have lsv206 : j_ln h sc = L := lw.1.2.2.2.2.2.2
  refine ⟨_, _, rfl, lw.1.2.2.2.2.2.1, rfl, j_vp (by omega) (by rw [lsv206]; omega), fun v206 ev206 => ?_⟩
  conv => whnf
  refine ⟨fun c207 => ?_, fun c207 => ?_⟩
  · skip
    conv => whnf
    refine ⟨rfl, _, _, _, _, _, _, c_Lw_ageq lw.1.1 lw.1.2.2.1 lw.2.1, ⟨Nat.le_of_ble_eq_true rfl, Nat.le_of_ble_eq_true rfl, by (try dsimp only); omega, by (try dsimp only); omega⟩, fun _ _ z => False.elim z, ?_⟩
    rintro u9 H208 a
    obtain rfl := a.1
    obtain ⟨l1, s1, m1⟩ := lw.1.lq a
    conv => whnf
    have lsv210 : j_ln H208 sc = L := l1.2.2.2.2.2.2
    refine ⟨_, _, rfl, l1.2.2.2.2.2.1, rfl, j_vp (by omega) (by rw [lsv210]; omega), fun v210 ev210 => ?_⟩
    obtain rfl : v203 = v210 := ev203.symm.trans ((s1 _).symm.trans ev210)
    conv => whnf
    have lsv211 : j_ln H208 sc = L := l1.2.2.2.2.2.2
    refine ⟨_, _, rfl, l1.2.2.2.2.2.1, rfl, j_vp (by omega) (by rw [lsv211]; omega), fun v211 ev211 => ?_⟩
    obtain rfl : v204 = v211 := ev204.symm.trans ((s1 _).symm.trans ev211)
    conv => whnf
    have lsv212 : j_ln H208 sc = L := l1.2.2.2.2.2.2
    refine ⟨_, _, rfl, l1.2.2.2.2.2.1, rfl, j_vp (by omega) (by rw [lsv212]; omega), fun v212 ev212 => ?_⟩
    obtain rfl : v205 = v212 := ev205.symm.trans ((s1 _).symm.trans ev212)
    conv => whnf
    have lsv213 : j_ln H208 sc = L := l1.2.2.2.2.2.2
    refine ⟨_, _, rfl, l1.2.2.2.2.2.1, rfl, j_vp (by omega) (by rw [lsv213]; omega), fun v213 ev213 => ?_⟩
    obtain rfl : v206 = v213 := ev206.symm.trans ((s1 _).symm.trans ev213)
    conv => whnf
    refine ⟨fun c214 => ?_, fun c214 => ?_⟩
    · skip
      conv => whnf
      obtain ⟨ρ9, w9⟩ := l1.2.1
      have eq9 : ∀ k, j_aK k = true → j_am H208 m P G R k = j_ax h x k := fun k hk => (m1 k hk).trans (lw.2.2 k hk)
      refine ⟨w9.km, rfl, _, _, _, _, _, _, c_Mo_ageq w9 (lw.2.1.eq eq9), ⟨Nat.le_of_ble_eq_true rfl, Nat.le_of_ble_eq_true rfl, by (try dsimp only); omega, by (try dsimp only); omega⟩, fun _ _ z => False.elim z, ?_⟩
      rintro u9 H215 b
      have hq : q_age v203 v204 v205 (Int32.ofInt (0)) = q_age v203 v204 v205 (Int32.ofInt (0)) := rfl
      obtain ⟨lw2, o2⟩ := lw.told a b hq (fun _ => eq9) (fun _ => lw.2.1)
      obtain ⟨r9, rfl⟩ := b.2.2.2.2.2.2
      exact j_use hF (back _ _ _ lw2 (by omega) (by omega)) (And.intro rfl (And.intro rfl (And.intro rfl (And.intro rfl (And.intro rfl trivial)))))
    · exact absurd (show v206.toInt = 0 from c207) c214
  · skip
    conv => whnf
    refine ⟨rfl, _, _, _, _, _, _, c_Lw_ageq lw.1.1 lw.1.2.2.1 lw.2.1, ⟨Nat.le_of_ble_eq_true rfl, Nat.le_of_ble_eq_true rfl, by (try dsimp only); omega, by (try dsimp only); omega⟩, fun _ _ z => False.elim z, ?_⟩
    rintro u9 H217 a
    obtain rfl := a.1
    obtain ⟨l1, s1, m1⟩ := lw.1.lq a
    conv => whnf
    have lsv219 : j_ln H217 sc = L := l1.2.2.2.2.2.2
    refine ⟨_, _, rfl, l1.2.2.2.2.2.1, rfl, j_vp (by omega) (by rw [lsv219]; omega), fun v219 ev219 => ?_⟩
    obtain rfl : v203 = v219 := ev203.symm.trans ((s1 _).symm.trans ev219)
    conv => whnf
    have lsv220 : j_ln H217 sc = L := l1.2.2.2.2.2.2
    refine ⟨_, _, rfl, l1.2.2.2.2.2.1, rfl, j_vp (by omega) (by rw [lsv220]; omega), fun v220 ev220 => ?_⟩
    obtain rfl : v204 = v220 := ev204.symm.trans ((s1 _).symm.trans ev220)
    conv => whnf
    have lsv221 : j_ln H217 sc = L := l1.2.2.2.2.2.2
    refine ⟨_, _, rfl, l1.2.2.2.2.2.1, rfl, j_vp (by omega) (by rw [lsv221]; omega), fun v221 ev221 => ?_⟩
    obtain rfl : v205 = v221 := ev205.symm.trans ((s1 _).symm.trans ev221)
    conv => whnf
    have lsv222 : j_ln H217 sc = L := l1.2.2.2.2.2.2
    refine ⟨_, _, rfl, l1.2.2.2.2.2.1, rfl, j_vp (by omega) (by rw [lsv222]; omega), fun v222 ev222 => ?_⟩
    obtain rfl : v206 = v222 := ev206.symm.trans ((s1 _).symm.trans ev222)
    conv => whnf
    refine ⟨fun c223 => ?_, fun c223 => ?_⟩
    · exact absurd (show v206.toInt = 0 from c223) c207
    · skip
      conv => whnf
      obtain ⟨ρ9, w9⟩ := l1.2.1
      have eq9 : ∀ k, j_aK k = true → j_am H217 m P G R k = j_ax h x k := fun k hk => (m1 k hk).trans (lw.2.2 k hk)
      refine ⟨w9.km, rfl, _, _, _, _, _, _, c_Mo_ageq w9 (lw.2.1.eq eq9), ⟨Nat.le_of_ble_eq_true rfl, Nat.le_of_ble_eq_true rfl, by (try dsimp only); omega, by (try dsimp only); omega⟩, fun _ _ z => False.elim z, ?_⟩
      rintro u9 H224 b
      have hq : q_age v203 v204 v205 (Int32.ofInt (1)) = q_age v203 v204 v205 (Int32.ofInt (1)) := rfl
      obtain ⟨lw2, o2⟩ := lw.told a b hq (fun _ => eq9) (fun _ => lw.2.1)
      obtain ⟨r9, rfl⟩ := b.2.2.2.2.2.2
      exact j_use hF (back _ _ _ lw2 (by omega) (by omega)) (And.intro rfl (And.intro rfl (And.intro rfl (And.intro rfl (And.intro rfl trivial)))))
set_option maxHeartbeats 4000000 in
set_option maxRecDepth 20000 in
theorem j_turn19 {J : j_J} {L sc x m out P G R Q cn sn : Nat} {i : Int32} {h : j_H} (hJ : j_Cl k_law j_lF j_lP j_no J) (hF : j_Fg J) (hL : L ≤ 2560) (i0 : 0 ≤ i.toInt) (i1 : i.toInt + 5 ≤ (L : Int)) (hc : cn ≤ 500000) (hs : sn ≤ 6000000) (lw : j_LW L sc x m out P G R Q h) (back : ∀ (h' : j_H) (cn' sn' : Nat), j_LW L sc x m out P G R Q h' → cn' ≤ cn + 200 → sn' ≤ sn + 2000 → J 1161 [some (j_r (some sc)), some (j_r (some x)), some (j_r (some m)), some (j_r (some out)), some (j_i i), none, none] [] h' cn' sn') : J 1001 [some (j_r (some sc)), some (j_r (some x)), some (j_r (some m)), some (j_r (some out)), some (j_i i), none, none] [] h cn sn := by
  have q1 : (i + Int32.ofInt (1)).toInt = i.toInt + 1 := j_inc1 (by omega)
  have q2 : (i + Int32.ofInt (2)).toInt = i.toInt + 2 := j_i2 i0 (by omega)
  have q3 : (i + Int32.ofInt (3)).toInt = i.toInt + 3 := j_i3 i0 (by omega)
  have q4 : (i + Int32.ofInt (4)).toInt = i.toInt + 4 := j_i4 i0 (by omega)
  refine hJ [1161] 400 _ _ _ _ _ _ ?_
  conv => whnf
  refine ⟨lw.1.1.1, rfl, _, _, _, _, _, _, c_G_fewest (h := h) lw.1.1 j_Sc.rf, ⟨Nat.le_of_ble_eq_true rfl, Nat.le_of_ble_eq_true rfl, by (try dsimp only); omega, by (try dsimp only); omega⟩, fun _ _ z => False.elim z, ?_⟩
  rintro v9 H226 ⟨it228, e9, s9, r9, rfl⟩
  have fr9 : j_Fr x h H226 := by rw [e9]; exact j_Fr.sc lw.1.1 s9 j_sf_ok j_sf8
  have l227 := (lw.fo fr9.fo).1
  conv => whnf
  obtain ⟨ρ232, w231⟩ := l227.1.2.1
  refine ⟨w231.km, rfl, _, _, _, _, _, _, c_Mo_fewest w231, ⟨Nat.le_of_ble_eq_true rfl, Nat.le_of_ble_eq_true rfl, by (try dsimp only); omega, by (try dsimp only); omega⟩, fun _ _ z => False.elim z, ?_⟩
  rintro v9 H229 ⟨st9, r9, rfl⟩
  have l230 := l227.mf w231 st9
  exact j_use hF (back _ _ _ l230 (by omega) (by omega)) (And.intro rfl (And.intro rfl (And.intro rfl (And.intro rfl (And.intro rfl trivial)))))
set_option maxHeartbeats 4000000 in
set_option maxRecDepth 20000 in
theorem j_turn20 {J : j_J} {L sc x m out P G R Q cn sn : Nat} {i : Int32} {h : j_H} (hJ : j_Cl k_law j_lF j_lP j_no J) (hF : j_Fg J) (hL : L ≤ 2560) (i0 : 0 ≤ i.toInt) (i1 : i.toInt + 5 ≤ (L : Int)) (hc : cn ≤ 500000) (hs : sn ≤ 6000000) (lw : j_LW L sc x m out P G R Q h) (back : ∀ (h' : j_H) (cn' sn' : Nat), j_LW L sc x m out P G R Q h' → cn' ≤ cn + 200 → sn' ≤ sn + 2000 → J 1161 [some (j_r (some sc)), some (j_r (some x)), some (j_r (some m)), some (j_r (some out)), some (j_i i), none, none] [] h' cn' sn') : J 1014 [some (j_r (some sc)), some (j_r (some x)), some (j_r (some m)), some (j_r (some out)), some (j_i i), none, none] [] h cn sn := by
  have q1 : (i + Int32.ofInt (1)).toInt = i.toInt + 1 := j_inc1 (by omega)
  have q2 : (i + Int32.ofInt (2)).toInt = i.toInt + 2 := j_i2 i0 (by omega)
  have q3 : (i + Int32.ofInt (3)).toInt = i.toInt + 3 := j_i3 i0 (by omega)
  have q4 : (i + Int32.ofInt (4)).toInt = i.toInt + 4 := j_i4 i0 (by omega)
  refine hJ [1161] 400 _ _ _ _ _ _ ?_
  conv => whnf
  have lsv233 : j_ln h sc = L := lw.1.2.2.2.2.2.2
  refine ⟨_, _, rfl, lw.1.2.2.2.2.2.1, rfl, j_vp (by omega) (by rw [lsv233]; omega), fun v233 ev233 => ?_⟩
  conv => whnf
  refine ⟨fun c234 => ?_, fun c234 => ?_⟩
  · skip
    conv => whnf
    refine ⟨lw.1.1.1, rfl, _, _, _, _, _, _, c_G_bestSwap (h := h) lw.1.1 j_Sc.rf, ⟨Nat.le_of_ble_eq_true rfl, Nat.le_of_ble_eq_true rfl, by (try dsimp only); omega, by (try dsimp only); omega⟩, fun _ _ z => False.elim z, ?_⟩
    rintro v9 H235 ⟨it237, e9, s9, r9, rfl⟩
    have fr9 : j_Fr x h H235 := by rw [e9]; exact j_Fr.sc lw.1.1 s9 j_sf_ok j_sf8
    have l236 := (lw.fo fr9.fo).1
    conv => whnf
    have lsv238 : j_ln H235 sc = L := l236.1.2.2.2.2.2.2
    refine ⟨_, _, rfl, l236.1.2.2.2.2.2.1, rfl, j_vp (by omega) (by rw [lsv238]; omega), fun v238 ev238 => ?_⟩
    conv => whnf
    refine ⟨fun c239 => ?_, fun c239 => ?_⟩
    · skip
      conv => whnf
      obtain ⟨ρ243, w242⟩ := l236.1.2.1
      refine ⟨w242.km, rfl, _, _, _, _, _, _, c_Mo_bestSwap w242, ⟨Nat.le_of_ble_eq_true rfl, Nat.le_of_ble_eq_true rfl, by (try dsimp only); omega, by (try dsimp only); omega⟩, fun _ _ z => False.elim z, ?_⟩
      rintro v9 H240 ⟨st9, r9, rfl⟩
      have l241 := l236.mf w242 st9
      exact j_use hF (back _ _ _ l241 (by omega) (by omega)) (And.intro rfl (And.intro rfl (And.intro rfl (And.intro rfl (And.intro rfl trivial)))))
    · skip
      conv => whnf
      obtain ⟨ρ247, w246⟩ := l236.1.2.1
      refine ⟨w246.km, rfl, _, _, _, _, _, _, c_Mo_bestSwap w246, ⟨Nat.le_of_ble_eq_true rfl, Nat.le_of_ble_eq_true rfl, by (try dsimp only); omega, by (try dsimp only); omega⟩, fun _ _ z => False.elim z, ?_⟩
      rintro v9 H244 ⟨st9, r9, rfl⟩
      have l245 := l236.mf w246 st9
      exact j_use hF (back _ _ _ l245 (by omega) (by omega)) (And.intro rfl (And.intro rfl (And.intro rfl (And.intro rfl (And.intro rfl trivial)))))
  · skip
    conv => whnf
    refine ⟨lw.1.1.1, rfl, _, _, _, _, _, _, c_G_bestSwap (h := h) lw.1.1 j_Sc.rf, ⟨Nat.le_of_ble_eq_true rfl, Nat.le_of_ble_eq_true rfl, by (try dsimp only); omega, by (try dsimp only); omega⟩, fun _ _ z => False.elim z, ?_⟩
    rintro v9 H248 ⟨it250, e9, s9, r9, rfl⟩
    have fr9 : j_Fr x h H248 := by rw [e9]; exact j_Fr.sc lw.1.1 s9 j_sf_ok j_sf8
    have l249 := (lw.fo fr9.fo).1
    conv => whnf
    have lsv251 : j_ln H248 sc = L := l249.1.2.2.2.2.2.2
    refine ⟨_, _, rfl, l249.1.2.2.2.2.2.1, rfl, j_vp (by omega) (by rw [lsv251]; omega), fun v251 ev251 => ?_⟩
    conv => whnf
    refine ⟨fun c252 => ?_, fun c252 => ?_⟩
    · skip
      conv => whnf
      obtain ⟨ρ256, w255⟩ := l249.1.2.1
      refine ⟨w255.km, rfl, _, _, _, _, _, _, c_Mo_bestSwap w255, ⟨Nat.le_of_ble_eq_true rfl, Nat.le_of_ble_eq_true rfl, by (try dsimp only); omega, by (try dsimp only); omega⟩, fun _ _ z => False.elim z, ?_⟩
      rintro v9 H253 ⟨st9, r9, rfl⟩
      have l254 := l249.mf w255 st9
      exact j_use hF (back _ _ _ l254 (by omega) (by omega)) (And.intro rfl (And.intro rfl (And.intro rfl (And.intro rfl (And.intro rfl trivial)))))
    · skip
      conv => whnf
      obtain ⟨ρ260, w259⟩ := l249.1.2.1
      refine ⟨w259.km, rfl, _, _, _, _, _, _, c_Mo_bestSwap w259, ⟨Nat.le_of_ble_eq_true rfl, Nat.le_of_ble_eq_true rfl, by (try dsimp only); omega, by (try dsimp only); omega⟩, fun _ _ z => False.elim z, ?_⟩
      rintro v9 H257 ⟨st9, r9, rfl⟩
      have l258 := l249.mf w259 st9
      exact j_use hF (back _ _ _ l258 (by omega) (by omega)) (And.intro rfl (And.intro rfl (And.intro rfl (And.intro rfl (And.intro rfl trivial)))))
set_option maxHeartbeats 4000000 in
set_option maxRecDepth 20000 in
theorem j_turn21 {J : j_J} {L sc x m out P G R Q cn sn : Nat} {i : Int32} {h : j_H} (hJ : j_Cl k_law j_lF j_lP j_no J) (hF : j_Fg J) (hL : L ≤ 2560) (i0 : 0 ≤ i.toInt) (i1 : i.toInt + 5 ≤ (L : Int)) (hc : cn ≤ 500000) (hs : sn ≤ 6000000) (lw : j_LW L sc x m out P G R Q h) (back : ∀ (h' : j_H) (cn' sn' : Nat), j_LW L sc x m out P G R Q h' → cn' ≤ cn + 200 → sn' ≤ sn + 2000 → J 1161 [some (j_r (some sc)), some (j_r (some x)), some (j_r (some m)), some (j_r (some out)), some (j_i i), none, none] [] h' cn' sn') : J 1055 [some (j_r (some sc)), some (j_r (some x)), some (j_r (some m)), some (j_r (some out)), some (j_i i), none, none] [] h cn sn := by
  have q1 : (i + Int32.ofInt (1)).toInt = i.toInt + 1 := j_inc1 (by omega)
  have q2 : (i + Int32.ofInt (2)).toInt = i.toInt + 2 := j_i2 i0 (by omega)
  have q3 : (i + Int32.ofInt (3)).toInt = i.toInt + 3 := j_i3 i0 (by omega)
  have q4 : (i + Int32.ofInt (4)).toInt = i.toInt + 4 := j_i4 i0 (by omega)
  refine hJ [1161] 400 _ _ _ _ _ _ ?_
  conv => whnf
  have lsv261 : j_ln h sc = L := lw.1.2.2.2.2.2.2
  refine ⟨_, _, rfl, lw.1.2.2.2.2.2.1, rfl, j_vp (by omega) (by rw [lsv261]; omega), fun v261 ev261 => ?_⟩
  conv => whnf
  have lsv262 : j_ln h sc = L := lw.1.2.2.2.2.2.2
  refine ⟨_, _, rfl, lw.1.2.2.2.2.2.1, rfl, j_vp (by omega) (by rw [lsv262]; omega), fun v262 ev262 => ?_⟩
  conv => whnf
  refine ⟨rfl, _, _, _, _, _, _, c_Lw_changed lw.1.1 lw.1.2.2.1, ⟨Nat.le_of_ble_eq_true rfl, Nat.le_of_ble_eq_true rfl, by (try dsimp only); omega, by (try dsimp only); omega⟩, fun _ _ z => False.elim z, ?_⟩
  rintro v9 H263 ⟨⟨r265, rfl⟩, fo⟩
  have l264 := (lw.fo fo).1
  conv => whnf
  have lsv266 : j_ln H263 sc = L := l264.1.2.2.2.2.2.2
  refine ⟨_, _, rfl, l264.1.2.2.2.2.2.1, rfl, j_vp (by omega) (by rw [lsv266]; omega), fun v266 ev266 => ?_⟩
  conv => whnf
  have lsv267 : j_ln H263 sc = L := l264.1.2.2.2.2.2.2
  refine ⟨_, _, rfl, l264.1.2.2.2.2.2.1, rfl, j_vp (by omega) (by rw [lsv267]; omega), fun v267 ev267 => ?_⟩
  conv => whnf
  obtain ⟨ρ271, w270⟩ := l264.1.2.1
  refine ⟨w270.km, rfl, _, _, _, _, _, _, c_Mo_changed w270, ⟨Nat.le_of_ble_eq_true rfl, Nat.le_of_ble_eq_true rfl, by (try dsimp only); omega, by (try dsimp only); omega⟩, fun _ _ z => False.elim z, ?_⟩
  rintro v9 H268 ⟨st9, r9, rfl⟩
  have l269 := l264.mf w270 st9
  exact j_use hF (back _ _ _ l269 (by omega) (by omega)) (And.intro rfl (And.intro rfl (And.intro rfl (And.intro rfl (And.intro rfl trivial)))))
set_option maxHeartbeats 4000000 in
set_option maxRecDepth 20000 in
theorem j_turn22 {J : j_J} {L sc x m out P G R Q cn sn : Nat} {i : Int32} {h : j_H} (hJ : j_Cl k_law j_lF j_lP j_no J) (hF : j_Fg J) (hL : L ≤ 2560) (i0 : 0 ≤ i.toInt) (i1 : i.toInt + 5 ≤ (L : Int)) (hc : cn ≤ 500000) (hs : sn ≤ 6000000) (lw : j_LW L sc x m out P G R Q h) (back : ∀ (h' : j_H) (cn' sn' : Nat), j_LW L sc x m out P G R Q h' → cn' ≤ cn + 200 → sn' ≤ sn + 2000 → J 1161 [some (j_r (some sc)), some (j_r (some x)), some (j_r (some m)), some (j_r (some out)), some (j_i i), none, none] [] h' cn' sn') : J 1095 [some (j_r (some sc)), some (j_r (some x)), some (j_r (some m)), some (j_r (some out)), some (j_i i), none, none] [] h cn sn := by
  have q1 : (i + Int32.ofInt (1)).toInt = i.toInt + 1 := j_inc1 (by omega)
  have q2 : (i + Int32.ofInt (2)).toInt = i.toInt + 2 := j_i2 i0 (by omega)
  have q3 : (i + Int32.ofInt (3)).toInt = i.toInt + 3 := j_i3 i0 (by omega)
  have q4 : (i + Int32.ofInt (4)).toInt = i.toInt + 4 := j_i4 i0 (by omega)
  refine hJ [1161] 400 _ _ _ _ _ _ ?_
  conv => whnf
  have lsv272 : j_ln h sc = L := lw.1.2.2.2.2.2.2
  refine ⟨_, _, rfl, lw.1.2.2.2.2.2.1, rfl, j_vp (by omega) (by rw [lsv272]; omega), fun v272 ev272 => ?_⟩
  conv => whnf
  have lsv273 : j_ln h sc = L := lw.1.2.2.2.2.2.2
  refine ⟨_, _, rfl, lw.1.2.2.2.2.2.1, rfl, j_vp (by omega) (by rw [lsv273]; omega), fun v273 ev273 => ?_⟩
  conv => whnf
  refine ⟨rfl, _, _, _, _, _, _, c_Lw_wider lw.1.1 lw.1.2.2.1, ⟨Nat.le_of_ble_eq_true rfl, Nat.le_of_ble_eq_true rfl, by (try dsimp only); omega, by (try dsimp only); omega⟩, fun _ _ z => False.elim z, ?_⟩
  rintro v9 H274 ⟨⟨r276, rfl⟩, fo⟩
  have l275 := (lw.fo fo).1
  conv => whnf
  have lsv277 : j_ln H274 sc = L := l275.1.2.2.2.2.2.2
  refine ⟨_, _, rfl, l275.1.2.2.2.2.2.1, rfl, j_vp (by omega) (by rw [lsv277]; omega), fun v277 ev277 => ?_⟩
  conv => whnf
  have lsv278 : j_ln H274 sc = L := l275.1.2.2.2.2.2.2
  refine ⟨_, _, rfl, l275.1.2.2.2.2.2.1, rfl, j_vp (by omega) (by rw [lsv278]; omega), fun v278 ev278 => ?_⟩
  conv => whnf
  obtain ⟨ρ282, w281⟩ := l275.1.2.1
  refine ⟨w281.km, rfl, _, _, _, _, _, _, c_Mo_wider w281, ⟨Nat.le_of_ble_eq_true rfl, Nat.le_of_ble_eq_true rfl, by (try dsimp only); omega, by (try dsimp only); omega⟩, fun _ _ z => False.elim z, ?_⟩
  rintro v9 H279 ⟨st9, r9, rfl⟩
  have l280 := l275.mf w281 st9
  exact j_use hF (back _ _ _ l280 (by omega) (by omega)) (And.intro rfl (And.intro rfl (And.intro rfl (And.intro rfl (And.intro rfl trivial)))))
set_option maxHeartbeats 4000000 in
set_option maxRecDepth 20000 in
theorem j_turn23 {J : j_J} {L sc x m out P G R Q cn sn : Nat} {i : Int32} {h : j_H} (hJ : j_Cl k_law j_lF j_lP j_no J) (hF : j_Fg J) (hL : L ≤ 2560) (i0 : 0 ≤ i.toInt) (i1 : i.toInt + 5 ≤ (L : Int)) (hc : cn ≤ 500000) (hs : sn ≤ 6000000) (lw : j_LW L sc x m out P G R Q h) (back : ∀ (h' : j_H) (cn' sn' : Nat), j_LW L sc x m out P G R Q h' → cn' ≤ cn + 200 → sn' ≤ sn + 2000 → J 1161 [some (j_r (some sc)), some (j_r (some x)), some (j_r (some m)), some (j_r (some out)), some (j_i i), none, none] [] h' cn' sn') : J 1135 [some (j_r (some sc)), some (j_r (some x)), some (j_r (some m)), some (j_r (some out)), some (j_i i), none, none] [] h cn sn := by
  have q1 : (i + Int32.ofInt (1)).toInt = i.toInt + 1 := j_inc1 (by omega)
  have q2 : (i + Int32.ofInt (2)).toInt = i.toInt + 2 := j_i2 i0 (by omega)
  have q3 : (i + Int32.ofInt (3)).toInt = i.toInt + 3 := j_i3 i0 (by omega)
  have q4 : (i + Int32.ofInt (4)).toInt = i.toInt + 4 := j_i4 i0 (by omega)
  refine hJ [1161] 400 _ _ _ _ _ _ ?_
  conv => whnf
  refine ⟨lw.1.1.1, rfl, _, _, _, _, _, _, c_G_isSound (h := h) lw.1.1 j_Sc.rf, ⟨Nat.le_of_ble_eq_true rfl, Nat.le_of_ble_eq_true rfl, by (try dsimp only); omega, by (try dsimp only); omega⟩, fun _ _ z => False.elim z, ?_⟩
  rintro v9 H283 ⟨it285, e9, s9, r9, rfl, -⟩
  have fr9 : j_Fr x h H283 := by rw [e9]; exact j_Fr.sc lw.1.1 s9 j_sf_ok j_sf8
  have l284 := (lw.fo fr9.fo).1
  conv => whnf
  obtain ⟨ρ289, w288⟩ := l284.1.2.1
  refine ⟨w288.km, rfl, _, _, _, _, _, _, c_Mo_isSound w288, ⟨Nat.le_of_ble_eq_true rfl, Nat.le_of_ble_eq_true rfl, by (try dsimp only); omega, by (try dsimp only); omega⟩, fun _ _ z => False.elim z, ?_⟩
  rintro v9 H286 ⟨st9, r9, rfl, -⟩
  have l287 := l284.mf w288 st9
  exact j_use hF (back _ _ _ l287 (by omega) (by omega)) (And.intro rfl (And.intro rfl (And.intro rfl (And.intro rfl (And.intro rfl trivial)))))
set_option maxHeartbeats 4000000 in
set_option maxRecDepth 20000 in
theorem j_turn24 {J : j_J} {L sc x m out P G R Q cn sn : Nat} {i : Int32} {h : j_H} (hJ : j_Cl k_law j_lF j_lP j_no J) (hF : j_Fg J) (hL : L ≤ 2560) (i0 : 0 ≤ i.toInt) (i1 : i.toInt + 5 ≤ (L : Int)) (hc : cn ≤ 500000) (hs : sn ≤ 6000000) (lw : j_LW L sc x m out P G R Q h) (back : ∀ (h' : j_H) (cn' sn' : Nat), j_LW L sc x m out P G R Q h' → cn' ≤ cn + 200 → sn' ≤ sn + 2000 → J 1161 [some (j_r (some sc)), some (j_r (some x)), some (j_r (some m)), some (j_r (some out)), some (j_i i), none, none] [] h' cn' sn') : J 1148 [some (j_r (some sc)), some (j_r (some x)), some (j_r (some m)), some (j_r (some out)), some (j_i i), none, none] [] h cn sn := by
  have q1 : (i + Int32.ofInt (1)).toInt = i.toInt + 1 := j_inc1 (by omega)
  have q2 : (i + Int32.ofInt (2)).toInt = i.toInt + 2 := j_i2 i0 (by omega)
  have q3 : (i + Int32.ofInt (3)).toInt = i.toInt + 3 := j_i3 i0 (by omega)
  have q4 : (i + Int32.ofInt (4)).toInt = i.toInt + 4 := j_i4 i0 (by omega)
  refine hJ [1161] 400 _ _ _ _ _ _ ?_
  conv => whnf
  refine ⟨lw.1.1.1, rfl, _, _, _, _, _, _, c_G_digest (h := h) lw.1.1 j_Sc.rf, ⟨Nat.le_of_ble_eq_true rfl, Nat.le_of_ble_eq_true rfl, by (try dsimp only); omega, by (try dsimp only); omega⟩, fun _ _ z => False.elim z, ?_⟩
  rintro v9 H290 ⟨it292, e9, s9, r9, rfl⟩
  have fr9 : j_Fr x h H290 := by rw [e9]; exact j_Fr.sc lw.1.1 s9 j_sf_ok j_sf8
  have l291 := (lw.fo fr9.fo).1
  conv => whnf
  obtain ⟨ρ296, w295⟩ := l291.1.2.1
  refine ⟨w295.km, rfl, _, _, _, _, _, _, c_Mo_digest w295, ⟨Nat.le_of_ble_eq_true rfl, Nat.le_of_ble_eq_true rfl, by (try dsimp only); omega, by (try dsimp only); omega⟩, fun _ _ z => False.elim z, ?_⟩
  rintro v9 H293 ⟨st9, r9, rfl⟩
  have l294 := l291.mf w295 st9
  exact j_use hF (back _ _ _ l294 (by omega) (by omega)) (And.intro rfl (And.intro rfl (And.intro rfl (And.intro rfl (And.intro rfl trivial)))))
set_option maxHeartbeats 4000000 in
set_option maxRecDepth 20000 in
theorem j_lawloop {J : j_J} {L sc x m out P G R Q : Nat} (hJ : j_Cl k_law j_lF j_lP j_no J) (hF : j_Fg J) (hL : L ≤ 2560) : ∀ (k : Nat) (i : Int32) (h : j_H) (cn sn : Nat), j_LW L sc x m out P G R Q h → 0 ≤ i.toInt → i.toInt ≤ (L : Int) → ((L : Int) + 5 - i.toInt) < (k : Int) → cn ≤ 100 + 40 * i.toInt.toNat → sn ≤ 1000 + 400 * i.toInt.toNat → J 27 [some (j_r (some sc)), some (j_r (some x)), some (j_r (some m)), some (j_r (some out)), some (j_i i), none, none] [] h cn sn := by
  intro k
  induction k with
  | zero => intro i h cn sn lw i0 i1 hk hc hs; omega
  | succ k ih =>
    intro i h cn sn lw i0 i1 hk hc hs
    have q5 : (Int32.ofInt 5).toInt = 5 := by decide
    have ls : j_ln h sc = L := lw.1.2.2.2.2.2.2
    have hn : (nI (j_ln h sc)).toInt = (L : Int) := by rw [ls]; exact nI_toInt (by omega)
    have hs5 : (nI (j_ln h sc) - Int32.ofInt 5).toInt = (L : Int) - 5 := by rw [j_subI (by rw [hn, q5]; omega) (by rw [hn, q5]; omega), hn, q5]
    refine hJ [156, 208, 236, 276, 316, 356, 384, 448, 476, 516, 556, 596, 636, 688, 744, 784, 812, 840, 921, 1001, 1014, 1055, 1095, 1135, 1148, 1161] 400 _ _ _ _ _ _ ?_
    conv => whnf
    refine ⟨_, _, rfl, lw.1.2.2.2.2.2.1, ?_⟩
    conv => whnf
    refine ⟨fun c => ?_, fun c => ?_⟩
    · conv => whnf
      exact ⟨Or.inr rfl, ⟨by (try dsimp only); omega, by (try dsimp only); omega⟩, rfl⟩
    have c : ¬ (nI (j_ln h sc) - Int32.ofInt 5).toInt < i.toInt := c
    rw [hs5] at c
    have back : ∀ (h' : j_H) (cn' sn' : Nat), j_LW L sc x m out P G R Q h' → cn' ≤ cn + 200 → sn' ≤ sn + 2000 → J 1161 [some (j_r (some sc)), some (j_r (some x)), some (j_r (some m)), some (j_r (some out)), some (j_i i), none, none] [] h' cn' sn' := by
      intro h' cn' sn' lw' hc' hs'
      have t : (i + Int32.ofInt (5)).toInt = i.toInt + 5 := j_i5 i0 (by omega)
      refine hJ [27] 400 _ _ _ _ _ _ ?_
      conv => whnf
      exact j_use hF (ih (i + Int32.ofInt (5)) h' cn' sn' lw' (by omega) (by omega) (by omega) (by omega) (by omega)) (And.intro rfl (And.intro rfl (And.intro rfl (And.intro rfl (And.intro rfl trivial)))))
    conv => whnf
    refine ⟨_, _, rfl, lw.1.2.2.2.2.2.1, rfl, j_vp (by omega) (by omega), fun v _ => ?_⟩
    conv => whnf
    refine ⟨And.intro (fun _ => ?_) (And.intro (fun _ => ?_) (And.intro (fun _ => ?_) (And.intro (fun _ => ?_) (And.intro (fun _ => ?_) (And.intro (fun _ => ?_) (And.intro (fun _ => ?_) (And.intro (fun _ => ?_) (And.intro (fun _ => ?_) (And.intro (fun _ => ?_) (And.intro (fun _ => ?_) (And.intro (fun _ => ?_) (And.intro (fun _ => ?_) (And.intro (fun _ => ?_) (And.intro (fun _ => ?_) (And.intro (fun _ => ?_) (And.intro (fun _ => ?_) (And.intro (fun _ => ?_) (And.intro (fun _ => ?_) (And.intro (fun _ => ?_) (And.intro (fun _ => ?_) (And.intro (fun _ => ?_) (And.intro (fun _ => ?_) (And.intro (fun _ => ?_) (And.intro (fun _ => ?_) (trivial))))))))))))))))))))))))), fun _ => ?_⟩
    · exact j_use hF (j_turn0 hJ hF hL i0 (by omega) (by omega) (by omega) lw back) (And.intro rfl (And.intro rfl (And.intro rfl (And.intro rfl (And.intro rfl trivial)))))
    · exact j_use hF (j_turn1 hJ hF hL i0 (by omega) (by omega) (by omega) lw back) (And.intro rfl (And.intro rfl (And.intro rfl (And.intro rfl (And.intro rfl trivial)))))
    · exact j_use hF (j_turn2 hJ hF hL i0 (by omega) (by omega) (by omega) lw back) (And.intro rfl (And.intro rfl (And.intro rfl (And.intro rfl (And.intro rfl trivial)))))
    · exact j_use hF (j_turn3 hJ hF hL i0 (by omega) (by omega) (by omega) lw back) (And.intro rfl (And.intro rfl (And.intro rfl (And.intro rfl (And.intro rfl trivial)))))
    · exact j_use hF (j_turn4 hJ hF hL i0 (by omega) (by omega) (by omega) lw back) (And.intro rfl (And.intro rfl (And.intro rfl (And.intro rfl (And.intro rfl trivial)))))
    · exact j_use hF (j_turn5 hJ hF hL i0 (by omega) (by omega) (by omega) lw back) (And.intro rfl (And.intro rfl (And.intro rfl (And.intro rfl (And.intro rfl trivial)))))
    · exact j_use hF (j_turn6 hJ hF hL i0 (by omega) (by omega) (by omega) lw back) (And.intro rfl (And.intro rfl (And.intro rfl (And.intro rfl (And.intro rfl trivial)))))
    · exact j_use hF (j_turn7 hJ hF hL i0 (by omega) (by omega) (by omega) lw back) (And.intro rfl (And.intro rfl (And.intro rfl (And.intro rfl (And.intro rfl trivial)))))
    · exact j_use hF (j_turn8 hJ hF hL i0 (by omega) (by omega) (by omega) lw back) (And.intro rfl (And.intro rfl (And.intro rfl (And.intro rfl (And.intro rfl trivial)))))
    · exact j_use hF (j_turn9 hJ hF hL i0 (by omega) (by omega) (by omega) lw back) (And.intro rfl (And.intro rfl (And.intro rfl (And.intro rfl (And.intro rfl trivial)))))
    · exact j_use hF (j_turn10 hJ hF hL i0 (by omega) (by omega) (by omega) lw back) (And.intro rfl (And.intro rfl (And.intro rfl (And.intro rfl (And.intro rfl trivial)))))
    · exact j_use hF (j_turn11 hJ hF hL i0 (by omega) (by omega) (by omega) lw back) (And.intro rfl (And.intro rfl (And.intro rfl (And.intro rfl (And.intro rfl trivial)))))
    · exact j_use hF (j_turn12 hJ hF hL i0 (by omega) (by omega) (by omega) lw back) (And.intro rfl (And.intro rfl (And.intro rfl (And.intro rfl (And.intro rfl trivial)))))
    · exact j_use hF (j_turn13 hJ hF hL i0 (by omega) (by omega) (by omega) lw back) (And.intro rfl (And.intro rfl (And.intro rfl (And.intro rfl (And.intro rfl trivial)))))
    · exact j_use hF (j_turn14 hJ hF hL i0 (by omega) (by omega) (by omega) lw back) (And.intro rfl (And.intro rfl (And.intro rfl (And.intro rfl (And.intro rfl trivial)))))
    · exact j_use hF (j_turn15 hJ hF hL i0 (by omega) (by omega) (by omega) lw back) (And.intro rfl (And.intro rfl (And.intro rfl (And.intro rfl (And.intro rfl trivial)))))
    · exact j_use hF (j_turn16 hJ hF hL i0 (by omega) (by omega) (by omega) lw back) (And.intro rfl (And.intro rfl (And.intro rfl (And.intro rfl (And.intro rfl trivial)))))
    · exact j_use hF (j_turn17 hJ hF hL i0 (by omega) (by omega) (by omega) lw back) (And.intro rfl (And.intro rfl (And.intro rfl (And.intro rfl (And.intro rfl trivial)))))
    · exact j_use hF (j_turn18 hJ hF hL i0 (by omega) (by omega) (by omega) lw back) (And.intro rfl (And.intro rfl (And.intro rfl (And.intro rfl (And.intro rfl trivial)))))
    · exact j_use hF (j_turn19 hJ hF hL i0 (by omega) (by omega) (by omega) lw back) (And.intro rfl (And.intro rfl (And.intro rfl (And.intro rfl (And.intro rfl trivial)))))
    · exact j_use hF (j_turn20 hJ hF hL i0 (by omega) (by omega) (by omega) lw back) (And.intro rfl (And.intro rfl (And.intro rfl (And.intro rfl (And.intro rfl trivial)))))
    · exact j_use hF (j_turn21 hJ hF hL i0 (by omega) (by omega) (by omega) lw back) (And.intro rfl (And.intro rfl (And.intro rfl (And.intro rfl (And.intro rfl trivial)))))
    · exact j_use hF (j_turn22 hJ hF hL i0 (by omega) (by omega) (by omega) lw back) (And.intro rfl (And.intro rfl (And.intro rfl (And.intro rfl (And.intro rfl trivial)))))
    · exact j_use hF (j_turn23 hJ hF hL i0 (by omega) (by omega) (by omega) lw back) (And.intro rfl (And.intro rfl (And.intro rfl (And.intro rfl (And.intro rfl trivial)))))
    · exact j_use hF (j_turn24 hJ hF hL i0 (by omega) (by omega) (by omega) lw back) (And.intro rfl (And.intro rfl (And.intro rfl (And.intro rfl (And.intro rfl trivial)))))
    · exact j_use hF (back h cn sn lw (by omega) (by omega)) (And.intro rfl (And.intro rfl (And.intro rfl (And.intro rfl (And.intro rfl trivial)))))
