set_option maxHeartbeats 4000000 in
set_option maxRecDepth 20000 in
theorem c_G_countQuarrels {h : j_H} {it : Nat → Nat → Int32} {x : Nat} (hW : j_WF h x) (sc : j_Sc j_sf h it)  : j_Ct 89 4 90 0 0 [j_r (some x)] (j_wi h it) (fun v h' => ∃ it', h' = j_wi h it' ∧ j_Sc j_sf h it' ∧ ∃ r, v = some (j_i r)) j_no := by
  refine j_intro km_89 (Nat.le_of_ble_eq_true rfl) ?_
  intro J hJ hF
  obtain ⟨kx, hG, L0, L1, L2, e0, l0, e1, l1, e2, l2, ap, pn⟩ := id hW
  have b0 := l0.2.1; have b1 := l1.2.1; have b2 := l2.2.1; have d0 := l0.2.2.1; have d1 := l1.2.2.1; have d2 := l2.2.2.1
  refine hJ [4] 400 _ _ _ _ _ _ ?_
  have L4 : ∀ (m : Nat) (v1 : Int32) (v2 : Int32) (it : Nat → Nat → Int32) , j_Sc j_sf h it → 0 ≤ v2.toInt → (2147483647 - v2.toInt) < (m : Int) → J 4 [some (j_r (some x)), some (j_i v1), some (j_i v2), none] [] (j_wi h it) 0 0 := by
    intro m
    induction m with
    | zero => intro v1 v2 it sc hn hm; exact absurd hm (by have := j_ub v2; omega)
    | succ m ih4 =>
      intro v1 v2 it sc hn hm
      have uv1 := j_ub v1; have lv1 := j_lb v1
      have uv2 := j_ub v2; have lv2 := j_lb v2
      refine hJ [4] 400 _ _ _ _ _ _ ?_
      conv => whnf
      refine ⟨_, rfl, kx, fun o3 eo => ?_⟩
      obtain rfl : o3 = some L0 := eo.symm.trans e0
      conv => whnf
      refine ⟨l0.1, rfl, _, _, _, _, _, _, c_AL_size (h := h) l0 sc j_sf_ok, ⟨Nat.le_of_ble_eq_true rfl, Nat.le_of_ble_eq_true rfl, Nat.le_of_ble_eq_true rfl, Nat.le_of_ble_eq_true rfl⟩, fun _ _ z => False.elim z, ?_⟩
      rintro v9 h9 ⟨rfl, rfl⟩
      conv => whnf
      refine ⟨fun c4 => ?_, fun c4 => ?_⟩
      · skip
        conv => whnf
        exact ⟨trivial, ⟨Nat.le_of_ble_eq_true rfl, Nat.le_of_ble_eq_true rfl⟩, _, rfl, sc, _, rfl⟩
      · skip
        conv => whnf
        refine ⟨_, rfl, kx, fun o5 eo => ?_⟩
        obtain rfl : o5 = some L0 := eo.symm.trans e0
        conv => whnf
        refine ⟨l0.1, rfl, _, _, _, _, _, _, c_AL_get (h := h) l0 sc j_sf_ok (by omega) (by omega), ⟨Nat.le_of_ble_eq_true rfl, Nat.le_of_ble_eq_true rfl, Nat.le_of_ble_eq_true rfl, Nat.le_of_ble_eq_true rfl⟩, fun _ _ z => False.elim z, ?_⟩
        rintro v9 h9 ⟨rfl, g6, rfl, kg6, xg6⟩
        conv => whnf
        refine ⟨Or.inr ⟨_, rfl, kg6⟩, ?_⟩
        conv => whnf
        refine ⟨kx, rfl, _, _, _, _, _, _, c_G_earlyOf (h := h) hW sc kg6, ⟨Nat.le_of_ble_eq_true rfl, Nat.le_of_ble_eq_true rfl, Nat.le_of_ble_eq_true rfl, Nat.le_of_ble_eq_true rfl⟩, fun _ _ z => False.elim z, ?_⟩
        rintro v9 h9 ⟨it8, rfl, sit8, r7, rfl⟩
        conv => whnf
        refine ⟨kx, rfl, _, _, _, _, _, _, c_G_lateOf (h := h) hW sit8 kg6, ⟨Nat.le_of_ble_eq_true rfl, Nat.le_of_ble_eq_true rfl, Nat.le_of_ble_eq_true rfl, Nat.le_of_ble_eq_true rfl⟩, fun _ _ z => False.elim z, ?_⟩
        rintro v9 h9 ⟨it10, rfl, sit10, r9, rfl⟩
        have b11 := j_ub r9
        have b12 := j_ub r7
        conv => whnf
        refine ⟨fun c13 => ?_, fun c13 => ?_⟩
        · skip
          conv => whnf
          refine ⟨rfl, _, _, _, _, _, _, c_G_oneIf, ⟨Nat.le_of_ble_eq_true rfl, Nat.le_of_ble_eq_true rfl, Nat.le_of_ble_eq_true rfl, Nat.le_of_ble_eq_true rfl⟩, fun _ _ z => False.elim z, ?_⟩
          rintro v9 h9 ⟨rfl, r14, rfl⟩
          have t15 : (v2 + Int32.ofInt 1).toInt = v2.toInt + 1 := j_inc1 (by omega)
          exact j_use hF (ih4 _ _ _ sit10 (by omega) (by omega)) (And.intro rfl (And.intro rfl (And.intro rfl trivial)))
        · skip
          conv => whnf
          refine ⟨rfl, _, _, _, _, _, _, c_G_oneIf, ⟨Nat.le_of_ble_eq_true rfl, Nat.le_of_ble_eq_true rfl, Nat.le_of_ble_eq_true rfl, Nat.le_of_ble_eq_true rfl⟩, fun _ _ z => False.elim z, ?_⟩
          rintro v9 h9 ⟨rfl, r16, rfl⟩
          have t17 : (v2 + Int32.ofInt 1).toInt = v2.toInt + 1 := j_inc1 (by omega)
          exact j_use hF (ih4 _ _ _ sit10 (by omega) (by omega)) (And.intro rfl (And.intro rfl (And.intro rfl trivial)))
  have q18 : ((Int32.ofInt (0))).toInt = 0 := by decide
  exact j_use hF (L4 4294967296 _ _ _ sc (by omega) (by omega)) (And.intro rfl (And.intro rfl (And.intro rfl trivial)))
set_option maxHeartbeats 4000000 in
set_option maxRecDepth 20000 in
theorem c_G_countMotesEver {h : j_H} {it : Nat → Nat → Int32} {x : Nat} (hW : j_WF h x) (sc : j_Sc j_sf h it)  : j_Ct 86 3 64 0 0 [j_r (some x)] (j_wi h it) (fun v h' => ∃ it', h' = j_wi h it' ∧ j_Sc j_sf h it' ∧ ∃ r, v = some (j_i r)) j_no := by
  refine j_intro km_86 (Nat.le_of_ble_eq_true rfl) ?_
  intro J hJ hF
  obtain ⟨kx, hG, L0, L1, L2, e0, l0, e1, l1, e2, l2, ap, pn⟩ := id hW
  have b0 := l0.2.1; have b1 := l1.2.1; have b2 := l2.2.1; have d0 := l0.2.2.1; have d1 := l1.2.2.1; have d2 := l2.2.2.1
  refine hJ [4] 400 _ _ _ _ _ _ ?_
  have L4 : ∀ (m : Nat) (v1 : Int32) (v2 : Int32) (it : Nat → Nat → Int32) , j_Sc j_sf h it → 0 ≤ v2.toInt → (2147483647 - v2.toInt) < (m : Int) → J 4 [some (j_r (some x)), some (j_i v1), some (j_i v2), none] [] (j_wi h it) 0 0 := by
    intro m
    induction m with
    | zero => intro v1 v2 it sc hn hm; exact absurd hm (by have := j_ub v2; omega)
    | succ m ih4 =>
      intro v1 v2 it sc hn hm
      have uv1 := j_ub v1; have lv1 := j_lb v1
      have uv2 := j_ub v2; have lv2 := j_lb v2
      refine hJ [4] 400 _ _ _ _ _ _ ?_
      conv => whnf
      refine ⟨_, rfl, kx, fun o3 eo => ?_⟩
      obtain rfl : o3 = some L0 := eo.symm.trans e0
      conv => whnf
      refine ⟨l0.1, rfl, _, _, _, _, _, _, c_AL_size (h := h) l0 sc j_sf_ok, ⟨Nat.le_of_ble_eq_true rfl, Nat.le_of_ble_eq_true rfl, Nat.le_of_ble_eq_true rfl, Nat.le_of_ble_eq_true rfl⟩, fun _ _ z => False.elim z, ?_⟩
      rintro v9 h9 ⟨rfl, rfl⟩
      conv => whnf
      refine ⟨fun c4 => ?_, fun c4 => ?_⟩
      · skip
        conv => whnf
        exact ⟨trivial, ⟨Nat.le_of_ble_eq_true rfl, Nat.le_of_ble_eq_true rfl⟩, _, rfl, sc, _, rfl⟩
      · skip
        conv => whnf
        refine ⟨_, rfl, kx, fun o5 eo => ?_⟩
        obtain rfl : o5 = some L0 := eo.symm.trans e0
        conv => whnf
        refine ⟨l0.1, rfl, _, _, _, _, _, _, c_AL_get (h := h) l0 sc j_sf_ok (by omega) (by omega), ⟨Nat.le_of_ble_eq_true rfl, Nat.le_of_ble_eq_true rfl, Nat.le_of_ble_eq_true rfl, Nat.le_of_ble_eq_true rfl⟩, fun _ _ z => False.elim z, ?_⟩
        rintro v9 h9 ⟨rfl, g6, rfl, kg6, xg6⟩
        conv => whnf
        refine ⟨Or.inr ⟨_, rfl, kg6⟩, ?_⟩
        conv => whnf
        refine ⟨_, rfl, kg6, fun o7 eo => ?_⟩
        obtain ⟨b8, eb8, kb8⟩ := hG.1 _ kg6
        obtain rfl : o7 = some b8 := eo.symm.trans eb8
        conv => whnf
        refine ⟨_, rfl, kb8, fun x9 ex9 => ?_⟩
        conv => whnf
        refine ⟨_, rfl, kg6, fun o10 eo => ?_⟩
        obtain ⟨b11, eb11, kb11⟩ := hG.2.1 _ kg6
        obtain rfl : o10 = some b11 := eo.symm.trans eb11
        conv => whnf
        refine ⟨_, rfl, kb11, fun x12 ex12 => ?_⟩
        have t13 : (v2 + Int32.ofInt 1).toInt = v2.toInt + 1 := j_inc1 (by omega)
        exact j_use hF (ih4 _ _ _ sc (by omega) (by omega)) (And.intro rfl (And.intro rfl (And.intro rfl trivial)))
  have q14 : ((Int32.ofInt (0))).toInt = 0 := by decide
  exact j_use hF (L4 4294967296 _ _ _ sc (by omega) (by omega)) (And.intro rfl (And.intro rfl (And.intro rfl trivial)))
set_option maxHeartbeats 4000000 in
set_option maxRecDepth 20000 in
theorem c_G_narrowedEarly {h : j_H} {it : Nat → Nat → Int32} {x : Nat} {z : Nat} (hW : j_WF h x) (sc : j_Sc j_sf h it) (kz : j_kd h z = some (.inl 4)) : j_Ct 119 4 90 0 0 [j_r (some x), j_r (some z)] (j_wi h it) (fun v h' => ∃ it', h' = j_wi h it' ∧ j_Sc j_sf h it' ∧ ∃ r, v = some (j_i r)) j_no := by
  refine j_intro km_119 (Nat.le_of_ble_eq_true rfl) ?_
  intro J hJ hF
  obtain ⟨kx, hG, L0, L1, L2, e0, l0, e1, l1, e2, l2, ap, pn⟩ := id hW
  have b0 := l0.2.1; have b1 := l1.2.1; have b2 := l2.2.1; have d0 := l0.2.2.1; have d1 := l1.2.2.1; have d2 := l2.2.2.1
  refine hJ [10] 400 _ _ _ _ _ _ ?_
  conv => whnf
  refine ⟨kx, rfl, _, _, _, _, _, _, c_G_earlyOf (h := h) hW sc kz, ⟨Nat.le_of_ble_eq_true rfl, Nat.le_of_ble_eq_true rfl, Nat.le_of_ble_eq_true rfl, Nat.le_of_ble_eq_true rfl⟩, fun _ _ z => False.elim z, ?_⟩
  rintro v9 h9 ⟨it2, rfl, sit2, r1, rfl⟩
  have L10 : ∀ (m : Nat) (v3 : Int32) (v4 : Int32) (it : Nat → Nat → Int32) , j_Sc j_sf h it → 0 ≤ v4.toInt → (2147483647 - v4.toInt) < (m : Int) → J 10 [some (j_r (some x)), some (j_r (some z)), some (j_i v3), some (j_i v4), none] [] (j_wi h it) 0 0 := by
    intro m
    induction m with
    | zero => intro v3 v4 it sc hn hm; exact absurd hm (by have := j_ub v4; omega)
    | succ m ih10 =>
      intro v3 v4 it sc hn hm
      have uv3 := j_ub v3; have lv3 := j_lb v3
      have uv4 := j_ub v4; have lv4 := j_lb v4
      refine hJ [10] 400 _ _ _ _ _ _ ?_
      conv => whnf
      refine ⟨_, rfl, kx, fun o5 eo => ?_⟩
      obtain rfl : o5 = some L0 := eo.symm.trans e0
      conv => whnf
      refine ⟨l0.1, rfl, _, _, _, _, _, _, c_AL_size (h := h) l0 sc j_sf_ok, ⟨Nat.le_of_ble_eq_true rfl, Nat.le_of_ble_eq_true rfl, Nat.le_of_ble_eq_true rfl, Nat.le_of_ble_eq_true rfl⟩, fun _ _ z => False.elim z, ?_⟩
      rintro v9 h9 ⟨rfl, rfl⟩
      conv => whnf
      refine ⟨fun c6 => ?_, fun c6 => ?_⟩
      · skip
        conv => whnf
        exact ⟨trivial, ⟨Nat.le_of_ble_eq_true rfl, Nat.le_of_ble_eq_true rfl⟩, _, rfl, sc, _, rfl⟩
      · skip
        conv => whnf
        refine ⟨_, rfl, kx, fun o7 eo => ?_⟩
        obtain rfl : o7 = some L0 := eo.symm.trans e0
        conv => whnf
        refine ⟨l0.1, rfl, _, _, _, _, _, _, c_AL_get (h := h) l0 sc j_sf_ok (by omega) (by omega), ⟨Nat.le_of_ble_eq_true rfl, Nat.le_of_ble_eq_true rfl, Nat.le_of_ble_eq_true rfl, Nat.le_of_ble_eq_true rfl⟩, fun _ _ z => False.elim z, ?_⟩
        rintro v9 h9 ⟨rfl, g8, rfl, kg8, xg8⟩
        conv => whnf
        refine ⟨Or.inr ⟨_, rfl, kg8⟩, ?_⟩
        conv => whnf
        refine ⟨_, rfl, kg8, fun x9 ex9 => ?_⟩
        conv => whnf
        refine ⟨_, rfl, kz, fun x10 ex10 => ?_⟩
        have b11 := j_ub x10
        have b12 := j_ub x9
        conv => whnf
        refine ⟨fun c13 => ?_, fun c13 => ?_⟩
        · skip
          have t14 : (v4 + Int32.ofInt 1).toInt = v4.toInt + 1 := j_inc1 (by omega)
          exact j_use hF (ih10 _ _ _ sc (by omega) (by omega)) (And.intro rfl (And.intro rfl (And.intro rfl (And.intro rfl trivial))))
        · skip
          conv => whnf
          refine ⟨kx, rfl, _, _, _, _, _, _, c_G_earlyOf (h := h) hW sc kg8, ⟨Nat.le_of_ble_eq_true rfl, Nat.le_of_ble_eq_true rfl, Nat.le_of_ble_eq_true rfl, Nat.le_of_ble_eq_true rfl⟩, fun _ _ z => False.elim z, ?_⟩
          rintro v9 h9 ⟨it16, rfl, sit16, r15, rfl⟩
          conv => whnf
          refine ⟨⟨Nat.le_of_ble_eq_true rfl, Nat.le_of_ble_eq_true rfl, Nat.le_of_ble_eq_true rfl, Nat.le_of_ble_eq_true rfl⟩, ?_⟩
          have t17 : (v4 + Int32.ofInt 1).toInt = v4.toInt + 1 := j_inc1 (by omega)
          exact j_use hF (ih10 _ _ _ sit16 (by omega) (by omega)) (And.intro rfl (And.intro rfl (And.intro rfl (And.intro rfl trivial))))
  have q18 : ((Int32.ofInt (0))).toInt = 0 := by decide
  exact j_use hF (L10 4294967296 _ _ _ sit2 (by omega) (by omega)) (And.intro rfl (And.intro rfl (And.intro rfl (And.intro rfl trivial))))
set_option maxHeartbeats 4000000 in
set_option maxRecDepth 20000 in
theorem c_G_narrowedLate {h : j_H} {it : Nat → Nat → Int32} {x : Nat} {z : Nat} (hW : j_WF h x) (sc : j_Sc j_sf h it) (kz : j_kd h z = some (.inl 4)) : j_Ct 120 4 90 0 0 [j_r (some x), j_r (some z)] (j_wi h it) (fun v h' => ∃ it', h' = j_wi h it' ∧ j_Sc j_sf h it' ∧ ∃ r, v = some (j_i r)) j_no := by
  refine j_intro km_120 (Nat.le_of_ble_eq_true rfl) ?_
  intro J hJ hF
  obtain ⟨kx, hG, L0, L1, L2, e0, l0, e1, l1, e2, l2, ap, pn⟩ := id hW
  have b0 := l0.2.1; have b1 := l1.2.1; have b2 := l2.2.1; have d0 := l0.2.2.1; have d1 := l1.2.2.1; have d2 := l2.2.2.1
  refine hJ [10] 400 _ _ _ _ _ _ ?_
  conv => whnf
  refine ⟨kx, rfl, _, _, _, _, _, _, c_G_lateOf (h := h) hW sc kz, ⟨Nat.le_of_ble_eq_true rfl, Nat.le_of_ble_eq_true rfl, Nat.le_of_ble_eq_true rfl, Nat.le_of_ble_eq_true rfl⟩, fun _ _ z => False.elim z, ?_⟩
  rintro v9 h9 ⟨it2, rfl, sit2, r1, rfl⟩
  have L10 : ∀ (m : Nat) (v3 : Int32) (v4 : Int32) (it : Nat → Nat → Int32) , j_Sc j_sf h it → 0 ≤ v4.toInt → (2147483647 - v4.toInt) < (m : Int) → J 10 [some (j_r (some x)), some (j_r (some z)), some (j_i v3), some (j_i v4), none] [] (j_wi h it) 0 0 := by
    intro m
    induction m with
    | zero => intro v3 v4 it sc hn hm; exact absurd hm (by have := j_ub v4; omega)
    | succ m ih10 =>
      intro v3 v4 it sc hn hm
      have uv3 := j_ub v3; have lv3 := j_lb v3
      have uv4 := j_ub v4; have lv4 := j_lb v4
      refine hJ [10] 400 _ _ _ _ _ _ ?_
      conv => whnf
      refine ⟨_, rfl, kx, fun o5 eo => ?_⟩
      obtain rfl : o5 = some L0 := eo.symm.trans e0
      conv => whnf
      refine ⟨l0.1, rfl, _, _, _, _, _, _, c_AL_size (h := h) l0 sc j_sf_ok, ⟨Nat.le_of_ble_eq_true rfl, Nat.le_of_ble_eq_true rfl, Nat.le_of_ble_eq_true rfl, Nat.le_of_ble_eq_true rfl⟩, fun _ _ z => False.elim z, ?_⟩
      rintro v9 h9 ⟨rfl, rfl⟩
      conv => whnf
      refine ⟨fun c6 => ?_, fun c6 => ?_⟩
      · skip
        conv => whnf
        exact ⟨trivial, ⟨Nat.le_of_ble_eq_true rfl, Nat.le_of_ble_eq_true rfl⟩, _, rfl, sc, _, rfl⟩
      · skip
        conv => whnf
        refine ⟨_, rfl, kx, fun o7 eo => ?_⟩
        obtain rfl : o7 = some L0 := eo.symm.trans e0
        conv => whnf
        refine ⟨l0.1, rfl, _, _, _, _, _, _, c_AL_get (h := h) l0 sc j_sf_ok (by omega) (by omega), ⟨Nat.le_of_ble_eq_true rfl, Nat.le_of_ble_eq_true rfl, Nat.le_of_ble_eq_true rfl, Nat.le_of_ble_eq_true rfl⟩, fun _ _ z => False.elim z, ?_⟩
        rintro v9 h9 ⟨rfl, g8, rfl, kg8, xg8⟩
        conv => whnf
        refine ⟨Or.inr ⟨_, rfl, kg8⟩, ?_⟩
        conv => whnf
        refine ⟨_, rfl, kg8, fun x9 ex9 => ?_⟩
        conv => whnf
        refine ⟨_, rfl, kz, fun x10 ex10 => ?_⟩
        have b11 := j_ub x10
        have b12 := j_ub x9
        conv => whnf
        refine ⟨fun c13 => ?_, fun c13 => ?_⟩
        · skip
          have t14 : (v4 + Int32.ofInt 1).toInt = v4.toInt + 1 := j_inc1 (by omega)
          exact j_use hF (ih10 _ _ _ sc (by omega) (by omega)) (And.intro rfl (And.intro rfl (And.intro rfl (And.intro rfl trivial))))
        · skip
          conv => whnf
          refine ⟨kx, rfl, _, _, _, _, _, _, c_G_lateOf (h := h) hW sc kg8, ⟨Nat.le_of_ble_eq_true rfl, Nat.le_of_ble_eq_true rfl, Nat.le_of_ble_eq_true rfl, Nat.le_of_ble_eq_true rfl⟩, fun _ _ z => False.elim z, ?_⟩
          rintro v9 h9 ⟨it16, rfl, sit16, r15, rfl⟩
          conv => whnf
          refine ⟨⟨Nat.le_of_ble_eq_true rfl, Nat.le_of_ble_eq_true rfl, Nat.le_of_ble_eq_true rfl, Nat.le_of_ble_eq_true rfl⟩, ?_⟩
          have t17 : (v4 + Int32.ofInt 1).toInt = v4.toInt + 1 := j_inc1 (by omega)
          exact j_use hF (ih10 _ _ _ sit16 (by omega) (by omega)) (And.intro rfl (And.intro rfl (And.intro rfl (And.intro rfl trivial))))
  have q18 : ((Int32.ofInt (0))).toInt = 0 := by decide
  exact j_use hF (L10 4294967296 _ _ _ sit2 (by omega) (by omega)) (And.intro rfl (And.intro rfl (And.intro rfl (And.intro rfl trivial))))
set_option maxHeartbeats 4000000 in
set_option maxRecDepth 20000 in
theorem c_G_allGrains {h : j_H} {it : Nat → Nat → Int32} {x : Nat} (hW : j_WF h x) (sc : j_Sc j_sf h it)  : j_Ct 80 1 20 0 0 [j_r (some x)] (j_wi h it) (fun v h' => ∃ it', h' = j_wi h it' ∧ j_Sc j_sf h it' ∧ ∃ r, v = some (j_i r)) j_no := by
  refine j_intro km_80 (Nat.le_of_ble_eq_true rfl) ?_
  intro J hJ hF
  obtain ⟨kx, hG, L0, L1, L2, e0, l0, e1, l1, e2, l2, ap, pn⟩ := id hW
  have b0 := l0.2.1; have b1 := l1.2.1; have b2 := l2.2.1; have d0 := l0.2.2.1; have d1 := l1.2.2.1; have d2 := l2.2.2.1
  refine hJ [] 400 _ _ _ _ _ _ ?_
  conv => whnf
  refine ⟨_, rfl, kx, fun o1 eo => ?_⟩
  obtain rfl : o1 = some L0 := eo.symm.trans e0
  conv => whnf
  refine ⟨l0.1, rfl, _, _, _, _, _, _, c_AL_size (h := h) l0 sc j_sf_ok, ⟨Nat.le_of_ble_eq_true rfl, Nat.le_of_ble_eq_true rfl, Nat.le_of_ble_eq_true rfl, Nat.le_of_ble_eq_true rfl⟩, fun _ _ z => False.elim z, ?_⟩
  rintro v9 h9 ⟨rfl, rfl⟩
  conv => whnf
  exact ⟨trivial, ⟨Nat.le_of_ble_eq_true rfl, Nat.le_of_ble_eq_true rfl⟩, _, rfl, sc, _, rfl⟩
set_option maxHeartbeats 4000000 in
set_option maxRecDepth 20000 in
theorem c_G_agree {h : j_H} {it : Nat → Nat → Int32} {x : Nat} {a : Int32} (hW : j_WF h x) (sc : j_Sc j_sf h it)  : j_Ct 79 3 64 0 0 [j_r (some x), j_i a] (j_wi h it) (fun v h' => ∃ it', h' = j_wi h it' ∧ j_Sc j_sf h it' ∧ ∃ r, v = some (j_i r) ∧ (r = 0 ∨ r = 1)) j_no := by
  refine j_intro km_79 (Nat.le_of_ble_eq_true rfl) ?_
  intro J hJ hF
  obtain ⟨kx, hG, L0, L1, L2, e0, l0, e1, l1, e2, l2, ap, pn⟩ := id hW
  have b0 := l0.2.1; have b1 := l1.2.1; have b2 := l2.2.1; have d0 := l0.2.2.1; have d1 := l1.2.2.1; have d2 := l2.2.2.1
  refine hJ [2] 400 _ _ _ _ _ _ ?_
  have L2 : ∀ (m : Nat) (v1 : Int32) (it : Nat → Nat → Int32) , j_Sc j_sf h it → 0 ≤ v1.toInt → (2147483647 - v1.toInt) < (m : Int) → J 2 [some (j_r (some x)), some (j_i a), some (j_i v1), none] [] (j_wi h it) 0 0 := by
    intro m
    induction m with
    | zero => intro v1 it sc hn hm; exact absurd hm (by have := j_ub v1; omega)
    | succ m ih2 =>
      intro v1 it sc hn hm
      have uv1 := j_ub v1; have lv1 := j_lb v1
      refine hJ [2] 400 _ _ _ _ _ _ ?_
      conv => whnf
      refine ⟨_, rfl, kx, fun o2 eo => ?_⟩
      obtain rfl : o2 = some L0 := eo.symm.trans e0
      conv => whnf
      refine ⟨l0.1, rfl, _, _, _, _, _, _, c_AL_size (h := h) l0 sc j_sf_ok, ⟨Nat.le_of_ble_eq_true rfl, Nat.le_of_ble_eq_true rfl, Nat.le_of_ble_eq_true rfl, Nat.le_of_ble_eq_true rfl⟩, fun _ _ z => False.elim z, ?_⟩
      rintro v9 h9 ⟨rfl, rfl⟩
      conv => whnf
      refine ⟨fun c3 => ?_, fun c3 => ?_⟩
      · skip
        conv => whnf
        exact ⟨Or.inr rfl, ⟨Nat.le_of_ble_eq_true rfl, Nat.le_of_ble_eq_true rfl⟩, _, rfl, sc, _, rfl, Or.inr rfl⟩
      · skip
        conv => whnf
        refine ⟨_, rfl, kx, fun o4 eo => ?_⟩
        obtain rfl : o4 = some L0 := eo.symm.trans e0
        conv => whnf
        refine ⟨l0.1, rfl, _, _, _, _, _, _, c_AL_get (h := h) l0 sc j_sf_ok (by omega) (by omega), ⟨Nat.le_of_ble_eq_true rfl, Nat.le_of_ble_eq_true rfl, Nat.le_of_ble_eq_true rfl, Nat.le_of_ble_eq_true rfl⟩, fun _ _ z => False.elim z, ?_⟩
        rintro v9 h9 ⟨rfl, g5, rfl, kg5, xg5⟩
        conv => whnf
        refine ⟨Or.inr ⟨_, rfl, kg5⟩, ?_⟩
        conv => whnf
        refine ⟨kg5, rfl, _, _, _, _, _, _, c_Grain_bit kg5, ⟨Nat.le_of_ble_eq_true rfl, Nat.le_of_ble_eq_true rfl, Nat.le_of_ble_eq_true rfl, Nat.le_of_ble_eq_true rfl⟩, fun _ _ z => False.elim z, ?_⟩
        rintro v9 h9 ⟨rfl, r6, rfl⟩
        conv => whnf
        refine ⟨fun c7 => ?_, fun c7 => ?_⟩
        · skip
          have t8 : (v1 + Int32.ofInt 1).toInt = v1.toInt + 1 := j_inc1 (by omega)
          exact j_use hF (ih2 _ _ sc (by omega) (by omega)) (And.intro rfl (And.intro rfl (And.intro rfl trivial)))
        · skip
          conv => whnf
          refine ⟨_, rfl, kg5, fun x9 ex9 => ?_⟩
          conv => whnf
          refine ⟨fun c10 => ?_, fun c10 => ?_⟩
          · skip
            have t11 : (v1 + Int32.ofInt 1).toInt = v1.toInt + 1 := j_inc1 (by omega)
            exact j_use hF (ih2 _ _ sc (by omega) (by omega)) (And.intro rfl (And.intro rfl (And.intro rfl trivial)))
          · skip
            conv => whnf
            exact ⟨Or.inl rfl, ⟨Nat.le_of_ble_eq_true rfl, Nat.le_of_ble_eq_true rfl⟩, _, rfl, sc, _, rfl, Or.inl rfl⟩
  have q12 : ((Int32.ofInt (0))).toInt = 0 := by decide
  exact j_use hF (L2 4294967296 _ _ sc (by omega) (by omega)) (And.intro rfl (And.intro rfl (And.intro rfl trivial)))
set_option maxHeartbeats 4000000 in
set_option maxRecDepth 20000 in
theorem c_G_markIfOver {h : j_H} {it : Nat → Nat → Int32} {y : Nat} {z : Nat} (hG : j_G h) (sc : j_Sc j_sf h it) (ky : j_kd h y = some (.inl 4)) (kz : j_kd h z = some (.inl 4)) : j_Ct 116 1 20 0 0 [j_r (some y), j_r (some z)] (j_wi h it) (fun v h' => ∃ it', h' = j_wi h it' ∧ j_Sc j_sf h it' ∧ v = none) j_no := by
  refine j_intro km_116 (Nat.le_of_ble_eq_true rfl) ?_
  intro J hJ hF
  refine hJ [] 400 _ _ _ _ _ _ ?_
  conv => whnf
  refine ⟨_, rfl, ky, fun x1 ex1 => ?_⟩
  conv => whnf
  refine ⟨_, rfl, kz, fun x2 ex2 => ?_⟩
  have b3 := j_ub x2
  have b4 := j_ub x1
  conv => whnf
  refine ⟨fun c5 => ?_, fun c5 => ?_⟩
  · skip
    conv => whnf
    exact ⟨rfl, ⟨Nat.le_of_ble_eq_true rfl, Nat.le_of_ble_eq_true rfl⟩, _, rfl, sc, rfl⟩
  · skip
    conv => whnf
    refine ⟨_, rfl, ky, fun x6 ex6 => ?_⟩
    conv => whnf
    refine ⟨_, rfl, kz, fun x7 ex7 => ?_⟩
    have b8 := j_ub x7
    have b9 := j_ub x6
    conv => whnf
    refine ⟨fun c10 => ?_, fun c10 => ?_⟩
    · skip
      conv => whnf
      exact ⟨rfl, ⟨Nat.le_of_ble_eq_true rfl, Nat.le_of_ble_eq_true rfl⟩, _, rfl, sc, rfl⟩
    · skip
      conv => whnf
      refine ⟨_, rfl, ky, fun x11 ex11 => ?_⟩
      conv => whnf
      refine ⟨kz, rfl, _, _, _, _, _, _, c_Grain_bit kz, ⟨Nat.le_of_ble_eq_true rfl, Nat.le_of_ble_eq_true rfl, Nat.le_of_ble_eq_true rfl, Nat.le_of_ble_eq_true rfl⟩, fun _ _ z => False.elim z, ?_⟩
      rintro v9 h9 ⟨rfl, r12, rfl⟩
      conv => whnf
      refine ⟨_, rfl, ky, ?_⟩
      conv => whnf
      exact ⟨rfl, ⟨Nat.le_of_ble_eq_true rfl, Nat.le_of_ble_eq_true rfl⟩, _, rfl, (j_Sc.put sc ky (show j_sf 4 8 = true from rfl)), rfl⟩
