set_option maxHeartbeats 4000000 in
set_option maxRecDepth 20000 in
theorem c_G_countRunsThatStand {h : j_H} {it : Nat → Nat → Int32} {x : Nat} (hW : j_WF h x) (sc : j_Sc j_sf h it)  : j_Ct 91 3 64 0 0 [j_r (some x)] (j_wi h it) (fun v h' => ∃ it', h' = j_wi h it' ∧ j_Sc j_sf h it' ∧ ∃ r, v = some (j_i r)) j_no := by
  refine j_intro km_91 (Nat.le_of_ble_eq_true rfl) ?_
  intro J hJ hF
  obtain ⟨kx, hG, L0, L1, L2, e0, l0, e1, l1, e2, l2, ap, pn⟩ := id hW
  have b0 := l0.2.1; have b1 := l1.2.1; have b2 := l2.2.1; have d0 := l0.2.2.1; have d1 := l1.2.2.1; have d2 := l2.2.2.1
  refine hJ [4] 400 _ _ _ _ _ _ ?_
  have L4 : ∀ (m : Nat) (v1 : Int32) (v2 : Int32) (it : Nat → Nat → Int32) , j_Sc j_sf h it → 0 ≤ v2.toInt → (2147483647 - v2.toInt) < (m : Int) → J 4 [some (j_r (some x)), some (j_i v1), some (j_i v2)] [] (j_wi h it) 0 0 := by
    intro m
    induction m with
    | zero => intro v1 v2 it sc hn hm; exact absurd hm (by have := j_ub v2; omega)
    | succ m ih4 =>
      intro v1 v2 it sc hn hm
      have uv1 := j_ub v1; have lv1 := j_lb v1
      have uv2 := j_ub v2; have lv2 := j_lb v2
      refine hJ [4] 400 _ _ _ _ _ _ ?_
      conv => whnf
      refine ⟨_, rfl, kx, fun o3 eo => ?_⟩
      obtain rfl : o3 = some L1 := eo.symm.trans e1
      conv => whnf
      refine ⟨l1.1, rfl, _, _, _, _, _, _, c_AL_size (h := h) l1 sc j_sf_ok, ⟨Nat.le_of_ble_eq_true rfl, Nat.le_of_ble_eq_true rfl, Nat.le_of_ble_eq_true rfl, Nat.le_of_ble_eq_true rfl⟩, fun _ _ z => False.elim z, ?_⟩
      rintro v9 h9 ⟨rfl, rfl⟩
      conv => whnf
      refine ⟨fun c4 => ?_, fun c4 => ?_⟩
      · skip
        conv => whnf
        exact ⟨trivial, ⟨Nat.le_of_ble_eq_true rfl, Nat.le_of_ble_eq_true rfl⟩, _, rfl, sc, _, rfl⟩
      · skip
        conv => whnf
        refine ⟨_, rfl, kx, fun o5 eo => ?_⟩
        obtain rfl : o5 = some L1 := eo.symm.trans e1
        conv => whnf
        refine ⟨l1.1, rfl, _, _, _, _, _, _, c_AL_get (h := h) l1 sc j_sf_ok (by omega) (by omega), ⟨Nat.le_of_ble_eq_true rfl, Nat.le_of_ble_eq_true rfl, Nat.le_of_ble_eq_true rfl, Nat.le_of_ble_eq_true rfl⟩, fun _ _ z => False.elim z, ?_⟩
        rintro v9 h9 ⟨rfl, g6, rfl, kg6, xg6⟩
        conv => whnf
        refine ⟨Or.inr ⟨_, rfl, kg6⟩, ?_⟩
        conv => whnf
        refine ⟨_, rfl, kg6, fun x7 ex7 => ?_⟩
        conv => whnf
        refine ⟨rfl, _, _, _, _, _, _, c_G_oneIf, ⟨Nat.le_of_ble_eq_true rfl, Nat.le_of_ble_eq_true rfl, Nat.le_of_ble_eq_true rfl, Nat.le_of_ble_eq_true rfl⟩, fun _ _ z => False.elim z, ?_⟩
        rintro v9 h9 ⟨rfl, r8, rfl⟩
        have t9 : (v2 + Int32.ofInt 1).toInt = v2.toInt + 1 := j_inc1 (by omega)
        exact j_use hF (ih4 _ _ _ sc (by omega) (by omega)) (And.intro rfl (And.intro rfl (And.intro rfl trivial)))
  have q10 : ((Int32.ofInt (0))).toInt = 0 := by decide
  exact j_use hF (L4 4294967296 _ _ _ sc (by omega) (by omega)) (And.intro rfl (And.intro rfl (And.intro rfl trivial)))
set_option maxHeartbeats 4000000 in
set_option maxRecDepth 20000 in
theorem c_G_countRunsLabelled {h : j_H} {it : Nat → Nat → Int32} {x : Nat} {z : Nat} (hW : j_WF h x) (sc : j_Sc j_sf h it) (kz : j_kd h z = some (.inl 4)) : j_Ct 90 3 64 0 0 [j_r (some x), j_r (some z)] (j_wi h it) (fun v h' => ∃ it', h' = j_wi h it' ∧ j_Sc j_sf h it' ∧ ∃ r, v = some (j_i r)) j_no := by
  refine j_intro km_90 (Nat.le_of_ble_eq_true rfl) ?_
  intro J hJ hF
  obtain ⟨kx, hG, L0, L1, L2, e0, l0, e1, l1, e2, l2, ap, pn⟩ := id hW
  have b0 := l0.2.1; have b1 := l1.2.1; have b2 := l2.2.1; have d0 := l0.2.2.1; have d1 := l1.2.2.1; have d2 := l2.2.2.1
  refine hJ [4] 400 _ _ _ _ _ _ ?_
  have L4 : ∀ (m : Nat) (v1 : Int32) (v2 : Int32) (it : Nat → Nat → Int32) , j_Sc j_sf h it → 0 ≤ v2.toInt → (2147483647 - v2.toInt) < (m : Int) → J 4 [some (j_r (some x)), some (j_r (some z)), some (j_i v1), some (j_i v2), none] [] (j_wi h it) 0 0 := by
    intro m
    induction m with
    | zero => intro v1 v2 it sc hn hm; exact absurd hm (by have := j_ub v2; omega)
    | succ m ih4 =>
      intro v1 v2 it sc hn hm
      have uv1 := j_ub v1; have lv1 := j_lb v1
      have uv2 := j_ub v2; have lv2 := j_lb v2
      refine hJ [4] 400 _ _ _ _ _ _ ?_
      conv => whnf
      refine ⟨_, rfl, kx, fun o3 eo => ?_⟩
      obtain rfl : o3 = some L1 := eo.symm.trans e1
      conv => whnf
      refine ⟨l1.1, rfl, _, _, _, _, _, _, c_AL_size (h := h) l1 sc j_sf_ok, ⟨Nat.le_of_ble_eq_true rfl, Nat.le_of_ble_eq_true rfl, Nat.le_of_ble_eq_true rfl, Nat.le_of_ble_eq_true rfl⟩, fun _ _ z => False.elim z, ?_⟩
      rintro v9 h9 ⟨rfl, rfl⟩
      conv => whnf
      refine ⟨fun c4 => ?_, fun c4 => ?_⟩
      · skip
        conv => whnf
        exact ⟨trivial, ⟨Nat.le_of_ble_eq_true rfl, Nat.le_of_ble_eq_true rfl⟩, _, rfl, sc, _, rfl⟩
      · skip
        conv => whnf
        refine ⟨_, rfl, kx, fun o5 eo => ?_⟩
        obtain rfl : o5 = some L1 := eo.symm.trans e1
        conv => whnf
        refine ⟨l1.1, rfl, _, _, _, _, _, _, c_AL_get (h := h) l1 sc j_sf_ok (by omega) (by omega), ⟨Nat.le_of_ble_eq_true rfl, Nat.le_of_ble_eq_true rfl, Nat.le_of_ble_eq_true rfl, Nat.le_of_ble_eq_true rfl⟩, fun _ _ z => False.elim z, ?_⟩
        rintro v9 h9 ⟨rfl, g6, rfl, kg6, xg6⟩
        conv => whnf
        refine ⟨Or.inr ⟨_, rfl, kg6⟩, ?_⟩
        conv => whnf
        refine ⟨_, rfl, kg6, fun x7 ex7 => ?_⟩
        conv => whnf
        refine ⟨fun c8 => ?_, fun c8 => ?_⟩
        · skip
          conv => whnf
          refine ⟨rfl, _, _, _, _, _, _, c_G_oneIf, ⟨Nat.le_of_ble_eq_true rfl, Nat.le_of_ble_eq_true rfl, Nat.le_of_ble_eq_true rfl, Nat.le_of_ble_eq_true rfl⟩, fun _ _ z => False.elim z, ?_⟩
          rintro v9 h9 ⟨rfl, r9, rfl⟩
          have t10 : (v2 + Int32.ofInt 1).toInt = v2.toInt + 1 := j_inc1 (by omega)
          exact j_use hF (ih4 _ _ _ sc (by omega) (by omega)) (And.intro rfl (And.intro rfl (And.intro rfl (And.intro rfl trivial))))
        · skip
          conv => whnf
          refine ⟨_, rfl, kg6, fun o11 eo => ?_⟩
          obtain ⟨b12, eb12, kb12⟩ := hG.2.2.1 _ kg6
          obtain rfl : o11 = some b12 := eo.symm.trans eb12
          conv => whnf
          refine ⟨fun c13 => ?_, fun c13 => ?_⟩
          · skip
            conv => whnf
            refine ⟨rfl, _, _, _, _, _, _, c_G_oneIf, ⟨Nat.le_of_ble_eq_true rfl, Nat.le_of_ble_eq_true rfl, Nat.le_of_ble_eq_true rfl, Nat.le_of_ble_eq_true rfl⟩, fun _ _ z => False.elim z, ?_⟩
            rintro v9 h9 ⟨rfl, r14, rfl⟩
            have t15 : (v2 + Int32.ofInt 1).toInt = v2.toInt + 1 := j_inc1 (by omega)
            exact j_use hF (ih4 _ _ _ sc (by omega) (by omega)) (And.intro rfl (And.intro rfl (And.intro rfl (And.intro rfl trivial))))
          · skip
            conv => whnf
            refine ⟨rfl, _, _, _, _, _, _, c_G_oneIf, ⟨Nat.le_of_ble_eq_true rfl, Nat.le_of_ble_eq_true rfl, Nat.le_of_ble_eq_true rfl, Nat.le_of_ble_eq_true rfl⟩, fun _ _ z => False.elim z, ?_⟩
            rintro v9 h9 ⟨rfl, r16, rfl⟩
            have t17 : (v2 + Int32.ofInt 1).toInt = v2.toInt + 1 := j_inc1 (by omega)
            exact j_use hF (ih4 _ _ _ sc (by omega) (by omega)) (And.intro rfl (And.intro rfl (And.intro rfl (And.intro rfl trivial))))
  have q18 : ((Int32.ofInt (0))).toInt = 0 := by decide
  exact j_use hF (L4 4294967296 _ _ _ sc (by omega) (by omega)) (And.intro rfl (And.intro rfl (And.intro rfl (And.intro rfl trivial))))
set_option maxHeartbeats 4000000 in
set_option maxRecDepth 20000 in
theorem c_G_countPrintsThatStand {h : j_H} {it : Nat → Nat → Int32} {x : Nat} (hW : j_WF h x) (sc : j_Sc j_sf h it)  : j_Ct 88 3 64 0 0 [j_r (some x)] (j_wi h it) (fun v h' => ∃ it', h' = j_wi h it' ∧ j_Sc j_sf h it' ∧ ∃ r, v = some (j_i r)) j_no := by
  refine j_intro km_88 (Nat.le_of_ble_eq_true rfl) ?_
  intro J hJ hF
  obtain ⟨kx, hG, L0, L1, L2, e0, l0, e1, l1, e2, l2, ap, pn⟩ := id hW
  have b0 := l0.2.1; have b1 := l1.2.1; have b2 := l2.2.1; have d0 := l0.2.2.1; have d1 := l1.2.2.1; have d2 := l2.2.2.1
  refine hJ [4] 400 _ _ _ _ _ _ ?_
  have L4 : ∀ (m : Nat) (v1 : Int32) (v2 : Int32) (it : Nat → Nat → Int32) , j_Sc j_sf h it → 0 ≤ v2.toInt → (2147483647 - v2.toInt) < (m : Int) → J 4 [some (j_r (some x)), some (j_i v1), some (j_i v2)] [] (j_wi h it) 0 0 := by
    intro m
    induction m with
    | zero => intro v1 v2 it sc hn hm; exact absurd hm (by have := j_ub v2; omega)
    | succ m ih4 =>
      intro v1 v2 it sc hn hm
      have uv1 := j_ub v1; have lv1 := j_lb v1
      have uv2 := j_ub v2; have lv2 := j_lb v2
      refine hJ [4] 400 _ _ _ _ _ _ ?_
      conv => whnf
      refine ⟨_, rfl, kx, fun o3 eo => ?_⟩
      obtain rfl : o3 = some L2 := eo.symm.trans e2
      conv => whnf
      refine ⟨l2.1, rfl, _, _, _, _, _, _, c_AL_size (h := h) l2 sc j_sf_ok, ⟨Nat.le_of_ble_eq_true rfl, Nat.le_of_ble_eq_true rfl, Nat.le_of_ble_eq_true rfl, Nat.le_of_ble_eq_true rfl⟩, fun _ _ z => False.elim z, ?_⟩
      rintro v9 h9 ⟨rfl, rfl⟩
      conv => whnf
      refine ⟨fun c4 => ?_, fun c4 => ?_⟩
      · skip
        conv => whnf
        exact ⟨trivial, ⟨Nat.le_of_ble_eq_true rfl, Nat.le_of_ble_eq_true rfl⟩, _, rfl, sc, _, rfl⟩
      · skip
        conv => whnf
        refine ⟨_, rfl, kx, fun o5 eo => ?_⟩
        obtain rfl : o5 = some L2 := eo.symm.trans e2
        conv => whnf
        refine ⟨l2.1, rfl, _, _, _, _, _, _, c_AL_get (h := h) l2 sc j_sf_ok (by omega) (by omega), ⟨Nat.le_of_ble_eq_true rfl, Nat.le_of_ble_eq_true rfl, Nat.le_of_ble_eq_true rfl, Nat.le_of_ble_eq_true rfl⟩, fun _ _ z => False.elim z, ?_⟩
        rintro v9 h9 ⟨rfl, g6, rfl, kg6, xg6⟩
        conv => whnf
        refine ⟨Or.inr ⟨_, rfl, kg6⟩, ?_⟩
        conv => whnf
        refine ⟨kx, rfl, _, _, _, _, _, _, c_G_allStandFrom (h := h) hW sc (Or.inr ⟨_, rfl, kg6⟩), ⟨Nat.le_of_ble_eq_true rfl, Nat.le_of_ble_eq_true rfl, Nat.le_of_ble_eq_true rfl, Nat.le_of_ble_eq_true rfl⟩, fun _ _ z => False.elim z, ?_⟩
        rintro v9 h9 ⟨it8, rfl, sit8, r7, rfl, zr7⟩
        conv => whnf
        refine ⟨rfl, _, _, _, _, _, _, c_G_oneIf, ⟨Nat.le_of_ble_eq_true rfl, Nat.le_of_ble_eq_true rfl, Nat.le_of_ble_eq_true rfl, Nat.le_of_ble_eq_true rfl⟩, fun _ _ z => False.elim z, ?_⟩
        rintro v9 h9 ⟨rfl, r9, rfl⟩
        have t10 : (v2 + Int32.ofInt 1).toInt = v2.toInt + 1 := j_inc1 (by omega)
        exact j_use hF (ih4 _ _ _ sit8 (by omega) (by omega)) (And.intro rfl (And.intro rfl (And.intro rfl trivial)))
  have q11 : ((Int32.ofInt (0))).toInt = 0 := by decide
  exact j_use hF (L4 4294967296 _ _ _ sc (by omega) (by omega)) (And.intro rfl (And.intro rfl (And.intro rfl trivial)))
set_option maxHeartbeats 4000000 in
set_option maxRecDepth 20000 in
theorem c_G_earlyOf {h : j_H} {it : Nat → Nat → Int32} {x : Nat} {z : Nat} {a : Int32} {b : Int32} (hW : j_WF h x) (sc : j_Sc j_sf h it) (kz : j_kd h z = some (.inl 4)) : j_Ct 97 3 64 0 0 [j_r (some x), j_r (some z), j_i a, j_i b] (j_wi h it) (fun v h' => ∃ it', h' = j_wi h it' ∧ j_Sc j_sf h it' ∧ ∃ r, v = some (j_i r)) j_no := by
  refine j_intro km_97 (Nat.le_of_ble_eq_true rfl) ?_
  intro J hJ hF
  obtain ⟨kx, hG, L0, L1, L2, e0, l0, e1, l1, e2, l2, ap, pn⟩ := id hW
  have b0 := l0.2.1; have b1 := l1.2.1; have b2 := l2.2.1; have d0 := l0.2.2.1; have d1 := l1.2.2.1; have d2 := l2.2.2.1
  refine hJ [6] 400 _ _ _ _ _ _ ?_
  have L6 : ∀ (m : Nat) (v1 : Int32) (v2 : Int32) (it : Nat → Nat → Int32) , j_Sc j_sf h it → 0 ≤ v2.toInt → (2147483647 - v2.toInt) < (m : Int) → J 6 [some (j_r (some x)), some (j_r (some z)), some (j_i a), some (j_i b), some (j_i v1), some (j_i v2), none] [] (j_wi h it) 0 0 := by
    intro m
    induction m with
    | zero => intro v1 v2 it sc hn hm; exact absurd hm (by have := j_ub v2; omega)
    | succ m ih6 =>
      intro v1 v2 it sc hn hm
      have uv1 := j_ub v1; have lv1 := j_lb v1
      have uv2 := j_ub v2; have lv2 := j_lb v2
      refine hJ [6] 400 _ _ _ _ _ _ ?_
      conv => whnf
      refine ⟨_, rfl, kx, fun o3 eo => ?_⟩
      obtain rfl : o3 = some L1 := eo.symm.trans e1
      conv => whnf
      refine ⟨l1.1, rfl, _, _, _, _, _, _, c_AL_size (h := h) l1 sc j_sf_ok, ⟨Nat.le_of_ble_eq_true rfl, Nat.le_of_ble_eq_true rfl, Nat.le_of_ble_eq_true rfl, Nat.le_of_ble_eq_true rfl⟩, fun _ _ z => False.elim z, ?_⟩
      rintro v9 h9 ⟨rfl, rfl⟩
      conv => whnf
      refine ⟨fun c4 => ?_, fun c4 => ?_⟩
      · skip
        conv => whnf
        exact ⟨trivial, ⟨Nat.le_of_ble_eq_true rfl, Nat.le_of_ble_eq_true rfl⟩, _, rfl, sc, _, rfl⟩
      · skip
        conv => whnf
        refine ⟨_, rfl, kx, fun o5 eo => ?_⟩
        obtain rfl : o5 = some L1 := eo.symm.trans e1
        conv => whnf
        refine ⟨l1.1, rfl, _, _, _, _, _, _, c_AL_get (h := h) l1 sc j_sf_ok (by omega) (by omega), ⟨Nat.le_of_ble_eq_true rfl, Nat.le_of_ble_eq_true rfl, Nat.le_of_ble_eq_true rfl, Nat.le_of_ble_eq_true rfl⟩, fun _ _ z => False.elim z, ?_⟩
        rintro v9 h9 ⟨rfl, g6, rfl, kg6, xg6⟩
        conv => whnf
        refine ⟨Or.inr ⟨_, rfl, kg6⟩, ?_⟩
        conv => whnf
        refine ⟨_, rfl, kg6, fun x7 ex7 => ?_⟩
        have b8 := j_ub b
        have b9 := j_ub x7
        conv => whnf
        refine ⟨fun c10 => ?_, fun c10 => ?_⟩
        · skip
          have t11 : (v2 + Int32.ofInt 1).toInt = v2.toInt + 1 := j_inc1 (by omega)
          exact j_use hF (ih6 _ _ _ sc (by omega) (by omega)) (And.intro rfl (And.intro rfl (And.intro rfl (And.intro rfl (And.intro rfl (And.intro rfl trivial))))))
        · skip
          conv => whnf
          refine ⟨kg6, rfl, _, _, _, _, _, _, c_Run_tellsOf kg6 kz, ⟨Nat.le_of_ble_eq_true rfl, Nat.le_of_ble_eq_true rfl, Nat.le_of_ble_eq_true rfl, Nat.le_of_ble_eq_true rfl⟩, fun _ _ z => False.elim z, ?_⟩
          rintro v9 h9 ⟨rfl, r12, rfl, zr12⟩
          conv => whnf
          refine ⟨fun c13 => ?_, fun c13 => ?_⟩
          · skip
            have t14 : (v2 + Int32.ofInt 1).toInt = v2.toInt + 1 := j_inc1 (by omega)
            exact j_use hF (ih6 _ _ _ sc (by omega) (by omega)) (And.intro rfl (And.intro rfl (And.intro rfl (And.intro rfl (And.intro rfl (And.intro rfl trivial))))))
          · skip
            conv => whnf
            refine ⟨_, rfl, kx, fun x15 ex15 => ?_⟩
            conv => whnf
            refine ⟨kg6, rfl, _, _, _, _, _, _, c_Run_earlyIn kg6, ⟨Nat.le_of_ble_eq_true rfl, Nat.le_of_ble_eq_true rfl, Nat.le_of_ble_eq_true rfl, Nat.le_of_ble_eq_true rfl⟩, fun _ _ z => False.elim z, ?_⟩
            rintro v9 h9 ⟨rfl, r16, rfl⟩
            conv => whnf
            refine ⟨⟨Nat.le_of_ble_eq_true rfl, Nat.le_of_ble_eq_true rfl, Nat.le_of_ble_eq_true rfl, Nat.le_of_ble_eq_true rfl⟩, ?_⟩
            have t17 : (v2 + Int32.ofInt 1).toInt = v2.toInt + 1 := j_inc1 (by omega)
            exact j_use hF (ih6 _ _ _ sc (by omega) (by omega)) (And.intro rfl (And.intro rfl (And.intro rfl (And.intro rfl (And.intro rfl (And.intro rfl trivial))))))
  have q18 : ((Int32.ofInt (0))).toInt = 0 := by decide
  exact j_use hF (L6 4294967296 _ _ _ sc (by omega) (by omega)) (And.intro rfl (And.intro rfl (And.intro rfl (And.intro rfl (And.intro rfl (And.intro rfl trivial))))))
set_option maxHeartbeats 4000000 in
set_option maxRecDepth 20000 in
theorem c_G_lateOf {h : j_H} {it : Nat → Nat → Int32} {x : Nat} {z : Nat} {a : Int32} {b : Int32} (hW : j_WF h x) (sc : j_Sc j_sf h it) (kz : j_kd h z = some (.inl 4)) : j_Ct 112 3 64 0 0 [j_r (some x), j_r (some z), j_i a, j_i b] (j_wi h it) (fun v h' => ∃ it', h' = j_wi h it' ∧ j_Sc j_sf h it' ∧ ∃ r, v = some (j_i r)) j_no := by
  refine j_intro km_112 (Nat.le_of_ble_eq_true rfl) ?_
  intro J hJ hF
  obtain ⟨kx, hG, L0, L1, L2, e0, l0, e1, l1, e2, l2, ap, pn⟩ := id hW
  have b0 := l0.2.1; have b1 := l1.2.1; have b2 := l2.2.1; have d0 := l0.2.2.1; have d1 := l1.2.2.1; have d2 := l2.2.2.1
  refine hJ [8] 400 _ _ _ _ _ _ ?_
  have L8 : ∀ (m : Nat) (v1 : Int32) (v2 : Int32) (it : Nat → Nat → Int32) , j_Sc j_sf h it → 0 ≤ v2.toInt → (2147483647 - v2.toInt) < (m : Int) → J 8 [some (j_r (some x)), some (j_r (some z)), some (j_i a), some (j_i b), some (j_i v1), some (j_i v2), none] [] (j_wi h it) 0 0 := by
    intro m
    induction m with
    | zero => intro v1 v2 it sc hn hm; exact absurd hm (by have := j_ub v2; omega)
    | succ m ih8 =>
      intro v1 v2 it sc hn hm
      have uv1 := j_ub v1; have lv1 := j_lb v1
      have uv2 := j_ub v2; have lv2 := j_lb v2
      refine hJ [8] 400 _ _ _ _ _ _ ?_
      conv => whnf
      refine ⟨_, rfl, kx, fun o3 eo => ?_⟩
      obtain rfl : o3 = some L1 := eo.symm.trans e1
      conv => whnf
      refine ⟨l1.1, rfl, _, _, _, _, _, _, c_AL_size (h := h) l1 sc j_sf_ok, ⟨Nat.le_of_ble_eq_true rfl, Nat.le_of_ble_eq_true rfl, Nat.le_of_ble_eq_true rfl, Nat.le_of_ble_eq_true rfl⟩, fun _ _ z => False.elim z, ?_⟩
      rintro v9 h9 ⟨rfl, rfl⟩
      conv => whnf
      refine ⟨fun c4 => ?_, fun c4 => ?_⟩
      · skip
        conv => whnf
        exact ⟨trivial, ⟨Nat.le_of_ble_eq_true rfl, Nat.le_of_ble_eq_true rfl⟩, _, rfl, sc, _, rfl⟩
      · skip
        conv => whnf
        refine ⟨_, rfl, kx, fun o5 eo => ?_⟩
        obtain rfl : o5 = some L1 := eo.symm.trans e1
        conv => whnf
        refine ⟨l1.1, rfl, _, _, _, _, _, _, c_AL_get (h := h) l1 sc j_sf_ok (by omega) (by omega), ⟨Nat.le_of_ble_eq_true rfl, Nat.le_of_ble_eq_true rfl, Nat.le_of_ble_eq_true rfl, Nat.le_of_ble_eq_true rfl⟩, fun _ _ z => False.elim z, ?_⟩
        rintro v9 h9 ⟨rfl, g6, rfl, kg6, xg6⟩
        conv => whnf
        refine ⟨Or.inr ⟨_, rfl, kg6⟩, ?_⟩
        conv => whnf
        refine ⟨_, rfl, kg6, fun x7 ex7 => ?_⟩
        have b8 := j_ub b
        have b9 := j_ub x7
        conv => whnf
        refine ⟨fun c10 => ?_, fun c10 => ?_⟩
        · skip
          have t11 : (v2 + Int32.ofInt 1).toInt = v2.toInt + 1 := j_inc1 (by omega)
          exact j_use hF (ih8 _ _ _ sc (by omega) (by omega)) (And.intro rfl (And.intro rfl (And.intro rfl (And.intro rfl (And.intro rfl (And.intro rfl trivial))))))
        · skip
          conv => whnf
          refine ⟨kg6, rfl, _, _, _, _, _, _, c_Run_tellsOf kg6 kz, ⟨Nat.le_of_ble_eq_true rfl, Nat.le_of_ble_eq_true rfl, Nat.le_of_ble_eq_true rfl, Nat.le_of_ble_eq_true rfl⟩, fun _ _ z => False.elim z, ?_⟩
          rintro v9 h9 ⟨rfl, r12, rfl, zr12⟩
          conv => whnf
          refine ⟨fun c13 => ?_, fun c13 => ?_⟩
          · skip
            have t14 : (v2 + Int32.ofInt 1).toInt = v2.toInt + 1 := j_inc1 (by omega)
            exact j_use hF (ih8 _ _ _ sc (by omega) (by omega)) (And.intro rfl (And.intro rfl (And.intro rfl (And.intro rfl (And.intro rfl (And.intro rfl trivial))))))
          · skip
            conv => whnf
            refine ⟨_, rfl, kx, fun x15 ex15 => ?_⟩
            conv => whnf
            refine ⟨kg6, rfl, _, _, _, _, _, _, c_Run_lateIn kg6, ⟨Nat.le_of_ble_eq_true rfl, Nat.le_of_ble_eq_true rfl, Nat.le_of_ble_eq_true rfl, Nat.le_of_ble_eq_true rfl⟩, fun _ _ z => False.elim z, ?_⟩
            rintro v9 h9 ⟨rfl, r16, rfl⟩
            conv => whnf
            refine ⟨⟨Nat.le_of_ble_eq_true rfl, Nat.le_of_ble_eq_true rfl, Nat.le_of_ble_eq_true rfl, Nat.le_of_ble_eq_true rfl⟩, ?_⟩
            have t17 : (v2 + Int32.ofInt 1).toInt = v2.toInt + 1 := j_inc1 (by omega)
            exact j_use hF (ih8 _ _ _ sc (by omega) (by omega)) (And.intro rfl (And.intro rfl (And.intro rfl (And.intro rfl (And.intro rfl (And.intro rfl trivial))))))
  have q18 : ((Int32.ofInt (0))).toInt = 0 := by decide
  exact j_use hF (L8 4294967296 _ _ _ sc (by omega) (by omega)) (And.intro rfl (And.intro rfl (And.intro rfl (And.intro rfl (And.intro rfl (And.intro rfl trivial))))))
