set_option maxHeartbeats 4000000 in
set_option maxRecDepth 20000 in
theorem c_G_markClashes {h : j_H} {it : Nat → Nat → Int32} {x : Nat} (hW : j_WF h x) (sc : j_Sc j_sf h it)  : j_Ct 114 4 90 0 0 [j_r (some x)] (j_wi h it) (fun v h' => ∃ it', h' = j_wi h it' ∧ j_Sc j_sf h it' ∧ v = none) j_no := by
  refine j_intro km_114 (Nat.le_of_ble_eq_true rfl) ?_
  intro J hJ hF
  obtain ⟨kx, hG, L0, L1, L2, e0, l0, e1, l1, e2, l2, ap, pn⟩ := id hW
  have b0 := l0.2.1; have b1 := l1.2.1; have b2 := l2.2.1; have d0 := l0.2.2.1; have d1 := l1.2.2.1; have d2 := l2.2.2.1
  refine hJ [2, 78, 91] 400 _ _ _ _ _ _ ?_
  have L2 : ∀ (m : Nat) (v1 : Int32) (it : Nat → Nat → Int32) , j_Sc j_sf h it → 0 ≤ v1.toInt → (2147483647 - v1.toInt) < (m : Int) → J 2 [some (j_r (some x)), some (j_i v1), none] [] (j_wi h it) 0 0 := by
    intro m
    induction m with
    | zero => intro v1 it sc hn hm; exact absurd hm (by have := j_ub v1; omega)
    | succ m ih2 =>
      intro v1 it sc hn hm
      have uv1 := j_ub v1; have lv1 := j_lb v1
      refine hJ [2, 78, 91] 400 _ _ _ _ _ _ ?_
      conv => whnf
      refine ⟨_, rfl, kx, fun o2 eo => ?_⟩
      obtain rfl : o2 = some L0 := eo.symm.trans e0
      conv => whnf
      refine ⟨l0.1, rfl, _, _, _, _, _, _, c_AL_size (h := h) l0 sc j_sf_ok, ⟨Nat.le_of_ble_eq_true rfl, Nat.le_of_ble_eq_true rfl, Nat.le_of_ble_eq_true rfl, Nat.le_of_ble_eq_true rfl⟩, fun _ _ z => False.elim z, ?_⟩
      rintro v9 h9 ⟨rfl, rfl⟩
      conv => whnf
      refine ⟨fun c3 => ?_, fun c3 => ?_⟩
      · skip
        have L78 : ∀ (m : Nat) (v4 : Int32) (it : Nat → Nat → Int32) , j_Sc j_sf h it → 0 ≤ v4.toInt → (2147483647 - v4.toInt) < (m : Int) → J 78 [some (j_r (some x)), some (j_i v4), none] [] (j_wi h it) 0 0 := by
          intro m
          induction m with
          | zero => intro v4 it sc hn hm; exact absurd hm (by have := j_ub v4; omega)
          | succ m ih78 =>
            intro v4 it sc hn hm
            have uv4 := j_ub v4; have lv4 := j_lb v4
            refine hJ [2, 78, 91] 400 _ _ _ _ _ _ ?_
            conv => whnf
            refine ⟨_, rfl, kx, fun o5 eo => ?_⟩
            obtain rfl : o5 = some L0 := eo.symm.trans e0
            conv => whnf
            refine ⟨l0.1, rfl, _, _, _, _, _, _, c_AL_size (h := h) l0 sc j_sf_ok, ⟨Nat.le_of_ble_eq_true rfl, Nat.le_of_ble_eq_true rfl, Nat.le_of_ble_eq_true rfl, Nat.le_of_ble_eq_true rfl⟩, fun _ _ z => False.elim z, ?_⟩
            rintro v9 h9 ⟨rfl, rfl⟩
            conv => whnf
            refine ⟨fun c6 => ?_, fun c6 => ?_⟩
            · skip
              conv => whnf
              exact ⟨rfl, ⟨Nat.le_of_ble_eq_true rfl, Nat.le_of_ble_eq_true rfl⟩, _, rfl, sc, rfl⟩
            · skip
              have L91 : ∀ (m : Nat) (v7 : Int32) (it : Nat → Nat → Int32) , j_Sc j_sf h it → 0 ≤ v7.toInt → (2147483647 - v7.toInt) < (m : Int) → J 91 [some (j_r (some x)), some (j_i v4), some (j_i v7)] [] (j_wi h it) 0 0 := by
                intro m
                induction m with
                | zero => intro v7 it sc hn hm; exact absurd hm (by have := j_ub v7; omega)
                | succ m ih91 =>
                  intro v7 it sc hn hm
                  have uv7 := j_ub v7; have lv7 := j_lb v7
                  refine hJ [2, 78, 91] 400 _ _ _ _ _ _ ?_
                  conv => whnf
                  refine ⟨_, rfl, kx, fun o8 eo => ?_⟩
                  obtain rfl : o8 = some L0 := eo.symm.trans e0
                  conv => whnf
                  refine ⟨l0.1, rfl, _, _, _, _, _, _, c_AL_size (h := h) l0 sc j_sf_ok, ⟨Nat.le_of_ble_eq_true rfl, Nat.le_of_ble_eq_true rfl, Nat.le_of_ble_eq_true rfl, Nat.le_of_ble_eq_true rfl⟩, fun _ _ z => False.elim z, ?_⟩
                  rintro v9 h9 ⟨rfl, rfl⟩
                  conv => whnf
                  refine ⟨fun c9 => ?_, fun c9 => ?_⟩
                  · skip
                    have t10 : (v4 + Int32.ofInt 1).toInt = v4.toInt + 1 := j_inc1 (by omega)
                    exact j_use hF (ih78 _ _ sc (by omega) (by omega)) (And.intro rfl (And.intro rfl trivial))
                  · skip
                    conv => whnf
                    refine ⟨_, rfl, kx, fun o11 eo => ?_⟩
                    obtain rfl : o11 = some L0 := eo.symm.trans e0
                    conv => whnf
                    refine ⟨l0.1, rfl, _, _, _, _, _, _, c_AL_get (h := h) l0 sc j_sf_ok (by omega) (by omega), ⟨Nat.le_of_ble_eq_true rfl, Nat.le_of_ble_eq_true rfl, Nat.le_of_ble_eq_true rfl, Nat.le_of_ble_eq_true rfl⟩, fun _ _ z => False.elim z, ?_⟩
                    rintro v9 h9 ⟨rfl, g12, rfl, kg12, xg12⟩
                    conv => whnf
                    refine ⟨Or.inr ⟨_, rfl, kg12⟩, ?_⟩
                    conv => whnf
                    refine ⟨_, rfl, kx, fun o13 eo => ?_⟩
                    obtain rfl : o13 = some L0 := eo.symm.trans e0
                    conv => whnf
                    refine ⟨l0.1, rfl, _, _, _, _, _, _, c_AL_get (h := h) l0 sc j_sf_ok (by omega) (by omega), ⟨Nat.le_of_ble_eq_true rfl, Nat.le_of_ble_eq_true rfl, Nat.le_of_ble_eq_true rfl, Nat.le_of_ble_eq_true rfl⟩, fun _ _ z => False.elim z, ?_⟩
                    rintro v9 h9 ⟨rfl, g14, rfl, kg14, xg14⟩
                    conv => whnf
                    refine ⟨Or.inr ⟨_, rfl, kg14⟩, ?_⟩
                    conv => whnf
                    refine ⟨rfl, _, _, _, _, _, _, c_G_markIfOver (h := h) hG sc kg12 kg14, ⟨Nat.le_of_ble_eq_true rfl, Nat.le_of_ble_eq_true rfl, Nat.le_of_ble_eq_true rfl, Nat.le_of_ble_eq_true rfl⟩, fun _ _ z => False.elim z, ?_⟩
                    rintro v9 h9 ⟨it16, rfl, sit16, rfl⟩
                    have t17 : (v7 + Int32.ofInt 1).toInt = v7.toInt + 1 := j_inc1 (by omega)
                    exact j_use hF (ih91 _ _ sit16 (by omega) (by omega)) (And.intro rfl (And.intro rfl (And.intro rfl trivial)))
              have q18 : ((Int32.ofInt (0))).toInt = 0 := by decide
              exact j_use hF (L91 4294967296 _ _ sc (by omega) (by omega)) (And.intro rfl (And.intro rfl (And.intro rfl trivial)))
        have q19 : ((Int32.ofInt (0))).toInt = 0 := by decide
        exact j_use hF (L78 4294967296 _ _ sc (by omega) (by omega)) (And.intro rfl (And.intro rfl trivial))
      · skip
        conv => whnf
        refine ⟨_, rfl, kx, fun o20 eo => ?_⟩
        obtain rfl : o20 = some L0 := eo.symm.trans e0
        conv => whnf
        refine ⟨l0.1, rfl, _, _, _, _, _, _, c_AL_get (h := h) l0 sc j_sf_ok (by omega) (by omega), ⟨Nat.le_of_ble_eq_true rfl, Nat.le_of_ble_eq_true rfl, Nat.le_of_ble_eq_true rfl, Nat.le_of_ble_eq_true rfl⟩, fun _ _ z => False.elim z, ?_⟩
        rintro v9 h9 ⟨rfl, g21, rfl, kg21, xg21⟩
        conv => whnf
        refine ⟨Or.inr ⟨_, rfl, kg21⟩, ?_⟩
        conv => whnf
        refine ⟨kx, rfl, _, _, _, _, _, _, c_G_earlyOf (h := h) hW sc kg21, ⟨Nat.le_of_ble_eq_true rfl, Nat.le_of_ble_eq_true rfl, Nat.le_of_ble_eq_true rfl, Nat.le_of_ble_eq_true rfl⟩, fun _ _ z => False.elim z, ?_⟩
        rintro v9 h9 ⟨it23, rfl, sit23, r22, rfl⟩
        conv => whnf
        refine ⟨_, rfl, kg21, ?_⟩
        conv => whnf
        refine ⟨kx, rfl, _, _, _, _, _, _, c_G_lateOf (h := h) hW (j_Sc.put sit23 kg21 (show j_sf 4 6 = true from rfl)) kg21, ⟨Nat.le_of_ble_eq_true rfl, Nat.le_of_ble_eq_true rfl, Nat.le_of_ble_eq_true rfl, Nat.le_of_ble_eq_true rfl⟩, fun _ _ z => False.elim z, ?_⟩
        rintro v9 h9 ⟨it26, rfl, sit26, r25, rfl⟩
        conv => whnf
        refine ⟨_, rfl, kg21, ?_⟩
        conv => whnf
        refine ⟨_, rfl, kg21, fun x28 ex28 => ?_⟩
        conv => whnf
        refine ⟨_, rfl, kg21, fun x29 ex29 => ?_⟩
        have b30 := j_ub x29
        have b31 := j_ub x28
        conv => whnf
        refine ⟨fun c32 => ?_, fun c32 => ?_⟩
        · skip
          conv => whnf
          refine ⟨_, rfl, kg21, ?_⟩
          have t34 : (v1 + Int32.ofInt 1).toInt = v1.toInt + 1 := j_inc1 (by omega)
          exact j_use hF (ih2 _ _ (j_Sc.put (j_Sc.put sit26 kg21 (show j_sf 4 7 = true from rfl)) kg21 (show j_sf 4 8 = true from rfl)) (by omega) (by omega)) (And.intro rfl (And.intro rfl trivial))
        · skip
          conv => whnf
          refine ⟨kg21, rfl, _, _, _, _, _, _, c_Grain_bit kg21, ⟨Nat.le_of_ble_eq_true rfl, Nat.le_of_ble_eq_true rfl, Nat.le_of_ble_eq_true rfl, Nat.le_of_ble_eq_true rfl⟩, fun _ _ z => False.elim z, ?_⟩
          rintro v9 h9 ⟨rfl, r35, rfl⟩
          conv => whnf
          refine ⟨_, rfl, kg21, ?_⟩
          have t37 : (v1 + Int32.ofInt 1).toInt = v1.toInt + 1 := j_inc1 (by omega)
          exact j_use hF (ih2 _ _ (j_Sc.put (j_Sc.put sit26 kg21 (show j_sf 4 7 = true from rfl)) kg21 (show j_sf 4 8 = true from rfl)) (by omega) (by omega)) (And.intro rfl (And.intro rfl trivial))
  have q38 : ((Int32.ofInt (0))).toInt = 0 := by decide
  exact j_use hF (L2 4294967296 _ _ sc (by omega) (by omega)) (And.intro rfl (And.intro rfl trivial))
set_option maxHeartbeats 4000000 in
set_option maxRecDepth 20000 in
theorem c_G_findFewest {h : j_H} {it : Nat → Nat → Int32} {x : Nat} (hW : j_WF h x) (sc : j_Sc j_sf h it)  : j_Ct 100 5 112 0 0 [j_r (some x)] (j_wi h it) (fun v h' => ∃ it', h' = j_wi h it' ∧ j_Sc j_sf h it' ∧ ∃ r, v = some (j_i r)) j_no := by
  refine j_intro km_100 (Nat.le_of_ble_eq_true rfl) ?_
  intro J hJ hF
  obtain ⟨kx, hG, L0, L1, L2, e0, l0, e1, l1, e2, l2, ap, pn⟩ := id hW
  have b0 := l0.2.1; have b1 := l1.2.1; have b2 := l2.2.1; have d0 := l0.2.2.1; have d1 := l1.2.2.1; have d2 := l2.2.2.1
  refine hJ [13] 400 _ _ _ _ _ _ ?_
  conv => whnf
  refine ⟨kx, rfl, _, _, _, _, _, _, c_G_markClashes (h := h) hW sc, ⟨Nat.le_of_ble_eq_true rfl, Nat.le_of_ble_eq_true rfl, Nat.le_of_ble_eq_true rfl, Nat.le_of_ble_eq_true rfl⟩, fun _ _ z => False.elim z, ?_⟩
  rintro v9 h9 ⟨it2, rfl, sit2, rfl⟩
  conv => whnf
  refine ⟨kx, rfl, _, _, _, _, _, _, c_G_allGrains (h := h) hW sit2, ⟨Nat.le_of_ble_eq_true rfl, Nat.le_of_ble_eq_true rfl, Nat.le_of_ble_eq_true rfl, Nat.le_of_ble_eq_true rfl⟩, fun _ _ z => False.elim z, ?_⟩
  rintro v9 h9 ⟨it4, rfl, sit4, r3, rfl⟩
  have L13 : ∀ (m : Nat) (v5 : Int32) (v6 : Int32) (it : Nat → Nat → Int32) , j_Sc j_sf h it → 0 ≤ v6.toInt → (2147483647 - v6.toInt) < (m : Int) → J 13 [some (j_r (some x)), some (j_i r3), some (j_i v5), some (j_i v6)] [] (j_wi h it) 0 0 := by
    intro m
    induction m with
    | zero => intro v5 v6 it sc hn hm; exact absurd hm (by have := j_ub v6; omega)
    | succ m ih13 =>
      intro v5 v6 it sc hn hm
      have uv5 := j_ub v5; have lv5 := j_lb v5
      have uv6 := j_ub v6; have lv6 := j_lb v6
      refine hJ [13] 400 _ _ _ _ _ _ ?_
      have b7 := j_ub r3
      conv => whnf
      refine ⟨fun c8 => ?_, fun c8 => ?_⟩
      · skip
        conv => whnf
        exact ⟨trivial, ⟨Nat.le_of_ble_eq_true rfl, Nat.le_of_ble_eq_true rfl⟩, _, rfl, sc, _, rfl⟩
      · skip
        conv => whnf
        refine ⟨rfl, _, _, _, _, _, _, c_Integer_bitCount, ⟨Nat.le_of_ble_eq_true rfl, Nat.le_of_ble_eq_true rfl, Nat.le_of_ble_eq_true rfl, Nat.le_of_ble_eq_true rfl⟩, fun _ _ z => False.elim z, ?_⟩
        rintro v9 h9 ⟨rfl, r9, rfl⟩
        conv => whnf
        refine ⟨rfl, _, _, _, _, _, _, c_Integer_bitCount, ⟨Nat.le_of_ble_eq_true rfl, Nat.le_of_ble_eq_true rfl, Nat.le_of_ble_eq_true rfl, Nat.le_of_ble_eq_true rfl⟩, fun _ _ z => False.elim z, ?_⟩
        rintro v9 h9 ⟨rfl, r10, rfl⟩
        have b11 := j_ub r10
        have b12 := j_ub r9
        conv => whnf
        refine ⟨fun c13 => ?_, fun c13 => ?_⟩
        · skip
          have t14 : (v6 + Int32.ofInt 1).toInt = v6.toInt + 1 := j_inc1 (by omega)
          exact j_use hF (ih13 _ _ _ sc (by omega) (by omega)) (And.intro rfl (And.intro rfl (And.intro rfl (And.intro rfl trivial))))
        · skip
          conv => whnf
          refine ⟨kx, rfl, _, _, _, _, _, _, c_G_agree (h := h) hW sc, ⟨Nat.le_of_ble_eq_true rfl, Nat.le_of_ble_eq_true rfl, Nat.le_of_ble_eq_true rfl, Nat.le_of_ble_eq_true rfl⟩, fun _ _ z => False.elim z, ?_⟩
          rintro v9 h9 ⟨it16, rfl, sit16, r15, rfl, zr15⟩
          conv => whnf
          refine ⟨fun c17 => ?_, fun c17 => ?_⟩
          · skip
            have t18 : (v6 + Int32.ofInt 1).toInt = v6.toInt + 1 := j_inc1 (by omega)
            exact j_use hF (ih13 _ _ _ sit16 (by omega) (by omega)) (And.intro rfl (And.intro rfl (And.intro rfl (And.intro rfl trivial))))
          · skip
            have t19 : (v6 + Int32.ofInt 1).toInt = v6.toInt + 1 := j_inc1 (by omega)
            exact j_use hF (ih13 _ _ _ sit16 (by omega) (by omega)) (And.intro rfl (And.intro rfl (And.intro rfl (And.intro rfl trivial))))
  have q20 : ((Int32.ofInt (0))).toInt = 0 := by decide
  exact j_use hF (L13 4294967296 _ _ _ sit4 (by omega) (by omega)) (And.intro rfl (And.intro rfl (And.intro rfl (And.intro rfl trivial))))
set_option maxHeartbeats 4000000 in
set_option maxRecDepth 20000 in
theorem c_G_markIfMissed {h : j_H} {it : Nat → Nat → Int32} {x : Nat} {y : Nat} {z : Nat} (hW : j_WF h x) (sc : j_Sc j_sf h it) (ky : j_kd h y = some (.inl 7)) (kz : j_kd h z = some (.inl 7)) : j_Ct 115 2 43 0 0 [j_r (some x), j_r (some y), j_r (some z)] (j_wi h it) (fun v h' => ∃ it', h' = j_wi h it' ∧ j_Sc j_sf h it' ∧ v = none) j_no := by
  refine j_intro km_115 (Nat.le_of_ble_eq_true rfl) ?_
  intro J hJ hF
  obtain ⟨kx, hG, L0, L1, L2, e0, l0, e1, l1, e2, l2, ap, pn⟩ := id hW
  have b0 := l0.2.1; have b1 := l1.2.1; have b2 := l2.2.1; have d0 := l0.2.2.1; have d1 := l1.2.2.1; have d2 := l2.2.2.1
  refine hJ [] 400 _ _ _ _ _ _ ?_
  conv => whnf
  refine ⟨_, rfl, ky, fun x1 ex1 => ?_⟩
  conv => whnf
  refine ⟨fun c2 => ?_, fun c2 => ?_⟩
  · skip
    conv => whnf
    exact ⟨rfl, ⟨Nat.le_of_ble_eq_true rfl, Nat.le_of_ble_eq_true rfl⟩, _, rfl, sc, rfl⟩
  · skip
    conv => whnf
    refine ⟨_, rfl, kz, fun x3 ex3 => ?_⟩
    conv => whnf
    refine ⟨fun c4 => ?_, fun c4 => ?_⟩
    · skip
      conv => whnf
      exact ⟨rfl, ⟨Nat.le_of_ble_eq_true rfl, Nat.le_of_ble_eq_true rfl⟩, _, rfl, sc, rfl⟩
    · skip
      conv => whnf
      refine ⟨_, rfl, kx, fun x5 ex5 => ?_⟩
      conv => whnf
      refine ⟨ky, rfl, _, _, _, _, _, _, c_Run_misses ky kz, ⟨Nat.le_of_ble_eq_true rfl, Nat.le_of_ble_eq_true rfl, Nat.le_of_ble_eq_true rfl, Nat.le_of_ble_eq_true rfl⟩, fun _ _ z => False.elim z, ?_⟩
      rintro v9 h9 ⟨rfl, r6, rfl, zr6⟩
      conv => whnf
      refine ⟨fun c7 => ?_, fun c7 => ?_⟩
      · skip
        conv => whnf
        exact ⟨rfl, ⟨Nat.le_of_ble_eq_true rfl, Nat.le_of_ble_eq_true rfl⟩, _, rfl, sc, rfl⟩
      · skip
        conv => whnf
        refine ⟨_, rfl, ky, fun x8 ex8 => ?_⟩
        conv => whnf
        refine ⟨kz, rfl, _, _, _, _, _, _, c_Run_bit kz, ⟨Nat.le_of_ble_eq_true rfl, Nat.le_of_ble_eq_true rfl, Nat.le_of_ble_eq_true rfl, Nat.le_of_ble_eq_true rfl⟩, fun _ _ z => False.elim z, ?_⟩
        rintro v9 h9 ⟨rfl, r9, rfl⟩
        conv => whnf
        refine ⟨_, rfl, ky, ?_⟩
        conv => whnf
        refine ⟨_, rfl, kz, fun x11 ex11 => ?_⟩
        conv => whnf
        refine ⟨ky, rfl, _, _, _, _, _, _, c_Run_bit ky, ⟨Nat.le_of_ble_eq_true rfl, Nat.le_of_ble_eq_true rfl, Nat.le_of_ble_eq_true rfl, Nat.le_of_ble_eq_true rfl⟩, fun _ _ z => False.elim z, ?_⟩
        rintro v9 h9 ⟨rfl, r12, rfl⟩
        conv => whnf
        refine ⟨_, rfl, kz, ?_⟩
        conv => whnf
        exact ⟨rfl, ⟨Nat.le_of_ble_eq_true rfl, Nat.le_of_ble_eq_true rfl⟩, _, rfl, (j_Sc.put (j_Sc.put sc ky (show j_sf 7 10 = true from rfl)) kz (show j_sf 7 10 = true from rfl)), rfl⟩
set_option maxHeartbeats 4000000 in
set_option maxRecDepth 20000 in
theorem c_G_markRuns {h : j_H} {it : Nat → Nat → Int32} {x : Nat} (hW : j_WF h x) (sc : j_Sc j_sf h it)  : j_Ct 117 3 65 0 0 [j_r (some x)] (j_wi h it) (fun v h' => ∃ it', h' = j_wi h it' ∧ j_Sc j_sf h it' ∧ v = none) j_no := by
  refine j_intro km_117 (Nat.le_of_ble_eq_true rfl) ?_
  intro J hJ hF
  obtain ⟨kx, hG, L0, L1, L2, e0, l0, e1, l1, e2, l2, ap, pn⟩ := id hW
  have b0 := l0.2.1; have b1 := l1.2.1; have b2 := l2.2.1; have d0 := l0.2.2.1; have d1 := l1.2.2.1; have d2 := l2.2.2.1
  refine hJ [2, 36, 95, 108] 400 _ _ _ _ _ _ ?_
  have L2 : ∀ (m : Nat) (v1 : Int32) (it : Nat → Nat → Int32) , j_Sc j_sf h it → 0 ≤ v1.toInt → (2147483647 - v1.toInt) < (m : Int) → J 2 [some (j_r (some x)), some (j_i v1), none] [] (j_wi h it) 0 0 := by
    intro m
    induction m with
    | zero => intro v1 it sc hn hm; exact absurd hm (by have := j_ub v1; omega)
    | succ m ih2 =>
      intro v1 it sc hn hm
      have uv1 := j_ub v1; have lv1 := j_lb v1
      refine hJ [2, 36, 95, 108] 400 _ _ _ _ _ _ ?_
      conv => whnf
      refine ⟨_, rfl, kx, fun o2 eo => ?_⟩
      obtain rfl : o2 = some L0 := eo.symm.trans e0
      conv => whnf
      refine ⟨l0.1, rfl, _, _, _, _, _, _, c_AL_size (h := h) l0 sc j_sf_ok, ⟨Nat.le_of_ble_eq_true rfl, Nat.le_of_ble_eq_true rfl, Nat.le_of_ble_eq_true rfl, Nat.le_of_ble_eq_true rfl⟩, fun _ _ z => False.elim z, ?_⟩
      rintro v9 h9 ⟨rfl, rfl⟩
      conv => whnf
      refine ⟨fun c3 => ?_, fun c3 => ?_⟩
      · skip
        have L36 : ∀ (m : Nat) (v4 : Int32) (it : Nat → Nat → Int32) , j_Sc j_sf h it → 0 ≤ v4.toInt → (2147483647 - v4.toInt) < (m : Int) → J 36 [some (j_r (some x)), some (j_i v4), none] [] (j_wi h it) 0 0 := by
          intro m
          induction m with
          | zero => intro v4 it sc hn hm; exact absurd hm (by have := j_ub v4; omega)
          | succ m ih36 =>
            intro v4 it sc hn hm
            have uv4 := j_ub v4; have lv4 := j_lb v4
            refine hJ [2, 36, 95, 108] 400 _ _ _ _ _ _ ?_
            conv => whnf
            refine ⟨_, rfl, kx, fun o5 eo => ?_⟩
            obtain rfl : o5 = some L1 := eo.symm.trans e1
            conv => whnf
            refine ⟨l1.1, rfl, _, _, _, _, _, _, c_AL_size (h := h) l1 sc j_sf_ok, ⟨Nat.le_of_ble_eq_true rfl, Nat.le_of_ble_eq_true rfl, Nat.le_of_ble_eq_true rfl, Nat.le_of_ble_eq_true rfl⟩, fun _ _ z => False.elim z, ?_⟩
            rintro v9 h9 ⟨rfl, rfl⟩
            conv => whnf
            refine ⟨fun c6 => ?_, fun c6 => ?_⟩
            · skip
              have L95 : ∀ (m : Nat) (v7 : Int32) (it : Nat → Nat → Int32) , j_Sc j_sf h it → 0 ≤ v7.toInt → (2147483647 - v7.toInt) < (m : Int) → J 95 [some (j_r (some x)), some (j_i v7), none] [] (j_wi h it) 0 0 := by
                intro m
                induction m with
                | zero => intro v7 it sc hn hm; exact absurd hm (by have := j_ub v7; omega)
                | succ m ih95 =>
                  intro v7 it sc hn hm
                  have uv7 := j_ub v7; have lv7 := j_lb v7
                  refine hJ [2, 36, 95, 108] 400 _ _ _ _ _ _ ?_
                  conv => whnf
                  refine ⟨_, rfl, kx, fun o8 eo => ?_⟩
                  obtain rfl : o8 = some L1 := eo.symm.trans e1
                  conv => whnf
                  refine ⟨l1.1, rfl, _, _, _, _, _, _, c_AL_size (h := h) l1 sc j_sf_ok, ⟨Nat.le_of_ble_eq_true rfl, Nat.le_of_ble_eq_true rfl, Nat.le_of_ble_eq_true rfl, Nat.le_of_ble_eq_true rfl⟩, fun _ _ z => False.elim z, ?_⟩
                  rintro v9 h9 ⟨rfl, rfl⟩
                  conv => whnf
                  refine ⟨fun c9 => ?_, fun c9 => ?_⟩
                  · skip
                    conv => whnf
                    exact ⟨rfl, ⟨Nat.le_of_ble_eq_true rfl, Nat.le_of_ble_eq_true rfl⟩, _, rfl, sc, rfl⟩
                  · skip
                    have L108 : ∀ (m : Nat) (v10 : Int32) (it : Nat → Nat → Int32) , j_Sc j_sf h it → 0 ≤ v10.toInt → (2147483647 - v10.toInt) < (m : Int) → J 108 [some (j_r (some x)), some (j_i v7), some (j_i v10)] [] (j_wi h it) 0 0 := by
                      intro m
                      induction m with
                      | zero => intro v10 it sc hn hm; exact absurd hm (by have := j_ub v10; omega)
                      | succ m ih108 =>
                        intro v10 it sc hn hm
                        have uv10 := j_ub v10; have lv10 := j_lb v10
                        refine hJ [2, 36, 95, 108] 400 _ _ _ _ _ _ ?_
                        conv => whnf
                        refine ⟨fun c11 => ?_, fun c11 => ?_⟩
                        · skip
                          have t12 : (v7 + Int32.ofInt 1).toInt = v7.toInt + 1 := j_inc1 (by omega)
                          exact j_use hF (ih95 _ _ sc (by omega) (by omega)) (And.intro rfl (And.intro rfl trivial))
                        · skip
                          conv => whnf
                          refine ⟨_, rfl, kx, fun o13 eo => ?_⟩
                          obtain rfl : o13 = some L1 := eo.symm.trans e1
                          conv => whnf
                          refine ⟨l1.1, rfl, _, _, _, _, _, _, c_AL_get (h := h) l1 sc j_sf_ok (by omega) (by omega), ⟨Nat.le_of_ble_eq_true rfl, Nat.le_of_ble_eq_true rfl, Nat.le_of_ble_eq_true rfl, Nat.le_of_ble_eq_true rfl⟩, fun _ _ z => False.elim z, ?_⟩
                          rintro v9 h9 ⟨rfl, g14, rfl, kg14, xg14⟩
                          conv => whnf
                          refine ⟨Or.inr ⟨_, rfl, kg14⟩, ?_⟩
                          conv => whnf
                          refine ⟨_, rfl, kx, fun o15 eo => ?_⟩
                          obtain rfl : o15 = some L1 := eo.symm.trans e1
                          conv => whnf
                          refine ⟨l1.1, rfl, _, _, _, _, _, _, c_AL_get (h := h) l1 sc j_sf_ok (by omega) (by omega), ⟨Nat.le_of_ble_eq_true rfl, Nat.le_of_ble_eq_true rfl, Nat.le_of_ble_eq_true rfl, Nat.le_of_ble_eq_true rfl⟩, fun _ _ z => False.elim z, ?_⟩
                          rintro v9 h9 ⟨rfl, g16, rfl, kg16, xg16⟩
                          conv => whnf
                          refine ⟨Or.inr ⟨_, rfl, kg16⟩, ?_⟩
                          conv => whnf
                          refine ⟨kx, rfl, _, _, _, _, _, _, c_G_markIfMissed (h := h) hW sc kg14 kg16, ⟨Nat.le_of_ble_eq_true rfl, Nat.le_of_ble_eq_true rfl, Nat.le_of_ble_eq_true rfl, Nat.le_of_ble_eq_true rfl⟩, fun _ _ z => False.elim z, ?_⟩
                          rintro v9 h9 ⟨it18, rfl, sit18, rfl⟩
                          have t19 : (v10 + Int32.ofInt 1).toInt = v10.toInt + 1 := j_inc1 (by omega)
                          exact j_use hF (ih108 _ _ sit18 (by omega) (by omega)) (And.intro rfl (And.intro rfl (And.intro rfl trivial)))
                    have q20 : ((Int32.ofInt (0))).toInt = 0 := by decide
                    exact j_use hF (L108 4294967296 _ _ sc (by omega) (by omega)) (And.intro rfl (And.intro rfl (And.intro rfl trivial)))
              have q21 : ((Int32.ofInt (0))).toInt = 0 := by decide
              exact j_use hF (L95 4294967296 _ _ sc (by omega) (by omega)) (And.intro rfl (And.intro rfl trivial))
            · skip
              conv => whnf
              refine ⟨_, rfl, kx, fun o22 eo => ?_⟩
              obtain rfl : o22 = some L1 := eo.symm.trans e1
              conv => whnf
              refine ⟨l1.1, rfl, _, _, _, _, _, _, c_AL_get (h := h) l1 sc j_sf_ok (by omega) (by omega), ⟨Nat.le_of_ble_eq_true rfl, Nat.le_of_ble_eq_true rfl, Nat.le_of_ble_eq_true rfl, Nat.le_of_ble_eq_true rfl⟩, fun _ _ z => False.elim z, ?_⟩
              rintro v9 h9 ⟨rfl, g23, rfl, kg23, xg23⟩
              conv => whnf
              refine ⟨Or.inr ⟨_, rfl, kg23⟩, ?_⟩
              conv => whnf
              refine ⟨_, rfl, kg23, ?_⟩
              conv => whnf
              refine ⟨_, rfl, kg23, fun x25 ex25 => ?_⟩
              conv => whnf
              refine ⟨fun c26 => ?_, fun c26 => ?_⟩
              · skip
                have t27 : (v4 + Int32.ofInt 1).toInt = v4.toInt + 1 := j_inc1 (by omega)
                exact j_use hF (ih36 _ _ (j_Sc.put sc kg23 (show j_sf 7 10 = true from rfl)) (by omega) (by omega)) (And.intro rfl (And.intro rfl trivial))
              · skip
                conv => whnf
                refine ⟨_, rfl, kg23, fun o28 eo => ?_⟩
                obtain ⟨b29, eb29, kb29⟩ := hG.2.2.1 _ kg23
                obtain rfl : o28 = some b29 := eo.symm.trans eb29
                conv => whnf
                refine ⟨_, rfl, kb29, fun x30 ex30 => ?_⟩
                conv => whnf
                refine ⟨kg23, rfl, _, _, _, _, _, _, c_Run_bit kg23, ⟨Nat.le_of_ble_eq_true rfl, Nat.le_of_ble_eq_true rfl, Nat.le_of_ble_eq_true rfl, Nat.le_of_ble_eq_true rfl⟩, fun _ _ z => False.elim z, ?_⟩
                rintro v9 h9 ⟨rfl, r31, rfl⟩
                conv => whnf
                refine ⟨_, rfl, kb29, ?_⟩
                have t33 : (v4 + Int32.ofInt 1).toInt = v4.toInt + 1 := j_inc1 (by omega)
                exact j_use hF (ih36 _ _ (j_Sc.put (j_Sc.put sc kg23 (show j_sf 7 10 = true from rfl)) kb29 (show j_sf 4 9 = true from rfl)) (by omega) (by omega)) (And.intro rfl (And.intro rfl trivial))
        have q34 : ((Int32.ofInt (0))).toInt = 0 := by decide
        exact j_use hF (L36 4294967296 _ _ sc (by omega) (by omega)) (And.intro rfl (And.intro rfl trivial))
      · skip
        conv => whnf
        refine ⟨_, rfl, kx, fun o35 eo => ?_⟩
        obtain rfl : o35 = some L0 := eo.symm.trans e0
        conv => whnf
        refine ⟨l0.1, rfl, _, _, _, _, _, _, c_AL_get (h := h) l0 sc j_sf_ok (by omega) (by omega), ⟨Nat.le_of_ble_eq_true rfl, Nat.le_of_ble_eq_true rfl, Nat.le_of_ble_eq_true rfl, Nat.le_of_ble_eq_true rfl⟩, fun _ _ z => False.elim z, ?_⟩
        rintro v9 h9 ⟨rfl, g36, rfl, kg36, xg36⟩
        conv => whnf
        refine ⟨Or.inr ⟨_, rfl, kg36⟩, ?_⟩
        conv => whnf
        refine ⟨_, rfl, kg36, ?_⟩
        have t38 : (v1 + Int32.ofInt 1).toInt = v1.toInt + 1 := j_inc1 (by omega)
        exact j_use hF (ih2 _ _ (j_Sc.put sc kg36 (show j_sf 4 9 = true from rfl)) (by omega) (by omega)) (And.intro rfl (And.intro rfl trivial))
  have q39 : ((Int32.ofInt (0))).toInt = 0 := by decide
  exact j_use hF (L2 4294967296 _ _ sc (by omega) (by omega)) (And.intro rfl (And.intro rfl trivial))
set_option maxHeartbeats 4000000 in
set_option maxRecDepth 20000 in
theorem c_G_countDoubles {h : j_H} {it : Nat → Nat → Int32} {x : Nat} (hW : j_WF h x) (sc : j_Sc j_sf h it)  : j_Ct 85 4 87 0 0 [j_r (some x)] (j_wi h it) (fun v h' => ∃ it', h' = j_wi h it' ∧ j_Sc j_sf h it' ∧ ∃ r, v = some (j_i r)) j_no := by
  refine j_intro km_85 (Nat.le_of_ble_eq_true rfl) ?_
  intro J hJ hF
  obtain ⟨kx, hG, L0, L1, L2, e0, l0, e1, l1, e2, l2, ap, pn⟩ := id hW
  have b0 := l0.2.1; have b1 := l1.2.1; have b2 := l2.2.1; have d0 := l0.2.2.1; have d1 := l1.2.2.1; have d2 := l2.2.2.1
  refine hJ [8] 400 _ _ _ _ _ _ ?_
  conv => whnf
  refine ⟨kx, rfl, _, _, _, _, _, _, c_G_markRuns (h := h) hW sc, ⟨Nat.le_of_ble_eq_true rfl, Nat.le_of_ble_eq_true rfl, Nat.le_of_ble_eq_true rfl, Nat.le_of_ble_eq_true rfl⟩, fun _ _ z => False.elim z, ?_⟩
  rintro v9 h9 ⟨it2, rfl, sit2, rfl⟩
  have L8 : ∀ (m : Nat) (v3 : Int32) (v4 : Int32) (it : Nat → Nat → Int32) , j_Sc j_sf h it → 0 ≤ v4.toInt → (2147483647 - v4.toInt) < (m : Int) → J 8 [some (j_r (some x)), some (j_i v3), some (j_i v4)] [] (j_wi h it) 0 0 := by
    intro m
    induction m with
    | zero => intro v3 v4 it sc hn hm; exact absurd hm (by have := j_ub v4; omega)
    | succ m ih8 =>
      intro v3 v4 it sc hn hm
      have uv3 := j_ub v3; have lv3 := j_lb v3
      have uv4 := j_ub v4; have lv4 := j_lb v4
      refine hJ [8] 400 _ _ _ _ _ _ ?_
      conv => whnf
      refine ⟨_, rfl, kx, fun o5 eo => ?_⟩
      obtain rfl : o5 = some L1 := eo.symm.trans e1
      conv => whnf
      refine ⟨l1.1, rfl, _, _, _, _, _, _, c_AL_size (h := h) l1 sc j_sf_ok, ⟨Nat.le_of_ble_eq_true rfl, Nat.le_of_ble_eq_true rfl, Nat.le_of_ble_eq_true rfl, Nat.le_of_ble_eq_true rfl⟩, fun _ _ z => False.elim z, ?_⟩
      rintro v9 h9 ⟨rfl, rfl⟩
      conv => whnf
      refine ⟨fun c6 => ?_, fun c6 => ?_⟩
      · skip
        conv => whnf
        refine ⟨by decide, ?_⟩
        conv => whnf
        exact ⟨trivial, ⟨Nat.le_of_ble_eq_true rfl, Nat.le_of_ble_eq_true rfl⟩, _, rfl, sc, _, rfl⟩
      · skip
        conv => whnf
        refine ⟨_, rfl, kx, fun o7 eo => ?_⟩
        obtain rfl : o7 = some L1 := eo.symm.trans e1
        conv => whnf
        refine ⟨l1.1, rfl, _, _, _, _, _, _, c_AL_get (h := h) l1 sc j_sf_ok (by omega) (by omega), ⟨Nat.le_of_ble_eq_true rfl, Nat.le_of_ble_eq_true rfl, Nat.le_of_ble_eq_true rfl, Nat.le_of_ble_eq_true rfl⟩, fun _ _ z => False.elim z, ?_⟩
        rintro v9 h9 ⟨rfl, g8, rfl, kg8, xg8⟩
        conv => whnf
        refine ⟨Or.inr ⟨_, rfl, kg8⟩, ?_⟩
        conv => whnf
        refine ⟨kg8, rfl, _, _, _, _, _, _, c_Run_countMissed (h := h) hG sc kg8, ⟨Nat.le_of_ble_eq_true rfl, Nat.le_of_ble_eq_true rfl, Nat.le_of_ble_eq_true rfl, Nat.le_of_ble_eq_true rfl⟩, fun _ _ z => False.elim z, ?_⟩
        rintro v9 h9 ⟨it10, rfl, sit10, r9, rfl⟩
        have t11 : (v4 + Int32.ofInt 1).toInt = v4.toInt + 1 := j_inc1 (by omega)
        exact j_use hF (ih8 _ _ _ sit10 (by omega) (by omega)) (And.intro rfl (And.intro rfl (And.intro rfl trivial)))
  have q12 : ((Int32.ofInt (0))).toInt = 0 := by decide
  exact j_use hF (L8 4294967296 _ _ _ sit2 (by omega) (by omega)) (And.intro rfl (And.intro rfl (And.intro rfl trivial)))
set_option maxHeartbeats 4000000 in
set_option maxRecDepth 20000 in
theorem c_G_doublesLessBySwap {h : j_H} {it : Nat → Nat → Int32} {y : Nat} {z : Nat} (hG : j_G h) (sc : j_Sc j_sf h it) (ky : j_kd h y = some (.inl 7)) (kz : j_kd h z = some (.inl 7)) : j_Ct 96 2 40 0 0 [j_r (some y), j_r (some z)] (j_wi h it) (fun v h' => ∃ it', h' = j_wi h it' ∧ j_Sc j_sf h it' ∧ ∃ r, v = some (j_i r)) j_no := by
  refine j_intro km_96 (Nat.le_of_ble_eq_true rfl) ?_
  intro J hJ hF
  refine hJ [] 400 _ _ _ _ _ _ ?_
  conv => whnf
  refine ⟨_, rfl, ky, fun x1 ex1 => ?_⟩
  conv => whnf
  refine ⟨fun c2 => ?_, fun c2 => ?_⟩
  · skip
    conv => whnf
    exact ⟨trivial, ⟨Nat.le_of_ble_eq_true rfl, Nat.le_of_ble_eq_true rfl⟩, _, rfl, sc, _, rfl⟩
  · skip
    conv => whnf
    refine ⟨_, rfl, kz, fun x3 ex3 => ?_⟩
    conv => whnf
    refine ⟨fun c4 => ?_, fun c4 => ?_⟩
    · skip
      conv => whnf
      exact ⟨trivial, ⟨Nat.le_of_ble_eq_true rfl, Nat.le_of_ble_eq_true rfl⟩, _, rfl, sc, _, rfl⟩
    · skip
      conv => whnf
      refine ⟨_, rfl, ky, fun o5 eo => ?_⟩
      obtain ⟨b6, eb6, kb6⟩ := hG.2.2.1 _ ky
      obtain rfl : o5 = some b6 := eo.symm.trans eb6
      conv => whnf
      refine ⟨_, rfl, kz, fun o7 eo => ?_⟩
      obtain ⟨b8, eb8, kb8⟩ := hG.2.2.1 _ kz
      obtain rfl : o7 = some b8 := eo.symm.trans eb8
      conv => whnf
      refine ⟨fun c9 => ?_, fun c9 => ?_⟩
      · skip
        conv => whnf
        exact ⟨trivial, ⟨Nat.le_of_ble_eq_true rfl, Nat.le_of_ble_eq_true rfl⟩, _, rfl, sc, _, rfl⟩
      · skip
        conv => whnf
        refine ⟨_, rfl, ky, fun x10 ex10 => ?_⟩
        conv => whnf
        refine ⟨_, rfl, kz, fun o11 eo => ?_⟩
        obtain ⟨b12, eb12, kb12⟩ := hG.2.2.1 _ kz
        obtain rfl : o11 = some b12 := eo.symm.trans eb12
        conv => whnf
        refine ⟨_, rfl, kb12, fun x13 ex13 => ?_⟩
        conv => whnf
        refine ⟨kz, rfl, _, _, _, _, _, _, c_Run_bit kz, ⟨Nat.le_of_ble_eq_true rfl, Nat.le_of_ble_eq_true rfl, Nat.le_of_ble_eq_true rfl, Nat.le_of_ble_eq_true rfl⟩, fun _ _ z => False.elim z, ?_⟩
        rintro v9 h9 ⟨rfl, r14, rfl⟩
        conv => whnf
        refine ⟨_, rfl, kz, fun x15 ex15 => ?_⟩
        conv => whnf
        refine ⟨_, rfl, ky, fun o16 eo => ?_⟩
        obtain ⟨b17, eb17, kb17⟩ := hG.2.2.1 _ ky
        obtain rfl : o16 = some b17 := eo.symm.trans eb17
        conv => whnf
        refine ⟨_, rfl, kb17, fun x18 ex18 => ?_⟩
        conv => whnf
        refine ⟨ky, rfl, _, _, _, _, _, _, c_Run_bit ky, ⟨Nat.le_of_ble_eq_true rfl, Nat.le_of_ble_eq_true rfl, Nat.le_of_ble_eq_true rfl, Nat.le_of_ble_eq_true rfl⟩, fun _ _ z => False.elim z, ?_⟩
        rintro v9 h9 ⟨rfl, r19, rfl⟩
        conv => whnf
        refine ⟨ky, rfl, _, _, _, _, _, _, c_Run_countMissed (h := h) hG sc ky, ⟨Nat.le_of_ble_eq_true rfl, Nat.le_of_ble_eq_true rfl, Nat.le_of_ble_eq_true rfl, Nat.le_of_ble_eq_true rfl⟩, fun _ _ z => False.elim z, ?_⟩
        rintro v9 h9 ⟨it21, rfl, sit21, r20, rfl⟩
        conv => whnf
        refine ⟨kz, rfl, _, _, _, _, _, _, c_Run_countMissed (h := h) hG sit21 kz, ⟨Nat.le_of_ble_eq_true rfl, Nat.le_of_ble_eq_true rfl, Nat.le_of_ble_eq_true rfl, Nat.le_of_ble_eq_true rfl⟩, fun _ _ z => False.elim z, ?_⟩
        rintro v9 h9 ⟨it23, rfl, sit23, r22, rfl⟩
        conv => whnf
        refine ⟨rfl, _, _, _, _, _, _, c_Integer_bitCount, ⟨Nat.le_of_ble_eq_true rfl, Nat.le_of_ble_eq_true rfl, Nat.le_of_ble_eq_true rfl, Nat.le_of_ble_eq_true rfl⟩, fun _ _ z => False.elim z, ?_⟩
        rintro v9 h9 ⟨rfl, r24, rfl⟩
        conv => whnf
        refine ⟨rfl, _, _, _, _, _, _, c_Integer_bitCount, ⟨Nat.le_of_ble_eq_true rfl, Nat.le_of_ble_eq_true rfl, Nat.le_of_ble_eq_true rfl, Nat.le_of_ble_eq_true rfl⟩, fun _ _ z => False.elim z, ?_⟩
        rintro v9 h9 ⟨rfl, r25, rfl⟩
        conv => whnf
        exact ⟨trivial, ⟨Nat.le_of_ble_eq_true rfl, Nat.le_of_ble_eq_true rfl⟩, _, rfl, sit23, _, rfl⟩
