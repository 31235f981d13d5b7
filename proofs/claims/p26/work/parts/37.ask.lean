set_option maxHeartbeats 4000000 in
set_option maxRecDepth 20000 in
theorem c_G_findBestPair {h : j_H} {it : Nat → Nat → Int32} {x : Nat} (hW : j_WF h x) (sc : j_Sc j_sf h it)  : j_Ct 99 4 87 0 0 [j_r (some x)] (j_wi h it) (fun v h' => ∃ it', h' = j_wi h it' ∧ j_Sc j_sf h it' ∧ ∃ r, v = some (j_i r)) j_no := by
  refine j_intro km_99 (Nat.le_of_ble_eq_true rfl) ?_
  intro J hJ hF
  obtain ⟨kx, hG, L0, L1, L2, e0, l0, e1, l1, e2, l2, ap, pn⟩ := id hW
  have b0 := l0.2.1; have b1 := l1.2.1; have b2 := l2.2.1; have d0 := l0.2.2.1; have d1 := l1.2.2.1; have d2 := l2.2.2.1
  refine hJ [10, 26] 400 _ _ _ _ _ _ ?_
  conv => whnf
  refine ⟨kx, rfl, _, _, _, _, _, _, c_G_markRuns (h := h) hW sc, ⟨Nat.le_of_ble_eq_true rfl, Nat.le_of_ble_eq_true rfl, Nat.le_of_ble_eq_true rfl, Nat.le_of_ble_eq_true rfl⟩, fun _ _ z => False.elim z, ?_⟩
  rintro v9 h9 ⟨it2, rfl, sit2, rfl⟩
  have L10 : ∀ (m : Nat) (v3 : Int32) (v4 : Int32) (v5 : Int32) (it : Nat → Nat → Int32) , j_Sc j_sf h it → 0 ≤ v5.toInt → (2147483647 - v5.toInt) < (m : Int) → J 10 [some (j_r (some x)), some (j_i v3), some (j_i v4), some (j_i v5), none, none] [] (j_wi h it) 0 0 := by
    intro m
    induction m with
    | zero => intro v3 v4 v5 it sc hn hm; exact absurd hm (by have := j_ub v5; omega)
    | succ m ih10 =>
      intro v3 v4 v5 it sc hn hm
      have uv3 := j_ub v3; have lv3 := j_lb v3
      have uv4 := j_ub v4; have lv4 := j_lb v4
      have uv5 := j_ub v5; have lv5 := j_lb v5
      refine hJ [10, 26] 400 _ _ _ _ _ _ ?_
      conv => whnf
      refine ⟨_, rfl, kx, fun o6 eo => ?_⟩
      obtain rfl : o6 = some L1 := eo.symm.trans e1
      conv => whnf
      refine ⟨l1.1, rfl, _, _, _, _, _, _, c_AL_size (h := h) l1 sc j_sf_ok, ⟨Nat.le_of_ble_eq_true rfl, Nat.le_of_ble_eq_true rfl, Nat.le_of_ble_eq_true rfl, Nat.le_of_ble_eq_true rfl⟩, fun _ _ z => False.elim z, ?_⟩
      rintro v9 h9 ⟨rfl, rfl⟩
      conv => whnf
      refine ⟨fun c7 => ?_, fun c7 => ?_⟩
      · skip
        conv => whnf
        exact ⟨trivial, ⟨Nat.le_of_ble_eq_true rfl, Nat.le_of_ble_eq_true rfl⟩, _, rfl, sc, _, rfl⟩
      · skip
        have L26 : ∀ (m : Nat) (v8 : Int32) (v9 : Int32) (v10 : Int32) (it : Nat → Nat → Int32) , j_Sc j_sf h it → 0 ≤ v10.toInt → (2147483647 - v10.toInt) < (m : Int) → J 26 [some (j_r (some x)), some (j_i v8), some (j_i v9), some (j_i v5), some (j_i v10), none] [] (j_wi h it) 0 0 := by
          intro m
          induction m with
          | zero => intro v8 v9 v10 it sc hn hm; exact absurd hm (by have := j_ub v10; omega)
          | succ m ih26 =>
            intro v8 v9 v10 it sc hn hm
            have uv8 := j_ub v8; have lv8 := j_lb v8
            have uv9 := j_ub v9; have lv9 := j_lb v9
            have uv10 := j_ub v10; have lv10 := j_lb v10
            refine hJ [10, 26] 400 _ _ _ _ _ _ ?_
            conv => whnf
            refine ⟨_, rfl, kx, fun o11 eo => ?_⟩
            obtain rfl : o11 = some L1 := eo.symm.trans e1
            conv => whnf
            refine ⟨l1.1, rfl, _, _, _, _, _, _, c_AL_size (h := h) l1 sc j_sf_ok, ⟨Nat.le_of_ble_eq_true rfl, Nat.le_of_ble_eq_true rfl, Nat.le_of_ble_eq_true rfl, Nat.le_of_ble_eq_true rfl⟩, fun _ _ z => False.elim z, ?_⟩
            rintro v9 h9 ⟨rfl, rfl⟩
            conv => whnf
            refine ⟨fun c12 => ?_, fun c12 => ?_⟩
            · skip
              have t13 : (v5 + Int32.ofInt 1).toInt = v5.toInt + 1 := j_inc1 (by omega)
              exact j_use hF (ih10 _ _ _ _ sc (by omega) (by omega)) (And.intro rfl (And.intro rfl (And.intro rfl (And.intro rfl trivial))))
            · skip
              conv => whnf
              refine ⟨_, rfl, kx, fun o14 eo => ?_⟩
              obtain rfl : o14 = some L1 := eo.symm.trans e1
              conv => whnf
              refine ⟨l1.1, rfl, _, _, _, _, _, _, c_AL_get (h := h) l1 sc j_sf_ok (by omega) (by omega), ⟨Nat.le_of_ble_eq_true rfl, Nat.le_of_ble_eq_true rfl, Nat.le_of_ble_eq_true rfl, Nat.le_of_ble_eq_true rfl⟩, fun _ _ z => False.elim z, ?_⟩
              rintro v9 h9 ⟨rfl, g15, rfl, kg15, xg15⟩
              conv => whnf
              refine ⟨Or.inr ⟨_, rfl, kg15⟩, ?_⟩
              conv => whnf
              refine ⟨_, rfl, kx, fun o16 eo => ?_⟩
              obtain rfl : o16 = some L1 := eo.symm.trans e1
              conv => whnf
              refine ⟨l1.1, rfl, _, _, _, _, _, _, c_AL_get (h := h) l1 sc j_sf_ok (by omega) (by omega), ⟨Nat.le_of_ble_eq_true rfl, Nat.le_of_ble_eq_true rfl, Nat.le_of_ble_eq_true rfl, Nat.le_of_ble_eq_true rfl⟩, fun _ _ z => False.elim z, ?_⟩
              rintro v9 h9 ⟨rfl, g17, rfl, kg17, xg17⟩
              conv => whnf
              refine ⟨Or.inr ⟨_, rfl, kg17⟩, ?_⟩
              conv => whnf
              refine ⟨rfl, _, _, _, _, _, _, c_G_doublesLessBySwap (h := h) hG sc kg15 kg17, ⟨Nat.le_of_ble_eq_true rfl, Nat.le_of_ble_eq_true rfl, Nat.le_of_ble_eq_true rfl, Nat.le_of_ble_eq_true rfl⟩, fun _ _ z => False.elim z, ?_⟩
              rintro v9 h9 ⟨it19, rfl, sit19, r18, rfl⟩
              have b20 := j_ub r18
              conv => whnf
              refine ⟨fun c21 => ?_, fun c21 => ?_⟩
              · skip
                have t22 : (v10 + Int32.ofInt 1).toInt = v10.toInt + 1 := j_inc1 (by omega)
                exact j_use hF (ih26 _ _ _ _ sit19 (by omega) (by omega)) (And.intro rfl (And.intro rfl (And.intro rfl (And.intro rfl (And.intro rfl trivial)))))
              · skip
                have t23 : (v10 + Int32.ofInt 1).toInt = v10.toInt + 1 := j_inc1 (by omega)
                exact j_use hF (ih26 _ _ _ _ sit19 (by omega) (by omega)) (And.intro rfl (And.intro rfl (And.intro rfl (And.intro rfl (And.intro rfl trivial)))))
        have t24 : (v5 + Int32.ofInt 1).toInt = v5.toInt + 1 := j_inc1 (by omega)
        exact j_use hF (L26 4294967296 _ _ _ _ sc (by omega) (by omega)) (And.intro rfl (And.intro rfl (And.intro rfl (And.intro rfl (And.intro rfl trivial)))))
  have q25 : ((Int32.ofInt (0))).toInt = 0 := by decide
  exact j_use hF (L10 4294967296 _ _ _ _ sit2 (by omega) (by omega)) (And.intro rfl (And.intro rfl (And.intro rfl (And.intro rfl trivial))))
set_option maxHeartbeats 4000000 in
set_option maxRecDepth 20000 in
theorem c_G_grainFact {h : j_H} {it : Nat → Nat → Int32} {x : Nat} {z : Nat} {a : Int32} (hW : j_WF h x) (sc : j_Sc j_sf h it) (kz : j_kd h z = some (.inl 4)) : j_Ct 102 4 88 0 0 [j_r (some x), j_r (some z), j_i a] (j_wi h it) (fun v h' => ∃ it', h' = j_wi h it' ∧ j_Sc j_sf h it' ∧ ∃ r, v = some (j_i r)) j_no := by
  refine j_intro km_102 (Nat.le_of_ble_eq_true rfl) ?_
  intro J hJ hF
  obtain ⟨kx, hG, L0, L1, L2, e0, l0, e1, l1, e2, l2, ap, pn⟩ := id hW
  have b0 := l0.2.1; have b1 := l1.2.1; have b2 := l2.2.1; have d0 := l0.2.2.1; have d1 := l1.2.2.1; have d2 := l2.2.2.1
  refine hJ [] 400 _ _ _ _ _ _ ?_
  conv => whnf
  refine ⟨And.intro (fun c1 => ?_) (And.intro (fun c1 => ?_) (And.intro (fun c1 => ?_) (And.intro (fun c1 => ?_) (And.intro (fun c1 => ?_) (And.intro (fun c1 => ?_) (And.intro (fun c1 => ?_) (And.intro (fun c1 => ?_) (And.intro (fun c1 => ?_) (trivial))))))))), fun c1 => ?_⟩
  · skip
    conv => whnf
    refine ⟨_, rfl, kz, fun o2 eo => ?_⟩
    obtain ⟨b3, eb3, kb3⟩ := hG.1 _ kz
    obtain rfl : o2 = some b3 := eo.symm.trans eb3
    conv => whnf
    refine ⟨_, rfl, kb3, fun x4 ex4 => ?_⟩
    conv => whnf
    exact ⟨trivial, ⟨Nat.le_of_ble_eq_true rfl, Nat.le_of_ble_eq_true rfl⟩, _, rfl, sc, _, rfl⟩
  · skip
    conv => whnf
    refine ⟨_, rfl, kz, fun o5 eo => ?_⟩
    obtain ⟨b6, eb6, kb6⟩ := hG.1 _ kz
    obtain rfl : o5 = some b6 := eo.symm.trans eb6
    conv => whnf
    refine ⟨_, rfl, kb6, fun x7 ex7 => ?_⟩
    conv => whnf
    exact ⟨trivial, ⟨Nat.le_of_ble_eq_true rfl, Nat.le_of_ble_eq_true rfl⟩, _, rfl, sc, _, rfl⟩
  · skip
    conv => whnf
    refine ⟨_, rfl, kz, fun o8 eo => ?_⟩
    obtain ⟨b9, eb9, kb9⟩ := hG.1 _ kz
    obtain rfl : o8 = some b9 := eo.symm.trans eb9
    conv => whnf
    refine ⟨_, rfl, kb9, fun x10 ex10 => ?_⟩
    conv => whnf
    exact ⟨trivial, ⟨Nat.le_of_ble_eq_true rfl, Nat.le_of_ble_eq_true rfl⟩, _, rfl, sc, _, rfl⟩
  · skip
    conv => whnf
    refine ⟨_, rfl, kz, fun o11 eo => ?_⟩
    obtain ⟨b12, eb12, kb12⟩ := hG.2.1 _ kz
    obtain rfl : o11 = some b12 := eo.symm.trans eb12
    conv => whnf
    refine ⟨_, rfl, kb12, fun x13 ex13 => ?_⟩
    conv => whnf
    exact ⟨trivial, ⟨Nat.le_of_ble_eq_true rfl, Nat.le_of_ble_eq_true rfl⟩, _, rfl, sc, _, rfl⟩
  · skip
    conv => whnf
    refine ⟨_, rfl, kz, fun o14 eo => ?_⟩
    obtain ⟨b15, eb15, kb15⟩ := hG.2.1 _ kz
    obtain rfl : o14 = some b15 := eo.symm.trans eb15
    conv => whnf
    refine ⟨_, rfl, kb15, fun x16 ex16 => ?_⟩
    conv => whnf
    exact ⟨trivial, ⟨Nat.le_of_ble_eq_true rfl, Nat.le_of_ble_eq_true rfl⟩, _, rfl, sc, _, rfl⟩
  · skip
    conv => whnf
    refine ⟨_, rfl, kz, fun o17 eo => ?_⟩
    obtain ⟨b18, eb18, kb18⟩ := hG.2.1 _ kz
    obtain rfl : o17 = some b18 := eo.symm.trans eb18
    conv => whnf
    refine ⟨_, rfl, kb18, fun x19 ex19 => ?_⟩
    conv => whnf
    exact ⟨trivial, ⟨Nat.le_of_ble_eq_true rfl, Nat.le_of_ble_eq_true rfl⟩, _, rfl, sc, _, rfl⟩
  · skip
    conv => whnf
    refine ⟨_, rfl, kx, fun x20 ex20 => ?_⟩
    conv => whnf
    refine ⟨_, rfl, kz, fun x21 ex21 => ?_⟩
    conv => whnf
    exact ⟨trivial, ⟨Nat.le_of_ble_eq_true rfl, Nat.le_of_ble_eq_true rfl⟩, _, rfl, sc, _, rfl⟩
  · skip
    conv => whnf
    refine ⟨_, rfl, kz, fun x22 ex22 => ?_⟩
    conv => whnf
    exact ⟨trivial, ⟨Nat.le_of_ble_eq_true rfl, Nat.le_of_ble_eq_true rfl⟩, _, rfl, sc, _, rfl⟩
  · skip
    conv => whnf
    refine ⟨_, rfl, kz, fun x23 ex23 => ?_⟩
    conv => whnf
    refine ⟨rfl, _, _, _, _, _, _, c_G_oneIf, ⟨Nat.le_of_ble_eq_true rfl, Nat.le_of_ble_eq_true rfl, Nat.le_of_ble_eq_true rfl, Nat.le_of_ble_eq_true rfl⟩, fun _ _ z => False.elim z, ?_⟩
    rintro v9 h9 ⟨rfl, r24, rfl⟩
    conv => whnf
    exact ⟨trivial, ⟨Nat.le_of_ble_eq_true rfl, Nat.le_of_ble_eq_true rfl⟩, _, rfl, sc, _, rfl⟩
  · skip
    conv => whnf
    refine ⟨kx, rfl, _, _, _, _, _, _, c_G_countRunsLabelled (h := h) hW sc kz, ⟨Nat.le_of_ble_eq_true rfl, Nat.le_of_ble_eq_true rfl, Nat.le_of_ble_eq_true rfl, Nat.le_of_ble_eq_true rfl⟩, fun _ _ z => False.elim z, ?_⟩
    rintro v9 h9 ⟨it26, rfl, sit26, r25, rfl⟩
    conv => whnf
    exact ⟨trivial, ⟨Nat.le_of_ble_eq_true rfl, Nat.le_of_ble_eq_true rfl⟩, _, rfl, sit26, _, rfl⟩
set_option maxHeartbeats 4000000 in
set_option maxRecDepth 20000 in
theorem c_G_runFact {h : j_H} {it : Nat → Nat → Int32} {x : Nat} {z : Nat} {a : Int32} (hW : j_WF h x) (sc : j_Sc j_sf h it) (kz : j_kd h z = some (.inl 7)) : j_Ct 134 1 21 0 0 [j_r (some x), j_r (some z), j_i a] (j_wi h it) (fun v h' => ∃ it', h' = j_wi h it' ∧ j_Sc j_sf h it' ∧ ∃ r, v = some (j_i r)) j_no := by
  refine j_intro km_134 (Nat.le_of_ble_eq_true rfl) ?_
  intro J hJ hF
  obtain ⟨kx, hG, L0, L1, L2, e0, l0, e1, l1, e2, l2, ap, pn⟩ := id hW
  have b0 := l0.2.1; have b1 := l1.2.1; have b2 := l2.2.1; have d0 := l0.2.2.1; have d1 := l1.2.2.1; have d2 := l2.2.2.1
  refine hJ [] 400 _ _ _ _ _ _ ?_
  conv => whnf
  refine ⟨And.intro (fun c1 => ?_) (And.intro (fun c1 => ?_) (And.intro (fun c1 => ?_) (And.intro (fun c1 => ?_) (And.intro (fun c1 => ?_) (And.intro (fun c1 => ?_) (And.intro (fun c1 => ?_) (trivial))))))), fun c1 => ?_⟩
  · skip
    conv => whnf
    refine ⟨_, rfl, kz, fun o2 eo => ?_⟩
    obtain ⟨b3, eb3, kb3⟩ := hG.2.2.1 _ kz
    obtain rfl : o2 = some b3 := eo.symm.trans eb3
    conv => whnf
    refine ⟨_, rfl, kb3, fun x4 ex4 => ?_⟩
    conv => whnf
    exact ⟨trivial, ⟨Nat.le_of_ble_eq_true rfl, Nat.le_of_ble_eq_true rfl⟩, _, rfl, sc, _, rfl⟩
  · skip
    conv => whnf
    refine ⟨_, rfl, kz, fun x5 ex5 => ?_⟩
    conv => whnf
    exact ⟨trivial, ⟨Nat.le_of_ble_eq_true rfl, Nat.le_of_ble_eq_true rfl⟩, _, rfl, sc, _, rfl⟩
  · skip
    conv => whnf
    refine ⟨_, rfl, kz, fun x6 ex6 => ?_⟩
    conv => whnf
    exact ⟨trivial, ⟨Nat.le_of_ble_eq_true rfl, Nat.le_of_ble_eq_true rfl⟩, _, rfl, sc, _, rfl⟩
  · skip
    conv => whnf
    refine ⟨_, rfl, kz, fun x7 ex7 => ?_⟩
    conv => whnf
    exact ⟨trivial, ⟨Nat.le_of_ble_eq_true rfl, Nat.le_of_ble_eq_true rfl⟩, _, rfl, sc, _, rfl⟩
  · skip
    conv => whnf
    refine ⟨_, rfl, kz, fun x8 ex8 => ?_⟩
    conv => whnf
    exact ⟨trivial, ⟨Nat.le_of_ble_eq_true rfl, Nat.le_of_ble_eq_true rfl⟩, _, rfl, sc, _, rfl⟩
  · skip
    conv => whnf
    refine ⟨_, rfl, kx, fun x9 ex9 => ?_⟩
    conv => whnf
    refine ⟨kz, rfl, _, _, _, _, _, _, c_Run_earlyIn kz, ⟨Nat.le_of_ble_eq_true rfl, Nat.le_of_ble_eq_true rfl, Nat.le_of_ble_eq_true rfl, Nat.le_of_ble_eq_true rfl⟩, fun _ _ z => False.elim z, ?_⟩
    rintro v9 h9 ⟨rfl, r10, rfl⟩
    conv => whnf
    exact ⟨trivial, ⟨Nat.le_of_ble_eq_true rfl, Nat.le_of_ble_eq_true rfl⟩, _, rfl, sc, _, rfl⟩
  · skip
    conv => whnf
    refine ⟨_, rfl, kx, fun x11 ex11 => ?_⟩
    conv => whnf
    refine ⟨kz, rfl, _, _, _, _, _, _, c_Run_lateIn kz, ⟨Nat.le_of_ble_eq_true rfl, Nat.le_of_ble_eq_true rfl, Nat.le_of_ble_eq_true rfl, Nat.le_of_ble_eq_true rfl⟩, fun _ _ z => False.elim z, ?_⟩
    rintro v9 h9 ⟨rfl, r12, rfl⟩
    conv => whnf
    exact ⟨trivial, ⟨Nat.le_of_ble_eq_true rfl, Nat.le_of_ble_eq_true rfl⟩, _, rfl, sc, _, rfl⟩
  · skip
    conv => whnf
    refine ⟨_, rfl, kz, fun x13 ex13 => ?_⟩
    conv => whnf
    refine ⟨rfl, _, _, _, _, _, _, c_G_oneIf, ⟨Nat.le_of_ble_eq_true rfl, Nat.le_of_ble_eq_true rfl, Nat.le_of_ble_eq_true rfl, Nat.le_of_ble_eq_true rfl⟩, fun _ _ z => False.elim z, ?_⟩
    rintro v9 h9 ⟨rfl, r14, rfl⟩
    conv => whnf
    exact ⟨trivial, ⟨Nat.le_of_ble_eq_true rfl, Nat.le_of_ble_eq_true rfl⟩, _, rfl, sc, _, rfl⟩
set_option maxHeartbeats 4000000 in
set_option maxRecDepth 20000 in
theorem c_G_printFact {h : j_H} {it : Nat → Nat → Int32} {x : Nat} {z : Nat} {a : Int32} (hW : j_WF h x) (sc : j_Sc j_sf h it) (kz : j_kd h z = some (.inl 6)) : j_Ct 131 2 43 0 0 [j_r (some x), j_r (some z), j_i a] (j_wi h it) (fun v h' => ∃ it', h' = j_wi h it' ∧ j_Sc j_sf h it' ∧ ∃ r, v = some (j_i r)) j_no := by
  refine j_intro km_131 (Nat.le_of_ble_eq_true rfl) ?_
  intro J hJ hF
  obtain ⟨kx, hG, L0, L1, L2, e0, l0, e1, l1, e2, l2, ap, pn⟩ := id hW
  have b0 := l0.2.1; have b1 := l1.2.1; have b2 := l2.2.1; have d0 := l0.2.2.1; have d1 := l1.2.2.1; have d2 := l2.2.2.1
  refine hJ [] 400 _ _ _ _ _ _ ?_
  conv => whnf
  refine ⟨And.intro (fun c1 => ?_) (And.intro (fun c1 => ?_) (And.intro (fun c1 => ?_) (And.intro (fun c1 => ?_) (trivial)))), fun c1 => ?_⟩
  · skip
    conv => whnf
    refine ⟨_, rfl, kz, fun o2 eo => ?_⟩
    obtain ⟨b3, eb3, kb3⟩ := hG.2.2.2.1 _ kz
    obtain rfl : o2 = some b3 := eo.symm.trans eb3
    conv => whnf
    refine ⟨_, rfl, kb3, fun x4 ex4 => ?_⟩
    conv => whnf
    exact ⟨trivial, ⟨Nat.le_of_ble_eq_true rfl, Nat.le_of_ble_eq_true rfl⟩, _, rfl, sc, _, rfl⟩
  · skip
    conv => whnf
    refine ⟨_, rfl, kz, fun x5 ex5 => ?_⟩
    conv => whnf
    exact ⟨trivial, ⟨Nat.le_of_ble_eq_true rfl, Nat.le_of_ble_eq_true rfl⟩, _, rfl, sc, _, rfl⟩
  · skip
    conv => whnf
    refine ⟨_, rfl, kz, fun o6 eo => ?_⟩
    rcases hG.2.2.2.2 _ kz with eb7 | ⟨b7, eb7, kb7, -⟩
    · obtain rfl : o6 = none := eo.symm.trans eb7
      conv => whnf
      refine ⟨fun _ => ?_, fun _ z => nomatch z⟩
      conv => whnf
      exact ⟨trivial, ⟨Nat.le_of_ble_eq_true rfl, Nat.le_of_ble_eq_true rfl⟩, _, rfl, sc, _, rfl⟩
    · obtain rfl : o6 = some b7 := eo.symm.trans eb7
      conv => whnf
      refine ⟨fun z => (nomatch z), fun _ _ => ?_⟩
      conv => whnf
      refine ⟨_, rfl, kz, fun o8 eo => ?_⟩
      obtain rfl : o8 = some b7 := eo.symm.trans eb7
      conv => whnf
      refine ⟨_, rfl, kb7, fun x9 ex9 => ?_⟩
      conv => whnf
      exact ⟨trivial, ⟨Nat.le_of_ble_eq_true rfl, Nat.le_of_ble_eq_true rfl⟩, _, rfl, sc, _, rfl⟩
  · skip
    conv => whnf
    refine ⟨kx, rfl, _, _, _, _, _, _, c_G_allStandFrom (h := h) hW sc (Or.inr ⟨_, rfl, kz⟩), ⟨Nat.le_of_ble_eq_true rfl, Nat.le_of_ble_eq_true rfl, Nat.le_of_ble_eq_true rfl, Nat.le_of_ble_eq_true rfl⟩, fun _ _ z => False.elim z, ?_⟩
    rintro v9 h9 ⟨it11, rfl, sit11, r10, rfl, zr10⟩
    conv => whnf
    refine ⟨rfl, _, _, _, _, _, _, c_G_oneIf, ⟨Nat.le_of_ble_eq_true rfl, Nat.le_of_ble_eq_true rfl, Nat.le_of_ble_eq_true rfl, Nat.le_of_ble_eq_true rfl⟩, fun _ _ z => False.elim z, ?_⟩
    rintro v9 h9 ⟨rfl, r12, rfl⟩
    conv => whnf
    exact ⟨trivial, ⟨Nat.le_of_ble_eq_true rfl, Nat.le_of_ble_eq_true rfl⟩, _, rfl, sit11, _, rfl⟩
  · skip
    conv => whnf
    refine ⟨rfl, _, _, _, _, _, _, c_G_countPrintsBelow (h := h) hG sc kz, ⟨Nat.le_of_ble_eq_true rfl, Nat.le_of_ble_eq_true rfl, Nat.le_of_ble_eq_true rfl, Nat.le_of_ble_eq_true rfl⟩, fun _ _ z => False.elim z, ?_⟩
    rintro v9 h9 ⟨it14, rfl, sit14, r13, rfl⟩
    conv => whnf
    exact ⟨trivial, ⟨Nat.le_of_ble_eq_true rfl, Nat.le_of_ble_eq_true rfl⟩, _, rfl, sit14, _, rfl⟩
set_option maxHeartbeats 4000000 in
set_option maxRecDepth 20000 in
theorem c_G_labFact {h : j_H} {it : Nat → Nat → Int32} {x : Nat} {a : Int32} (hW : j_WF h x) (sc : j_Sc j_sf h it)  : j_Ct 111 6 135 0 0 [j_r (some x), j_i a] (j_wi h it) (fun v h' => ∃ it', h' = j_wi h it' ∧ j_Sc j_sf h it' ∧ ∃ r, v = some (j_i r)) j_no := by
  refine j_intro km_111 (Nat.le_of_ble_eq_true rfl) ?_
  intro J hJ hF
  obtain ⟨kx, hG, L0, L1, L2, e0, l0, e1, l1, e2, l2, ap, pn⟩ := id hW
  have b0 := l0.2.1; have b1 := l1.2.1; have b2 := l2.2.1; have d0 := l0.2.2.1; have d1 := l1.2.2.1; have d2 := l2.2.2.1
  refine hJ [] 400 _ _ _ _ _ _ ?_
  conv => whnf
  refine ⟨And.intro (fun c1 => ?_) (And.intro (fun c1 => ?_) (And.intro (fun c1 => ?_) (And.intro (fun c1 => ?_) (And.intro (fun c1 => ?_) (And.intro (fun c1 => ?_) (And.intro (fun c1 => ?_) (And.intro (fun c1 => ?_) (And.intro (fun c1 => ?_) (And.intro (fun c1 => ?_) (trivial)))))))))), fun c1 => ?_⟩
  · skip
    conv => whnf
    refine ⟨_, rfl, kx, fun x2 ex2 => ?_⟩
    conv => whnf
    exact ⟨trivial, ⟨Nat.le_of_ble_eq_true rfl, Nat.le_of_ble_eq_true rfl⟩, _, rfl, sc, _, rfl⟩
  · skip
    conv => whnf
    refine ⟨_, rfl, kx, fun o3 eo => ?_⟩
    obtain rfl : o3 = some L0 := eo.symm.trans e0
    conv => whnf
    refine ⟨l0.1, rfl, _, _, _, _, _, _, c_AL_size (h := h) l0 sc j_sf_ok, ⟨Nat.le_of_ble_eq_true rfl, Nat.le_of_ble_eq_true rfl, Nat.le_of_ble_eq_true rfl, Nat.le_of_ble_eq_true rfl⟩, fun _ _ z => False.elim z, ?_⟩
    rintro v9 h9 ⟨rfl, rfl⟩
    conv => whnf
    exact ⟨trivial, ⟨Nat.le_of_ble_eq_true rfl, Nat.le_of_ble_eq_true rfl⟩, _, rfl, sc, _, rfl⟩
  · skip
    conv => whnf
    refine ⟨kx, rfl, _, _, _, _, _, _, c_G_countRunsThatStand (h := h) hW sc, ⟨Nat.le_of_ble_eq_true rfl, Nat.le_of_ble_eq_true rfl, Nat.le_of_ble_eq_true rfl, Nat.le_of_ble_eq_true rfl⟩, fun _ _ z => False.elim z, ?_⟩
    rintro v9 h9 ⟨it5, rfl, sit5, r4, rfl⟩
    conv => whnf
    exact ⟨trivial, ⟨Nat.le_of_ble_eq_true rfl, Nat.le_of_ble_eq_true rfl⟩, _, rfl, sit5, _, rfl⟩
  · skip
    conv => whnf
    refine ⟨kx, rfl, _, _, _, _, _, _, c_G_countPrintsThatStand (h := h) hW sc, ⟨Nat.le_of_ble_eq_true rfl, Nat.le_of_ble_eq_true rfl, Nat.le_of_ble_eq_true rfl, Nat.le_of_ble_eq_true rfl⟩, fun _ _ z => False.elim z, ?_⟩
    rintro v9 h9 ⟨it7, rfl, sit7, r6, rfl⟩
    conv => whnf
    exact ⟨trivial, ⟨Nat.le_of_ble_eq_true rfl, Nat.le_of_ble_eq_true rfl⟩, _, rfl, sit7, _, rfl⟩
  · skip
    conv => whnf
    refine ⟨_, rfl, kx, fun x8 ex8 => ?_⟩
    conv => whnf
    exact ⟨trivial, ⟨Nat.le_of_ble_eq_true rfl, Nat.le_of_ble_eq_true rfl⟩, _, rfl, sc, _, rfl⟩
  · skip
    conv => whnf
    refine ⟨kx, rfl, _, _, _, _, _, _, c_G_countDoubles (h := h) hW sc, ⟨Nat.le_of_ble_eq_true rfl, Nat.le_of_ble_eq_true rfl, Nat.le_of_ble_eq_true rfl, Nat.le_of_ble_eq_true rfl⟩, fun _ _ z => False.elim z, ?_⟩
    rintro v9 h9 ⟨it10, rfl, sit10, r9, rfl⟩
    conv => whnf
    exact ⟨trivial, ⟨Nat.le_of_ble_eq_true rfl, Nat.le_of_ble_eq_true rfl⟩, _, rfl, sit10, _, rfl⟩
  · skip
    conv => whnf
    refine ⟨kx, rfl, _, _, _, _, _, _, c_G_countQuarrels (h := h) hW sc, ⟨Nat.le_of_ble_eq_true rfl, Nat.le_of_ble_eq_true rfl, Nat.le_of_ble_eq_true rfl, Nat.le_of_ble_eq_true rfl⟩, fun _ _ z => False.elim z, ?_⟩
    rintro v9 h9 ⟨it12, rfl, sit12, r11, rfl⟩
    conv => whnf
    exact ⟨trivial, ⟨Nat.le_of_ble_eq_true rfl, Nat.le_of_ble_eq_true rfl⟩, _, rfl, sit12, _, rfl⟩
  · skip
    conv => whnf
    refine ⟨kx, rfl, _, _, _, _, _, _, c_G_findFewest (h := h) hW sc, ⟨Nat.le_of_ble_eq_true rfl, Nat.le_of_ble_eq_true rfl, Nat.le_of_ble_eq_true rfl, Nat.le_of_ble_eq_true rfl⟩, fun _ _ z => False.elim z, ?_⟩
    rintro v9 h9 ⟨it14, rfl, sit14, r13, rfl⟩
    conv => whnf
    refine ⟨rfl, _, _, _, _, _, _, c_Integer_bitCount, ⟨Nat.le_of_ble_eq_true rfl, Nat.le_of_ble_eq_true rfl, Nat.le_of_ble_eq_true rfl, Nat.le_of_ble_eq_true rfl⟩, fun _ _ z => False.elim z, ?_⟩
    rintro v9 h9 ⟨rfl, r15, rfl⟩
    conv => whnf
    exact ⟨trivial, ⟨Nat.le_of_ble_eq_true rfl, Nat.le_of_ble_eq_true rfl⟩, _, rfl, sit14, _, rfl⟩
  · skip
    conv => whnf
    refine ⟨_, rfl, kx, fun x16 ex16 => ?_⟩
    conv => whnf
    exact ⟨trivial, ⟨Nat.le_of_ble_eq_true rfl, Nat.le_of_ble_eq_true rfl⟩, _, rfl, sc, _, rfl⟩
  · skip
    conv => whnf
    refine ⟨_, rfl, kx, fun x17 ex17 => ?_⟩
    conv => whnf
    exact ⟨trivial, ⟨Nat.le_of_ble_eq_true rfl, Nat.le_of_ble_eq_true rfl⟩, _, rfl, sc, _, rfl⟩
  · skip
    conv => whnf
    refine ⟨kx, rfl, _, _, _, _, _, _, c_G_countMotesEver (h := h) hW sc, ⟨Nat.le_of_ble_eq_true rfl, Nat.le_of_ble_eq_true rfl, Nat.le_of_ble_eq_true rfl, Nat.le_of_ble_eq_true rfl⟩, fun _ _ z => False.elim z, ?_⟩
    rintro v9 h9 ⟨it19, rfl, sit19, r18, rfl⟩
    conv => whnf
    exact ⟨trivial, ⟨Nat.le_of_ble_eq_true rfl, Nat.le_of_ble_eq_true rfl⟩, _, rfl, sit19, _, rfl⟩
