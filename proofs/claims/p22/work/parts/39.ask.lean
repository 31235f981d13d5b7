set_option maxHeartbeats 4000000 in
set_option maxRecDepth 20000 in
theorem c_G_digestGrains {h : j_H} {it : Nat → Nat → Int32} {x : Nat} {a : Int64} (hW : j_WF h x) (sc : j_Sc j_sf h it)  : j_Ct 93 5 114 0 0 [j_r (some x), j_l a] (j_wi h it) (fun v h' => ∃ it', h' = j_wi h it' ∧ j_Sc j_sf h it' ∧ ∃ r, v = some (j_l r)) j_no := by
  refine j_intro km_93 (Nat.le_of_ble_eq_true rfl) ?_
  intro J hJ hF
  obtain ⟨kx, hG, L0, L1, L2, e0, l0, e1, l1, e2, l2, ap, pn⟩ := id hW
  have b0 := l0.2.1; have b1 := l1.2.1; have b2 := l2.2.1; have d0 := l0.2.2.1; have d1 := l1.2.2.1; have d2 := l2.2.2.1
  refine hJ [5, 34] 400 _ _ _ _ _ _ ?_
  have L5 : ∀ (m : Nat) (w1 : Int64) (w2 : Int64) (v3 : Int32) (it : Nat → Nat → Int32) , j_Sc j_sf h it → 0 ≤ v3.toInt → (2147483647 - v3.toInt) < (m : Int) → J 5 [some (j_r (some x)), some (j_l w1), none, some (j_l w2), none, some (j_i v3), none, none] [] (j_wi h it) 0 0 := by
    intro m
    induction m with
    | zero => intro w1 w2 v3 it sc hn hm; exact absurd hm (by have := j_ub v3; omega)
    | succ m ih5 =>
      intro w1 w2 v3 it sc hn hm
      have uv3 := j_ub v3; have lv3 := j_lb v3
      refine hJ [5, 34] 400 _ _ _ _ _ _ ?_
      conv => whnf
      refine ⟨_, rfl, kx, fun o4 eo => ?_⟩
      obtain rfl : o4 = some L0 := eo.symm.trans e0
      conv => whnf
      refine ⟨l0.1, rfl, _, _, _, _, _, _, c_AL_size (h := h) l0 sc j_sf_ok, ⟨Nat.le_of_ble_eq_true rfl, Nat.le_of_ble_eq_true rfl, Nat.le_of_ble_eq_true rfl, Nat.le_of_ble_eq_true rfl⟩, fun _ _ z => False.elim z, ?_⟩
      rintro v9 h9 ⟨rfl, rfl⟩
      conv => whnf
      refine ⟨fun c5 => ?_, fun c5 => ?_⟩
      · skip
        conv => whnf
        exact ⟨rfl, ⟨Nat.le_of_ble_eq_true rfl, Nat.le_of_ble_eq_true rfl⟩, _, rfl, sc, _, rfl⟩
      · skip
        conv => whnf
        refine ⟨_, rfl, kx, fun o6 eo => ?_⟩
        obtain rfl : o6 = some L0 := eo.symm.trans e0
        conv => whnf
        refine ⟨l0.1, rfl, _, _, _, _, _, _, c_AL_get (h := h) l0 sc j_sf_ok (by omega) (by omega), ⟨Nat.le_of_ble_eq_true rfl, Nat.le_of_ble_eq_true rfl, Nat.le_of_ble_eq_true rfl, Nat.le_of_ble_eq_true rfl⟩, fun _ _ z => False.elim z, ?_⟩
        rintro v9 h9 ⟨rfl, g7, rfl, kg7, xg7⟩
        conv => whnf
        refine ⟨Or.inr ⟨_, rfl, kg7⟩, ?_⟩
        have L34 : ∀ (m : Nat) (w8 : Int64) (w9 : Int64) (v10 : Int32) (it : Nat → Nat → Int32) , j_Sc j_sf h it → 0 ≤ v10.toInt → (2147483647 - v10.toInt) < (m : Int) → J 34 [some (j_r (some x)), some (j_l w8), none, some (j_l w9), none, some (j_i v3), some (j_r (some g7)), some (j_i v10)] [] (j_wi h it) 0 0 := by
          intro m
          induction m with
          | zero => intro w8 w9 v10 it sc hn hm; exact absurd hm (by have := j_ub v10; omega)
          | succ m ih34 =>
            intro w8 w9 v10 it sc hn hm
            have uv10 := j_ub v10; have lv10 := j_lb v10
            refine hJ [5, 34] 400 _ _ _ _ _ _ ?_
            have q11 : ((Int8.ofInt (9)).toInt32).toInt = 9 := by decide
            conv => whnf
            refine ⟨fun c12 => ?_, fun c12 => ?_⟩
            · skip
              conv => whnf
              refine ⟨kx, rfl, _, _, _, _, _, _, c_G_earlyOf (h := h) hW sc kg7, ⟨Nat.le_of_ble_eq_true rfl, Nat.le_of_ble_eq_true rfl, Nat.le_of_ble_eq_true rfl, Nat.le_of_ble_eq_true rfl⟩, fun _ _ z => False.elim z, ?_⟩
              rintro v9 h9 ⟨it14, rfl, sit14, r13, rfl⟩
              conv => whnf
              refine ⟨kx, rfl, _, _, _, _, _, _, c_G_lateOf (h := h) hW sit14 kg7, ⟨Nat.le_of_ble_eq_true rfl, Nat.le_of_ble_eq_true rfl, Nat.le_of_ble_eq_true rfl, Nat.le_of_ble_eq_true rfl⟩, fun _ _ z => False.elim z, ?_⟩
              rintro v9 h9 ⟨it16, rfl, sit16, r15, rfl⟩
              conv => whnf
              refine ⟨kx, rfl, _, _, _, _, _, _, c_G_narrowedEarly (h := h) hW sit16 kg7, ⟨Nat.le_of_ble_eq_true rfl, Nat.le_of_ble_eq_true rfl, Nat.le_of_ble_eq_true rfl, Nat.le_of_ble_eq_true rfl⟩, fun _ _ z => False.elim z, ?_⟩
              rintro v9 h9 ⟨it18, rfl, sit18, r17, rfl⟩
              conv => whnf
              refine ⟨kx, rfl, _, _, _, _, _, _, c_G_narrowedLate (h := h) hW sit18 kg7, ⟨Nat.le_of_ble_eq_true rfl, Nat.le_of_ble_eq_true rfl, Nat.le_of_ble_eq_true rfl, Nat.le_of_ble_eq_true rfl⟩, fun _ _ z => False.elim z, ?_⟩
              rintro v9 h9 ⟨it20, rfl, sit20, r19, rfl⟩
              have t21 : (v3 + Int32.ofInt 1).toInt = v3.toInt + 1 := j_inc1 (by omega)
              exact j_use hF (ih5 _ _ _ _ sit20 (by omega) (by omega)) (And.intro rfl (And.intro rfl (And.intro rfl (And.intro rfl trivial))))
            · skip
              conv => whnf
              refine ⟨kx, rfl, _, _, _, _, _, _, c_G_grainFact (h := h) hW sc kg7, ⟨Nat.le_of_ble_eq_true rfl, Nat.le_of_ble_eq_true rfl, Nat.le_of_ble_eq_true rfl, Nat.le_of_ble_eq_true rfl⟩, fun _ _ z => False.elim z, ?_⟩
              rintro v9 h9 ⟨it23, rfl, sit23, r22, rfl⟩
              have t24 : (v10 + Int32.ofInt 1).toInt = v10.toInt + 1 := j_inc1 (by omega)
              exact j_use hF (ih34 _ _ _ _ sit23 (by omega) (by omega)) (And.intro rfl (And.intro rfl (And.intro rfl (And.intro rfl (And.intro rfl (And.intro rfl trivial))))))
        have q25 : ((Int32.ofInt (0))).toInt = 0 := by decide
        exact j_use hF (L34 4294967296 _ _ _ _ sc (by omega) (by omega)) (And.intro rfl (And.intro rfl (And.intro rfl (And.intro rfl (And.intro rfl (And.intro rfl trivial))))))
  have q26 : ((Int32.ofInt (0))).toInt = 0 := by decide
  exact j_use hF (L5 4294967296 _ _ _ _ sc (by omega) (by omega)) (And.intro rfl (And.intro rfl (And.intro rfl (And.intro rfl trivial))))
set_option maxHeartbeats 4000000 in
set_option maxRecDepth 20000 in
theorem c_G_digestRuns {h : j_H} {it : Nat → Nat → Int32} {x : Nat} {a : Int64} (hW : j_WF h x) (sc : j_Sc j_sf h it)  : j_Ct 95 3 64 0 0 [j_r (some x), j_l a] (j_wi h it) (fun v h' => ∃ it', h' = j_wi h it' ∧ j_Sc j_sf h it' ∧ ∃ r, v = some (j_l r)) j_no := by
  refine j_intro km_95 (Nat.le_of_ble_eq_true rfl) ?_
  intro J hJ hF
  obtain ⟨kx, hG, L0, L1, L2, e0, l0, e1, l1, e2, l2, ap, pn⟩ := id hW
  have b0 := l0.2.1; have b1 := l1.2.1; have b2 := l2.2.1; have d0 := l0.2.2.1; have d1 := l1.2.2.1; have d2 := l2.2.2.1
  refine hJ [5, 20] 400 _ _ _ _ _ _ ?_
  have L5 : ∀ (m : Nat) (w1 : Int64) (w2 : Int64) (v3 : Int32) (it : Nat → Nat → Int32) , j_Sc j_sf h it → 0 ≤ v3.toInt → (2147483647 - v3.toInt) < (m : Int) → J 5 [some (j_r (some x)), some (j_l w1), none, some (j_l w2), none, some (j_i v3), none] [] (j_wi h it) 0 0 := by
    intro m
    induction m with
    | zero => intro w1 w2 v3 it sc hn hm; exact absurd hm (by have := j_ub v3; omega)
    | succ m ih5 =>
      intro w1 w2 v3 it sc hn hm
      have uv3 := j_ub v3; have lv3 := j_lb v3
      refine hJ [5, 20] 400 _ _ _ _ _ _ ?_
      conv => whnf
      refine ⟨_, rfl, kx, fun o4 eo => ?_⟩
      obtain rfl : o4 = some L1 := eo.symm.trans e1
      conv => whnf
      refine ⟨l1.1, rfl, _, _, _, _, _, _, c_AL_size (h := h) l1 sc j_sf_ok, ⟨Nat.le_of_ble_eq_true rfl, Nat.le_of_ble_eq_true rfl, Nat.le_of_ble_eq_true rfl, Nat.le_of_ble_eq_true rfl⟩, fun _ _ z => False.elim z, ?_⟩
      rintro v9 h9 ⟨rfl, rfl⟩
      conv => whnf
      refine ⟨fun c5 => ?_, fun c5 => ?_⟩
      · skip
        conv => whnf
        exact ⟨rfl, ⟨Nat.le_of_ble_eq_true rfl, Nat.le_of_ble_eq_true rfl⟩, _, rfl, sc, _, rfl⟩
      · skip
        have L20 : ∀ (m : Nat) (w6 : Int64) (w7 : Int64) (v8 : Int32) (it : Nat → Nat → Int32) , j_Sc j_sf h it → 0 ≤ v8.toInt → (2147483647 - v8.toInt) < (m : Int) → J 20 [some (j_r (some x)), some (j_l w6), none, some (j_l w7), none, some (j_i v3), some (j_i v8)] [] (j_wi h it) 0 0 := by
          intro m
          induction m with
          | zero => intro w6 w7 v8 it sc hn hm; exact absurd hm (by have := j_ub v8; omega)
          | succ m ih20 =>
            intro w6 w7 v8 it sc hn hm
            have uv8 := j_ub v8; have lv8 := j_lb v8
            refine hJ [5, 20] 400 _ _ _ _ _ _ ?_
            have q9 : ((Int8.ofInt (7)).toInt32).toInt = 7 := by decide
            conv => whnf
            refine ⟨fun c10 => ?_, fun c10 => ?_⟩
            · skip
              have t11 : (v3 + Int32.ofInt 1).toInt = v3.toInt + 1 := j_inc1 (by omega)
              exact j_use hF (ih5 _ _ _ _ sc (by omega) (by omega)) (And.intro rfl (And.intro rfl (And.intro rfl (And.intro rfl trivial))))
            · skip
              conv => whnf
              refine ⟨_, rfl, kx, fun o12 eo => ?_⟩
              obtain rfl : o12 = some L1 := eo.symm.trans e1
              conv => whnf
              refine ⟨l1.1, rfl, _, _, _, _, _, _, c_AL_get (h := h) l1 sc j_sf_ok (by omega) (by omega), ⟨Nat.le_of_ble_eq_true rfl, Nat.le_of_ble_eq_true rfl, Nat.le_of_ble_eq_true rfl, Nat.le_of_ble_eq_true rfl⟩, fun _ _ z => False.elim z, ?_⟩
              rintro v9 h9 ⟨rfl, g13, rfl, kg13, xg13⟩
              conv => whnf
              refine ⟨Or.inr ⟨_, rfl, kg13⟩, ?_⟩
              conv => whnf
              refine ⟨kx, rfl, _, _, _, _, _, _, c_G_runFact (h := h) hW sc kg13, ⟨Nat.le_of_ble_eq_true rfl, Nat.le_of_ble_eq_true rfl, Nat.le_of_ble_eq_true rfl, Nat.le_of_ble_eq_true rfl⟩, fun _ _ z => False.elim z, ?_⟩
              rintro v9 h9 ⟨it15, rfl, sit15, r14, rfl⟩
              have t16 : (v8 + Int32.ofInt 1).toInt = v8.toInt + 1 := j_inc1 (by omega)
              exact j_use hF (ih20 _ _ _ _ sit15 (by omega) (by omega)) (And.intro rfl (And.intro rfl (And.intro rfl (And.intro rfl (And.intro rfl trivial)))))
        have q17 : ((Int32.ofInt (0))).toInt = 0 := by decide
        exact j_use hF (L20 4294967296 _ _ _ _ sc (by omega) (by omega)) (And.intro rfl (And.intro rfl (And.intro rfl (And.intro rfl (And.intro rfl trivial)))))
  have q18 : ((Int32.ofInt (0))).toInt = 0 := by decide
  exact j_use hF (L5 4294967296 _ _ _ _ sc (by omega) (by omega)) (And.intro rfl (And.intro rfl (And.intro rfl (And.intro rfl trivial))))
set_option maxHeartbeats 4000000 in
set_option maxRecDepth 20000 in
theorem c_G_digestPrints {h : j_H} {it : Nat → Nat → Int32} {x : Nat} {a : Int64} (hW : j_WF h x) (sc : j_Sc j_sf h it)  : j_Ct 94 3 65 0 0 [j_r (some x), j_l a] (j_wi h it) (fun v h' => ∃ it', h' = j_wi h it' ∧ j_Sc j_sf h it' ∧ ∃ r, v = some (j_l r)) j_no := by
  refine j_intro km_94 (Nat.le_of_ble_eq_true rfl) ?_
  intro J hJ hF
  obtain ⟨kx, hG, L0, L1, L2, e0, l0, e1, l1, e2, l2, ap, pn⟩ := id hW
  have b0 := l0.2.1; have b1 := l1.2.1; have b2 := l2.2.1; have d0 := l0.2.2.1; have d1 := l1.2.2.1; have d2 := l2.2.2.1
  refine hJ [5, 20] 400 _ _ _ _ _ _ ?_
  have L5 : ∀ (m : Nat) (w1 : Int64) (w2 : Int64) (v3 : Int32) (it : Nat → Nat → Int32) , j_Sc j_sf h it → 0 ≤ v3.toInt → (2147483647 - v3.toInt) < (m : Int) → J 5 [some (j_r (some x)), some (j_l w1), none, some (j_l w2), none, some (j_i v3), none] [] (j_wi h it) 0 0 := by
    intro m
    induction m with
    | zero => intro w1 w2 v3 it sc hn hm; exact absurd hm (by have := j_ub v3; omega)
    | succ m ih5 =>
      intro w1 w2 v3 it sc hn hm
      have uv3 := j_ub v3; have lv3 := j_lb v3
      refine hJ [5, 20] 400 _ _ _ _ _ _ ?_
      conv => whnf
      refine ⟨_, rfl, kx, fun o4 eo => ?_⟩
      obtain rfl : o4 = some L2 := eo.symm.trans e2
      conv => whnf
      refine ⟨l2.1, rfl, _, _, _, _, _, _, c_AL_size (h := h) l2 sc j_sf_ok, ⟨Nat.le_of_ble_eq_true rfl, Nat.le_of_ble_eq_true rfl, Nat.le_of_ble_eq_true rfl, Nat.le_of_ble_eq_true rfl⟩, fun _ _ z => False.elim z, ?_⟩
      rintro v9 h9 ⟨rfl, rfl⟩
      conv => whnf
      refine ⟨fun c5 => ?_, fun c5 => ?_⟩
      · skip
        conv => whnf
        exact ⟨rfl, ⟨Nat.le_of_ble_eq_true rfl, Nat.le_of_ble_eq_true rfl⟩, _, rfl, sc, _, rfl⟩
      · skip
        have L20 : ∀ (m : Nat) (w6 : Int64) (w7 : Int64) (v8 : Int32) (it : Nat → Nat → Int32) , j_Sc j_sf h it → 0 ≤ v8.toInt → (2147483647 - v8.toInt) < (m : Int) → J 20 [some (j_r (some x)), some (j_l w6), none, some (j_l w7), none, some (j_i v3), some (j_i v8)] [] (j_wi h it) 0 0 := by
          intro m
          induction m with
          | zero => intro w6 w7 v8 it sc hn hm; exact absurd hm (by have := j_ub v8; omega)
          | succ m ih20 =>
            intro w6 w7 v8 it sc hn hm
            have uv8 := j_ub v8; have lv8 := j_lb v8
            refine hJ [5, 20] 400 _ _ _ _ _ _ ?_
            have q9 : ((Int32.ofInt (4))).toInt = 4 := by decide
            conv => whnf
            refine ⟨fun c10 => ?_, fun c10 => ?_⟩
            · skip
              have t11 : (v3 + Int32.ofInt 1).toInt = v3.toInt + 1 := j_inc1 (by omega)
              exact j_use hF (ih5 _ _ _ _ sc (by omega) (by omega)) (And.intro rfl (And.intro rfl (And.intro rfl (And.intro rfl trivial))))
            · skip
              conv => whnf
              refine ⟨_, rfl, kx, fun o12 eo => ?_⟩
              obtain rfl : o12 = some L2 := eo.symm.trans e2
              conv => whnf
              refine ⟨l2.1, rfl, _, _, _, _, _, _, c_AL_get (h := h) l2 sc j_sf_ok (by omega) (by omega), ⟨Nat.le_of_ble_eq_true rfl, Nat.le_of_ble_eq_true rfl, Nat.le_of_ble_eq_true rfl, Nat.le_of_ble_eq_true rfl⟩, fun _ _ z => False.elim z, ?_⟩
              rintro v9 h9 ⟨rfl, g13, rfl, kg13, xg13⟩
              conv => whnf
              refine ⟨Or.inr ⟨_, rfl, kg13⟩, ?_⟩
              conv => whnf
              refine ⟨kx, rfl, _, _, _, _, _, _, c_G_printFact (h := h) hW sc kg13, ⟨Nat.le_of_ble_eq_true rfl, Nat.le_of_ble_eq_true rfl, Nat.le_of_ble_eq_true rfl, Nat.le_of_ble_eq_true rfl⟩, fun _ _ z => False.elim z, ?_⟩
              rintro v9 h9 ⟨it15, rfl, sit15, r14, rfl⟩
              have t16 : (v8 + Int32.ofInt 1).toInt = v8.toInt + 1 := j_inc1 (by omega)
              exact j_use hF (ih20 _ _ _ _ sit15 (by omega) (by omega)) (And.intro rfl (And.intro rfl (And.intro rfl (And.intro rfl (And.intro rfl trivial)))))
        have q17 : ((Int32.ofInt (1))).toInt = 1 := by decide
        exact j_use hF (L20 4294967296 _ _ _ _ sc (by omega) (by omega)) (And.intro rfl (And.intro rfl (And.intro rfl (And.intro rfl (And.intro rfl trivial)))))
  have q18 : ((Int32.ofInt (0))).toInt = 0 := by decide
  exact j_use hF (L5 4294967296 _ _ _ _ sc (by omega) (by omega)) (And.intro rfl (And.intro rfl (And.intro rfl (And.intro rfl trivial))))
set_option maxHeartbeats 4000000 in
set_option maxRecDepth 20000 in
theorem c_G_digest {h : j_H} {it : Nat → Nat → Int32} {x : Nat} (hW : j_WF h x) (sc : j_Sc j_sf h it)  : j_Ct 92 8 176 0 0 [j_r (some x)] (j_wi h it) (fun v h' => ∃ it', h' = j_wi h it' ∧ j_Sc j_sf h it' ∧ ∃ r, v = some (j_l r)) j_no := by
  refine j_intro km_92 (Nat.le_of_ble_eq_true rfl) ?_
  intro J hJ hF
  obtain ⟨kx, hG, L0, L1, L2, e0, l0, e1, l1, e2, l2, ap, pn⟩ := id hW
  have b0 := l0.2.1; have b1 := l1.2.1; have b2 := l2.2.1; have d0 := l0.2.2.1; have d1 := l1.2.2.1; have d2 := l2.2.2.1
  refine hJ [6, 31, 49, 66, 79, 92] 400 _ _ _ _ _ _ ?_
  have L6 : ∀ (m : Nat) (w1 : Int64) (v2 : Int32) (it : Nat → Nat → Int32) , j_Sc j_sf h it → 0 ≤ v2.toInt → (2147483647 - v2.toInt) < (m : Int) → J 6 [some (j_r (some x)), some (j_l w1), none, some (j_i v2)] [] (j_wi h it) 0 0 := by
    intro m
    induction m with
    | zero => intro w1 v2 it sc hn hm; exact absurd hm (by have := j_ub v2; omega)
    | succ m ih6 =>
      intro w1 v2 it sc hn hm
      have uv2 := j_ub v2; have lv2 := j_lb v2
      refine hJ [6, 31, 49, 66, 79, 92] 400 _ _ _ _ _ _ ?_
      have q3 : ((Int8.ofInt (10)).toInt32).toInt = 10 := by decide
      conv => whnf
      refine ⟨fun c4 => ?_, fun c4 => ?_⟩
      · skip
        have C31 : ∀ (w5 : Int64) (v6 : Int32) (it : Nat → Nat → Int32), j_Sc j_sf h it → J 31 [some (j_r (some x)), some (j_l w5), none, some (j_i v6)] [] (j_wi h it) 0 0 := by
          intro w5 v6 it sc
          refine hJ [6, 31, 49, 66, 79, 92] 400 _ _ _ _ _ _ ?_
          conv => whnf
          refine ⟨kx, rfl, _, _, _, _, _, _, c_G_digestGrains (h := h) hW sc, ⟨Nat.le_of_ble_eq_true rfl, Nat.le_of_ble_eq_true rfl, Nat.le_of_ble_eq_true rfl, Nat.le_of_ble_eq_true rfl⟩, fun _ _ z => False.elim z, ?_⟩
          rintro v9 h9 ⟨it8, rfl, sit8, r7, rfl⟩
          conv => whnf
          refine ⟨kx, rfl, _, _, _, _, _, _, c_G_digestRuns (h := h) hW sit8, ⟨Nat.le_of_ble_eq_true rfl, Nat.le_of_ble_eq_true rfl, Nat.le_of_ble_eq_true rfl, Nat.le_of_ble_eq_true rfl⟩, fun _ _ z => False.elim z, ?_⟩
          rintro v9 h9 ⟨it10, rfl, sit10, r9, rfl⟩
          conv => whnf
          refine ⟨kx, rfl, _, _, _, _, _, _, c_G_digestPrints (h := h) hW sit10, ⟨Nat.le_of_ble_eq_true rfl, Nat.le_of_ble_eq_true rfl, Nat.le_of_ble_eq_true rfl, Nat.le_of_ble_eq_true rfl⟩, fun _ _ z => False.elim z, ?_⟩
          rintro v9 h9 ⟨it12, rfl, sit12, r11, rfl⟩
          have C49 : ∀ (w13 : Int64) (v14 : Int32) (it : Nat → Nat → Int32), j_Sc j_sf h it → J 49 [some (j_r (some x)), some (j_l w13), none, some (j_i v14)] [] (j_wi h it) 0 0 := by
            intro w13 v14 it sc
            refine hJ [6, 31, 49, 66, 79, 92] 400 _ _ _ _ _ _ ?_
            conv => whnf
            refine ⟨kx, rfl, _, _, _, _, _, _, c_G_findFewest (h := h) hW sc, ⟨Nat.le_of_ble_eq_true rfl, Nat.le_of_ble_eq_true rfl, Nat.le_of_ble_eq_true rfl, Nat.le_of_ble_eq_true rfl⟩, fun _ _ z => False.elim z, ?_⟩
            rintro v9 h9 ⟨it16, rfl, sit16, r15, rfl⟩
            conv => whnf
            refine ⟨kx, rfl, _, _, _, _, _, _, c_G_findBestPair (h := h) hW sit16, ⟨Nat.le_of_ble_eq_true rfl, Nat.le_of_ble_eq_true rfl, Nat.le_of_ble_eq_true rfl, Nat.le_of_ble_eq_true rfl⟩, fun _ _ z => False.elim z, ?_⟩
            rintro v9 h9 ⟨it18, rfl, sit18, r17, rfl⟩
            have C66 : ∀ (w19 : Int64) (v20 : Int32) (it : Nat → Nat → Int32), j_Sc j_sf h it → J 66 [some (j_r (some x)), some (j_l w19), none, some (j_i v20)] [] (j_wi h it) 0 0 := by
              intro w19 v20 it sc
              refine hJ [6, 31, 49, 66, 79, 92] 400 _ _ _ _ _ _ ?_
              conv => whnf
              refine ⟨rfl, _, _, _, _, _, _, c_G_runOfPair, ⟨Nat.le_of_ble_eq_true rfl, Nat.le_of_ble_eq_true rfl, Nat.le_of_ble_eq_true rfl, Nat.le_of_ble_eq_true rfl⟩, fun _ _ z => False.elim z, ?_⟩
              rintro v9 h9 ⟨rfl, r21, rfl⟩
              have C79 : ∀ (w22 : Int64) (v23 : Int32) (it : Nat → Nat → Int32), j_Sc j_sf h it → J 79 [some (j_r (some x)), some (j_l w22), none, some (j_i v23)] [] (j_wi h it) 0 0 := by
                intro w22 v23 it sc
                refine hJ [6, 31, 49, 66, 79, 92] 400 _ _ _ _ _ _ ?_
                conv => whnf
                refine ⟨rfl, _, _, _, _, _, _, c_G_runOfPair, ⟨Nat.le_of_ble_eq_true rfl, Nat.le_of_ble_eq_true rfl, Nat.le_of_ble_eq_true rfl, Nat.le_of_ble_eq_true rfl⟩, fun _ _ z => False.elim z, ?_⟩
                rintro v9 h9 ⟨rfl, r24, rfl⟩
                have C92 : ∀ (w25 : Int64) (v26 : Int32) (it : Nat → Nat → Int32), j_Sc j_sf h it → J 92 [some (j_r (some x)), some (j_l w25), none, some (j_i v26)] [] (j_wi h it) 0 0 := by
                  intro w25 v26 it sc
                  refine hJ [6, 31, 49, 66, 79, 92] 400 _ _ _ _ _ _ ?_
                  conv => whnf
                  refine ⟨kx, rfl, _, _, _, _, _, _, c_G_isSound (h := h) hW sc, ⟨Nat.le_of_ble_eq_true rfl, Nat.le_of_ble_eq_true rfl, Nat.le_of_ble_eq_true rfl, Nat.le_of_ble_eq_true rfl⟩, fun _ _ z => False.elim z, ?_⟩
                  rintro v9 h9 ⟨it28, rfl, sit28, r27, rfl, zr27⟩
                  conv => whnf
                  refine ⟨rfl, _, _, _, _, _, _, c_G_oneIf, ⟨Nat.le_of_ble_eq_true rfl, Nat.le_of_ble_eq_true rfl, Nat.le_of_ble_eq_true rfl, Nat.le_of_ble_eq_true rfl⟩, fun _ _ z => False.elim z, ?_⟩
                  rintro v9 h9 ⟨rfl, r29, rfl⟩
                  conv => whnf
                  exact ⟨rfl, ⟨Nat.le_of_ble_eq_true rfl, Nat.le_of_ble_eq_true rfl⟩, _, rfl, sit28, _, rfl⟩
                exact j_use hF (C92 _ _ _ sc) (And.intro rfl (And.intro rfl (And.intro rfl trivial)))
              exact j_use hF (C79 _ _ _ sc) (And.intro rfl (And.intro rfl (And.intro rfl trivial)))
            exact j_use hF (C66 _ _ _ sit18) (And.intro rfl (And.intro rfl (And.intro rfl trivial)))
          exact j_use hF (C49 _ _ _ sit12) (And.intro rfl (And.intro rfl (And.intro rfl trivial)))
        exact j_use hF (C31 _ _ _ sc) (And.intro rfl (And.intro rfl (And.intro rfl trivial)))
      · skip
        conv => whnf
        refine ⟨kx, rfl, _, _, _, _, _, _, c_G_labFact (h := h) hW sc, ⟨Nat.le_of_ble_eq_true rfl, Nat.le_of_ble_eq_true rfl, Nat.le_of_ble_eq_true rfl, Nat.le_of_ble_eq_true rfl⟩, fun _ _ z => False.elim z, ?_⟩
        rintro v9 h9 ⟨it31, rfl, sit31, r30, rfl⟩
        have t32 : (v2 + Int32.ofInt 1).toInt = v2.toInt + 1 := j_inc1 (by omega)
        exact j_use hF (ih6 _ _ _ sit31 (by omega) (by omega)) (And.intro rfl (And.intro rfl (And.intro rfl trivial)))
  have q33 : ((Int32.ofInt (0))).toInt = 0 := by decide
  exact j_use hF (L6 4294967296 _ _ _ sc (by omega) (by omega)) (And.intro rfl (And.intro rfl (And.intro rfl trivial)))
