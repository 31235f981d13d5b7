/-- x's own numbers -/
def j_wk (k : Nat) : Bool := Nat.ble 3 k && Nat.ble k 6
set_option maxHeartbeats 4000000 in
set_option maxRecDepth 20000 in
theorem c_G_age {h : j_H} {it : Nat → Nat → Int32} {x : Nat} {a : Int32} {b : Int32} {c : Int32} {d : Int32} (hW : j_WF h x) (sc : j_Sc j_sf h it)  : j_Ct 78 6 90 1 6 [j_r (some x), j_i a, j_i b, j_i c, j_i d] (j_wi h it) (fun v h' => ∃ it', h' = j_wi h it' ∧ j_Sc j_sf h it' ∧ ∃ r, v = some (j_i r)) (fun k h' => k ∈ [0, 2] ∧ ∃ it', h' = j_wi h it' ∧ j_Sc j_sf h it') := by
  refine j_intro km_78 (Nat.le_of_ble_eq_true rfl) ?_
  intro J hJ hF
  obtain ⟨kx, hG, L0, L1, L2, e0, l0, e1, l1, e2, l2, ap, pn⟩ := id hW
  have b0 := l0.2.1; have b1 := l1.2.1; have b2 := l2.2.1; have d0 := l0.2.2.1; have d1 := l1.2.2.1; have d2 := l2.2.2.1
  refine hJ [] 400 _ _ _ _ _ _ ?_
  conv => whnf
  refine ⟨rfl, _, _, _, _, _, _, c_G_isClock, ⟨Nat.le_of_ble_eq_true rfl, Nat.le_of_ble_eq_true rfl, Nat.le_of_ble_eq_true rfl, Nat.le_of_ble_eq_true rfl⟩, fun _ _ z => False.elim z, ?_⟩
  rintro v9 h9 ⟨rfl, r1, rfl, zr1⟩
  conv => whnf
  refine ⟨fun c2 => ?_, fun c2 => ?_⟩
  · skip
    conv => whnf
    refine ⟨rfl, _, _, _, _, _, _, c_G_isWithin, ⟨Nat.le_of_ble_eq_true rfl, Nat.le_of_ble_eq_true rfl, Nat.le_of_ble_eq_true rfl, Nat.le_of_ble_eq_true rfl⟩, fun _ _ z => False.elim z, ?_⟩
    rintro v9 h9 ⟨rfl, r3, rfl, zr3⟩
    conv => whnf
    refine ⟨fun c4 => ?_, fun c4 => ?_⟩
    · skip
      conv => whnf
      exact ⟨⟨Nat.le_of_ble_eq_true rfl, Nat.le_of_ble_eq_true rfl⟩, ⟨Nat.le_of_ble_eq_true rfl, Nat.le_of_ble_eq_true rfl⟩, by decide, _, rfl, sc⟩
    · skip
      conv => whnf
      refine ⟨rfl, _, _, _, _, _, _, c_G_isWithin, ⟨Nat.le_of_ble_eq_true rfl, Nat.le_of_ble_eq_true rfl, Nat.le_of_ble_eq_true rfl, Nat.le_of_ble_eq_true rfl⟩, fun _ _ z => False.elim z, ?_⟩
      rintro v9 h9 ⟨rfl, r5, rfl, zr5⟩
      conv => whnf
      refine ⟨fun c6 => ?_, fun c6 => ?_⟩
      · skip
        conv => whnf
        refine ⟨kx, rfl, _, _, _, _, _, _, c_G_paceOf kx, ⟨Nat.le_of_ble_eq_true rfl, Nat.le_of_ble_eq_true rfl, Nat.le_of_ble_eq_true rfl, Nat.le_of_ble_eq_true rfl⟩, fun _ _ z => False.elim z, ?_⟩
        rintro v9 h9 ⟨rfl, r7, rfl⟩
        conv => whnf
        refine ⟨fun c8 => ?_, fun c8 => ?_⟩
        · skip
          conv => whnf
          refine ⟨rfl, _, _, _, _, _, _, c_Table_earlyBy, ⟨Nat.le_of_ble_eq_true rfl, Nat.le_of_ble_eq_true rfl, Nat.le_of_ble_eq_true rfl, Nat.le_of_ble_eq_true rfl⟩, fun _ _ z => False.elim z, ?_⟩
          rintro v9 h9 ⟨rfl, r9, rfl⟩
          conv => whnf
          exact ⟨trivial, ⟨Nat.le_of_ble_eq_true rfl, Nat.le_of_ble_eq_true rfl⟩, _, rfl, sc, _, rfl⟩
        · skip
          conv => whnf
          refine ⟨rfl, _, _, _, _, _, _, c_Table_lateBy, ⟨Nat.le_of_ble_eq_true rfl, Nat.le_of_ble_eq_true rfl, Nat.le_of_ble_eq_true rfl, Nat.le_of_ble_eq_true rfl⟩, fun _ _ z => False.elim z, ?_⟩
          rintro v9 h9 ⟨rfl, r10, rfl⟩
          conv => whnf
          exact ⟨trivial, ⟨Nat.le_of_ble_eq_true rfl, Nat.le_of_ble_eq_true rfl⟩, _, rfl, sc, _, rfl⟩
      · skip
        conv => whnf
        exact ⟨⟨Nat.le_of_ble_eq_true rfl, Nat.le_of_ble_eq_true rfl⟩, ⟨Nat.le_of_ble_eq_true rfl, Nat.le_of_ble_eq_true rfl⟩, by decide, _, rfl, sc⟩
  · skip
    conv => whnf
    exact ⟨⟨Nat.le_of_ble_eq_true rfl, Nat.le_of_ble_eq_true rfl⟩, ⟨Nat.le_of_ble_eq_true rfl, Nat.le_of_ble_eq_true rfl⟩, by decide, _, rfl, sc⟩
set_option maxHeartbeats 4000000 in
set_option maxRecDepth 20000 in
theorem c_G_changed {h : j_H} {it : Nat → Nat → Int32} {x : Nat} {a : Int32} {b : Int32} (hW : j_WF h x) (sc : j_Sc j_sf h it)  : j_Ct 84 6 90 1 6 [j_r (some x), j_i a, j_i b] (j_wi h it) (fun v h' => ∃ it', h' = j_wi h it' ∧ j_Sc j_sf h it' ∧ ∃ r, v = some (j_i r)) (fun k h' => k ∈ [0, 2] ∧ ∃ it', h' = j_wi h it' ∧ j_Sc j_sf h it') := by
  refine j_intro km_84 (Nat.le_of_ble_eq_true rfl) ?_
  intro J hJ hF
  obtain ⟨kx, hG, L0, L1, L2, e0, l0, e1, l1, e2, l2, ap, pn⟩ := id hW
  have b0 := l0.2.1; have b1 := l1.2.1; have b2 := l2.2.1; have d0 := l0.2.2.1; have d1 := l1.2.2.1; have d2 := l2.2.2.1
  refine hJ [43] 400 _ _ _ _ _ _ ?_
  conv => whnf
  refine ⟨rfl, _, _, _, _, _, _, c_G_isClock, ⟨Nat.le_of_ble_eq_true rfl, Nat.le_of_ble_eq_true rfl, Nat.le_of_ble_eq_true rfl, Nat.le_of_ble_eq_true rfl⟩, fun _ _ z => False.elim z, ?_⟩
  rintro v9 h9 ⟨rfl, r1, rfl, zr1⟩
  conv => whnf
  refine ⟨fun c2 => ?_, fun c2 => ?_⟩
  · skip
    conv => whnf
    refine ⟨rfl, _, _, _, _, _, _, c_G_isWithin, ⟨Nat.le_of_ble_eq_true rfl, Nat.le_of_ble_eq_true rfl, Nat.le_of_ble_eq_true rfl, Nat.le_of_ble_eq_true rfl⟩, fun _ _ z => False.elim z, ?_⟩
    rintro v9 h9 ⟨rfl, r3, rfl, zr3⟩
    conv => whnf
    refine ⟨fun c4 => ?_, fun c4 => ?_⟩
    · skip
      have L43 : ∀ (m : Nat) (v5 : Int32) (v6 : Int32) (it : Nat → Nat → Int32) , j_Sc j_sf h it → 0 ≤ v6.toInt → (2147483647 - v6.toInt) < (m : Int) → J 43 [some (j_r (some x)), some (j_i a), some (j_i b), some (j_i v5), some (j_i v6), none] [] (j_wi h it) 0 0 := by
        intro m
        induction m with
        | zero => intro v5 v6 it sc hn hm; exact absurd hm (by have := j_ub v6; omega)
        | succ m ih43 =>
          intro v5 v6 it sc hn hm
          have uv5 := j_ub v5; have lv5 := j_lb v5
          have uv6 := j_ub v6; have lv6 := j_lb v6
          refine hJ [43] 400 _ _ _ _ _ _ ?_
          conv => whnf
          refine ⟨_, rfl, kx, fun o7 eo => ?_⟩
          obtain rfl : o7 = some L1 := eo.symm.trans e1
          conv => whnf
          refine ⟨l1.1, rfl, _, _, _, _, _, _, c_AL_size (h := h) l1 sc j_sf_ok, ⟨Nat.le_of_ble_eq_true rfl, Nat.le_of_ble_eq_true rfl, Nat.le_of_ble_eq_true rfl, Nat.le_of_ble_eq_true rfl⟩, fun _ _ z => False.elim z, ?_⟩
          rintro v9 h9 ⟨rfl, rfl⟩
          conv => whnf
          refine ⟨fun c8 => ?_, fun c8 => ?_⟩
          · skip
            conv => whnf
            exact ⟨trivial, ⟨Nat.le_of_ble_eq_true rfl, Nat.le_of_ble_eq_true rfl⟩, _, rfl, sc, _, rfl⟩
          · skip
            conv => whnf
            refine ⟨_, rfl, kx, fun o9 eo => ?_⟩
            obtain rfl : o9 = some L1 := eo.symm.trans e1
            conv => whnf
            refine ⟨l1.1, rfl, _, _, _, _, _, _, c_AL_get (h := h) l1 sc j_sf_ok (by omega) (by omega), ⟨Nat.le_of_ble_eq_true rfl, Nat.le_of_ble_eq_true rfl, Nat.le_of_ble_eq_true rfl, Nat.le_of_ble_eq_true rfl⟩, fun _ _ z => False.elim z, ?_⟩
            rintro v9 h9 ⟨rfl, g10, rfl, kg10, xg10⟩
            conv => whnf
            refine ⟨Or.inr ⟨_, rfl, kg10⟩, ?_⟩
            conv => whnf
            refine ⟨_, rfl, kg10, fun x11 ex11 => ?_⟩
            conv => whnf
            refine ⟨fun c12 => ?_, fun c12 => ?_⟩
            · skip
              have t13 : (v6 + Int32.ofInt 1).toInt = v6.toInt + 1 := j_inc1 (by omega)
              exact j_use hF (ih43 _ _ _ sc (by omega) (by omega)) (And.intro rfl (And.intro rfl (And.intro rfl (And.intro rfl (And.intro rfl trivial)))))
            · skip
              conv => whnf
              refine ⟨_, rfl, kg10, fun x14 ex14 => ?_⟩
              have b15 := j_ub a
              have b16 := j_ub x14
              conv => whnf
              refine ⟨fun c17 => ?_, fun c17 => ?_⟩
              · skip
                have t18 : (v6 + Int32.ofInt 1).toInt = v6.toInt + 1 := j_inc1 (by omega)
                exact j_use hF (ih43 _ _ _ sc (by omega) (by omega)) (And.intro rfl (And.intro rfl (And.intro rfl (And.intro rfl (And.intro rfl trivial)))))
              · skip
                conv => whnf
                refine ⟨kg10, rfl, _, _, _, _, _, _, c_Run_wouldMissItselfBy kg10, ⟨Nat.le_of_ble_eq_true rfl, Nat.le_of_ble_eq_true rfl, Nat.le_of_ble_eq_true rfl, Nat.le_of_ble_eq_true rfl⟩, fun _ _ z => False.elim z, ?_⟩
                rintro v9 h9 ⟨rfl, r19, rfl, zr19⟩
                conv => whnf
                refine ⟨fun c20 => ?_, fun c20 => ?_⟩
                · skip
                  have t21 : (v6 + Int32.ofInt 1).toInt = v6.toInt + 1 := j_inc1 (by omega)
                  exact j_use hF (ih43 _ _ _ sc (by omega) (by omega)) (And.intro rfl (And.intro rfl (And.intro rfl (And.intro rfl (And.intro rfl trivial)))))
                · skip
                  have t22 : (v6 + Int32.ofInt 1).toInt = v6.toInt + 1 := j_inc1 (by omega)
                  exact j_use hF (ih43 _ _ _ sc (by omega) (by omega)) (And.intro rfl (And.intro rfl (And.intro rfl (And.intro rfl (And.intro rfl trivial)))))
      have q23 : ((Int32.ofInt (0))).toInt = 0 := by decide
      exact j_use hF (L43 4294967296 _ _ _ sc (by omega) (by omega)) (And.intro rfl (And.intro rfl (And.intro rfl (And.intro rfl (And.intro rfl trivial)))))
    · skip
      conv => whnf
      exact ⟨⟨Nat.le_of_ble_eq_true rfl, Nat.le_of_ble_eq_true rfl⟩, ⟨Nat.le_of_ble_eq_true rfl, Nat.le_of_ble_eq_true rfl⟩, by decide, _, rfl, sc⟩
  · skip
    conv => whnf
    exact ⟨⟨Nat.le_of_ble_eq_true rfl, Nat.le_of_ble_eq_true rfl⟩, ⟨Nat.le_of_ble_eq_true rfl, Nat.le_of_ble_eq_true rfl⟩, by decide, _, rfl, sc⟩
set_option maxHeartbeats 4000000 in
set_option maxRecDepth 20000 in
theorem c_G_lab {h : j_H} {it : Nat → Nat → Int32} {x : Nat} {a : Int32} (hW : j_WF h x) (sc : j_Sc j_sf h it)  : j_Ct 110 7 156 1 6 [j_r (some x), j_i a] (j_wi h it) (fun v h' => ∃ it', h' = j_wi h it' ∧ j_Sc j_sf h it' ∧ ∃ r, v = some (j_i r)) (fun k h' => k ∈ [0] ∧ ∃ it', h' = j_wi h it' ∧ j_Sc j_sf h it') := by
  refine j_intro km_110 (Nat.le_of_ble_eq_true rfl) ?_
  intro J hJ hF
  obtain ⟨kx, hG, L0, L1, L2, e0, l0, e1, l1, e2, l2, ap, pn⟩ := id hW
  have b0 := l0.2.1; have b1 := l1.2.1; have b2 := l2.2.1; have d0 := l0.2.2.1; have d1 := l1.2.2.1; have d2 := l2.2.2.1
  refine hJ [] 400 _ _ _ _ _ _ ?_
  conv => whnf
  refine ⟨rfl, _, _, _, _, _, _, c_G_isWithin, ⟨Nat.le_of_ble_eq_true rfl, Nat.le_of_ble_eq_true rfl, Nat.le_of_ble_eq_true rfl, Nat.le_of_ble_eq_true rfl⟩, fun _ _ z => False.elim z, ?_⟩
  rintro v9 h9 ⟨rfl, r1, rfl, zr1⟩
  conv => whnf
  refine ⟨fun c2 => ?_, fun c2 => ?_⟩
  · skip
    conv => whnf
    refine ⟨kx, rfl, _, _, _, _, _, _, c_G_labFact (h := h) hW sc, ⟨Nat.le_of_ble_eq_true rfl, Nat.le_of_ble_eq_true rfl, Nat.le_of_ble_eq_true rfl, Nat.le_of_ble_eq_true rfl⟩, fun _ _ z => False.elim z, ?_⟩
    rintro v9 h9 ⟨it4, rfl, sit4, r3, rfl⟩
    conv => whnf
    exact ⟨trivial, ⟨Nat.le_of_ble_eq_true rfl, Nat.le_of_ble_eq_true rfl⟩, _, rfl, sit4, _, rfl⟩
  · skip
    conv => whnf
    exact ⟨⟨Nat.le_of_ble_eq_true rfl, Nat.le_of_ble_eq_true rfl⟩, ⟨Nat.le_of_ble_eq_true rfl, Nat.le_of_ble_eq_true rfl⟩, by decide, _, rfl, sc⟩
set_option maxHeartbeats 4000000 in
set_option maxRecDepth 20000 in
theorem c_G_left {h : j_H} {it : Nat → Nat → Int32} {x : Nat} {a : Int32} {b : Int32} {c : Int32} (hW : j_WF h x) (sc : j_Sc j_sf h it)  : j_Ct 113 6 90 1 6 [j_r (some x), j_i a, j_i b, j_i c] (j_wi h it) (fun v h' => ∃ it', h' = j_wi h it' ∧ j_Sc j_sf h it' ∧ ∃ r, v = some (j_i r)) (fun k h' => k ∈ [0, 2] ∧ ∃ it', h' = j_wi h it' ∧ j_Sc j_sf h it') := by
  refine j_intro km_113 (Nat.le_of_ble_eq_true rfl) ?_
  intro J hJ hF
  obtain ⟨kx, hG, L0, L1, L2, e0, l0, e1, l1, e2, l2, ap, pn⟩ := id hW
  have b0 := l0.2.1; have b1 := l1.2.1; have b2 := l2.2.1; have d0 := l0.2.2.1; have d1 := l1.2.2.1; have d2 := l2.2.2.1
  refine hJ [] 400 _ _ _ _ _ _ ?_
  conv => whnf
  refine ⟨rfl, _, _, _, _, _, _, c_G_isClock, ⟨Nat.le_of_ble_eq_true rfl, Nat.le_of_ble_eq_true rfl, Nat.le_of_ble_eq_true rfl, Nat.le_of_ble_eq_true rfl⟩, fun _ _ z => False.elim z, ?_⟩
  rintro v9 h9 ⟨rfl, r1, rfl, zr1⟩
  conv => whnf
  refine ⟨fun c2 => ?_, fun c2 => ?_⟩
  · skip
    conv => whnf
    refine ⟨rfl, _, _, _, _, _, _, c_G_isWithin, ⟨Nat.le_of_ble_eq_true rfl, Nat.le_of_ble_eq_true rfl, Nat.le_of_ble_eq_true rfl, Nat.le_of_ble_eq_true rfl⟩, fun _ _ z => False.elim z, ?_⟩
    rintro v9 h9 ⟨rfl, r3, rfl, zr3⟩
    conv => whnf
    refine ⟨fun c4 => ?_, fun c4 => ?_⟩
    · skip
      conv => whnf
      exact ⟨⟨Nat.le_of_ble_eq_true rfl, Nat.le_of_ble_eq_true rfl⟩, ⟨Nat.le_of_ble_eq_true rfl, Nat.le_of_ble_eq_true rfl⟩, by decide, _, rfl, sc⟩
    · skip
      conv => whnf
      refine ⟨rfl, _, _, _, _, _, _, c_G_isWithin, ⟨Nat.le_of_ble_eq_true rfl, Nat.le_of_ble_eq_true rfl, Nat.le_of_ble_eq_true rfl, Nat.le_of_ble_eq_true rfl⟩, fun _ _ z => False.elim z, ?_⟩
      rintro v9 h9 ⟨rfl, r5, rfl, zr5⟩
      conv => whnf
      refine ⟨fun c6 => ?_, fun c6 => ?_⟩
      · skip
        conv => whnf
        refine ⟨kx, rfl, _, _, _, _, _, _, c_G_paceOf kx, ⟨Nat.le_of_ble_eq_true rfl, Nat.le_of_ble_eq_true rfl, Nat.le_of_ble_eq_true rfl, Nat.le_of_ble_eq_true rfl⟩, fun _ _ z => False.elim z, ?_⟩
        rintro v9 h9 ⟨rfl, r7, rfl⟩
        conv => whnf
        refine ⟨rfl, _, _, _, _, _, _, c_Table_leftBehind, ⟨Nat.le_of_ble_eq_true rfl, Nat.le_of_ble_eq_true rfl, Nat.le_of_ble_eq_true rfl, Nat.le_of_ble_eq_true rfl⟩, fun _ _ z => False.elim z, ?_⟩
        rintro v9 h9 ⟨rfl, r8, rfl⟩
        conv => whnf
        exact ⟨trivial, ⟨Nat.le_of_ble_eq_true rfl, Nat.le_of_ble_eq_true rfl⟩, _, rfl, sc, _, rfl⟩
      · skip
        conv => whnf
        exact ⟨⟨Nat.le_of_ble_eq_true rfl, Nat.le_of_ble_eq_true rfl⟩, ⟨Nat.le_of_ble_eq_true rfl, Nat.le_of_ble_eq_true rfl⟩, by decide, _, rfl, sc⟩
  · skip
    conv => whnf
    exact ⟨⟨Nat.le_of_ble_eq_true rfl, Nat.le_of_ble_eq_true rfl⟩, ⟨Nat.le_of_ble_eq_true rfl, Nat.le_of_ble_eq_true rfl⟩, by decide, _, rfl, sc⟩
set_option maxHeartbeats 4000000 in
set_option maxRecDepth 20000 in
theorem c_G_narrowed {h : j_H} {it : Nat → Nat → Int32} {x : Nat} {a : Int32} {b : Int32} (hW : j_WF h x) (sc : j_Sc j_sf h it)  : j_Ct 118 6 114 1 6 [j_r (some x), j_i a, j_i b] (j_wi h it) (fun v h' => ∃ it', h' = j_wi h it' ∧ j_Sc j_sf h it' ∧ ∃ r, v = some (j_i r)) (fun k h' => k ∈ [2] ∧ ∃ it', h' = j_wi h it' ∧ j_Sc j_sf h it') := by
  refine j_intro km_118 (Nat.le_of_ble_eq_true rfl) ?_
  intro J hJ hF
  obtain ⟨kx, hG, L0, L1, L2, e0, l0, e1, l1, e2, l2, ap, pn⟩ := id hW
  have b0 := l0.2.1; have b1 := l1.2.1; have b2 := l2.2.1; have d0 := l0.2.2.1; have d1 := l1.2.2.1; have d2 := l2.2.2.1
  refine hJ [] 400 _ _ _ _ _ _ ?_
  conv => whnf
  refine ⟨kx, rfl, _, _, _, _, _, _, c_G_isGrain (h := h) hW sc, ⟨Nat.le_of_ble_eq_true rfl, Nat.le_of_ble_eq_true rfl, Nat.le_of_ble_eq_true rfl, Nat.le_of_ble_eq_true rfl⟩, fun _ _ z => False.elim z, ?_⟩
  rintro v9 h9 ⟨it2, rfl, sit2, r1, rfl, zr1, mr1⟩
  have nr1 := mr1 _ e0
  conv => whnf
  refine ⟨fun c3 => ?_, fun c3 => ?_⟩
  · skip
    conv => whnf
    refine ⟨_, rfl, kx, fun o4 eo => ?_⟩
    obtain rfl : o4 = some L0 := eo.symm.trans e0
    conv => whnf
    refine ⟨l0.1, rfl, _, _, _, _, _, _, c_AL_get (h := h) l0 sit2 j_sf_ok (by omega) (by omega), ⟨Nat.le_of_ble_eq_true rfl, Nat.le_of_ble_eq_true rfl, Nat.le_of_ble_eq_true rfl, Nat.le_of_ble_eq_true rfl⟩, fun _ _ z => False.elim z, ?_⟩
    rintro v9 h9 ⟨rfl, g5, rfl, kg5, xg5⟩
    conv => whnf
    refine ⟨Or.inr ⟨_, rfl, kg5⟩, ?_⟩
    conv => whnf
    refine ⟨fun c6 => ?_, fun c6 => ?_⟩
    · skip
      conv => whnf
      refine ⟨kx, rfl, _, _, _, _, _, _, c_G_narrowedEarly (h := h) hW sit2 kg5, ⟨Nat.le_of_ble_eq_true rfl, Nat.le_of_ble_eq_true rfl, Nat.le_of_ble_eq_true rfl, Nat.le_of_ble_eq_true rfl⟩, fun _ _ z => False.elim z, ?_⟩
      rintro v9 h9 ⟨it8, rfl, sit8, r7, rfl⟩
      conv => whnf
      exact ⟨trivial, ⟨Nat.le_of_ble_eq_true rfl, Nat.le_of_ble_eq_true rfl⟩, _, rfl, sit8, _, rfl⟩
    · skip
      conv => whnf
      refine ⟨kx, rfl, _, _, _, _, _, _, c_G_narrowedLate (h := h) hW sit2 kg5, ⟨Nat.le_of_ble_eq_true rfl, Nat.le_of_ble_eq_true rfl, Nat.le_of_ble_eq_true rfl, Nat.le_of_ble_eq_true rfl⟩, fun _ _ z => False.elim z, ?_⟩
      rintro v9 h9 ⟨it10, rfl, sit10, r9, rfl⟩
      conv => whnf
      exact ⟨trivial, ⟨Nat.le_of_ble_eq_true rfl, Nat.le_of_ble_eq_true rfl⟩, _, rfl, sit10, _, rfl⟩
  · skip
    conv => whnf
    exact ⟨⟨Nat.le_of_ble_eq_true rfl, Nat.le_of_ble_eq_true rfl⟩, ⟨Nat.le_of_ble_eq_true rfl, Nat.le_of_ble_eq_true rfl⟩, by decide, _, rfl, sit2⟩
set_option maxHeartbeats 4000000 in
set_option maxRecDepth 20000 in
theorem c_G_ofGrain {h : j_H} {it : Nat → Nat → Int32} {x : Nat} {a : Int32} {b : Int32} (hW : j_WF h x) (sc : j_Sc j_sf h it)  : j_Ct 122 6 110 1 6 [j_r (some x), j_i a, j_i b] (j_wi h it) (fun v h' => ∃ it', h' = j_wi h it' ∧ j_Sc j_sf h it' ∧ ∃ r, v = some (j_i r)) (fun k h' => k ∈ [0, 2] ∧ ∃ it', h' = j_wi h it' ∧ j_Sc j_sf h it') := by
  refine j_intro km_122 (Nat.le_of_ble_eq_true rfl) ?_
  intro J hJ hF
  obtain ⟨kx, hG, L0, L1, L2, e0, l0, e1, l1, e2, l2, ap, pn⟩ := id hW
  have b0 := l0.2.1; have b1 := l1.2.1; have b2 := l2.2.1; have d0 := l0.2.2.1; have d1 := l1.2.2.1; have d2 := l2.2.2.1
  refine hJ [] 400 _ _ _ _ _ _ ?_
  conv => whnf
  refine ⟨kx, rfl, _, _, _, _, _, _, c_G_isGrain (h := h) hW sc, ⟨Nat.le_of_ble_eq_true rfl, Nat.le_of_ble_eq_true rfl, Nat.le_of_ble_eq_true rfl, Nat.le_of_ble_eq_true rfl⟩, fun _ _ z => False.elim z, ?_⟩
  rintro v9 h9 ⟨it2, rfl, sit2, r1, rfl, zr1, mr1⟩
  have nr1 := mr1 _ e0
  conv => whnf
  refine ⟨fun c3 => ?_, fun c3 => ?_⟩
  · skip
    conv => whnf
    refine ⟨rfl, _, _, _, _, _, _, c_G_isWithin, ⟨Nat.le_of_ble_eq_true rfl, Nat.le_of_ble_eq_true rfl, Nat.le_of_ble_eq_true rfl, Nat.le_of_ble_eq_true rfl⟩, fun _ _ z => False.elim z, ?_⟩
    rintro v9 h9 ⟨rfl, r4, rfl, zr4⟩
    conv => whnf
    refine ⟨fun c5 => ?_, fun c5 => ?_⟩
    · skip
      conv => whnf
      refine ⟨_, rfl, kx, fun o6 eo => ?_⟩
      obtain rfl : o6 = some L0 := eo.symm.trans e0
      conv => whnf
      refine ⟨l0.1, rfl, _, _, _, _, _, _, c_AL_get (h := h) l0 sit2 j_sf_ok (by omega) (by omega), ⟨Nat.le_of_ble_eq_true rfl, Nat.le_of_ble_eq_true rfl, Nat.le_of_ble_eq_true rfl, Nat.le_of_ble_eq_true rfl⟩, fun _ _ z => False.elim z, ?_⟩
      rintro v9 h9 ⟨rfl, g7, rfl, kg7, xg7⟩
      conv => whnf
      refine ⟨Or.inr ⟨_, rfl, kg7⟩, ?_⟩
      conv => whnf
      refine ⟨kx, rfl, _, _, _, _, _, _, c_G_grainFact (h := h) hW sit2 kg7, ⟨Nat.le_of_ble_eq_true rfl, Nat.le_of_ble_eq_true rfl, Nat.le_of_ble_eq_true rfl, Nat.le_of_ble_eq_true rfl⟩, fun _ _ z => False.elim z, ?_⟩
      rintro v9 h9 ⟨it9, rfl, sit9, r8, rfl⟩
      conv => whnf
      exact ⟨trivial, ⟨Nat.le_of_ble_eq_true rfl, Nat.le_of_ble_eq_true rfl⟩, _, rfl, sit9, _, rfl⟩
    · skip
      conv => whnf
      exact ⟨⟨Nat.le_of_ble_eq_true rfl, Nat.le_of_ble_eq_true rfl⟩, ⟨Nat.le_of_ble_eq_true rfl, Nat.le_of_ble_eq_true rfl⟩, by decide, _, rfl, sit2⟩
  · skip
    conv => whnf
    exact ⟨⟨Nat.le_of_ble_eq_true rfl, Nat.le_of_ble_eq_true rfl⟩, ⟨Nat.le_of_ble_eq_true rfl, Nat.le_of_ble_eq_true rfl⟩, by decide, _, rfl, sit2⟩
set_option maxHeartbeats 4000000 in
set_option maxRecDepth 20000 in
theorem c_G_ofPrint {h : j_H} {it : Nat → Nat → Int32} {x : Nat} {a : Int32} {b : Int32} (hW : j_WF h x) (sc : j_Sc j_sf h it)  : j_Ct 123 6 90 1 6 [j_r (some x), j_i a, j_i b] (j_wi h it) (fun v h' => ∃ it', h' = j_wi h it' ∧ j_Sc j_sf h it' ∧ ∃ r, v = some (j_i r)) (fun k h' => k ∈ [0, 2] ∧ ∃ it', h' = j_wi h it' ∧ j_Sc j_sf h it') := by
  refine j_intro km_123 (Nat.le_of_ble_eq_true rfl) ?_
  intro J hJ hF
  obtain ⟨kx, hG, L0, L1, L2, e0, l0, e1, l1, e2, l2, ap, pn⟩ := id hW
  have b0 := l0.2.1; have b1 := l1.2.1; have b2 := l2.2.1; have d0 := l0.2.2.1; have d1 := l1.2.2.1; have d2 := l2.2.2.1
  refine hJ [] 400 _ _ _ _ _ _ ?_
  conv => whnf
  refine ⟨kx, rfl, _, _, _, _, _, _, c_G_isPrint (h := h) hW sc, ⟨Nat.le_of_ble_eq_true rfl, Nat.le_of_ble_eq_true rfl, Nat.le_of_ble_eq_true rfl, Nat.le_of_ble_eq_true rfl⟩, fun _ _ z => False.elim z, ?_⟩
  rintro v9 h9 ⟨it2, rfl, sit2, r1, rfl, zr1, mr1⟩
  have nr1 := mr1 _ e2
  conv => whnf
  refine ⟨fun c3 => ?_, fun c3 => ?_⟩
  · skip
    conv => whnf
    refine ⟨rfl, _, _, _, _, _, _, c_G_isWithin, ⟨Nat.le_of_ble_eq_true rfl, Nat.le_of_ble_eq_true rfl, Nat.le_of_ble_eq_true rfl, Nat.le_of_ble_eq_true rfl⟩, fun _ _ z => False.elim z, ?_⟩
    rintro v9 h9 ⟨rfl, r4, rfl, zr4⟩
    conv => whnf
    refine ⟨fun c5 => ?_, fun c5 => ?_⟩
    · skip
      conv => whnf
      refine ⟨_, rfl, kx, fun o6 eo => ?_⟩
      obtain rfl : o6 = some L2 := eo.symm.trans e2
      conv => whnf
      refine ⟨l2.1, rfl, _, _, _, _, _, _, c_AL_get (h := h) l2 sit2 j_sf_ok (by omega) (by omega), ⟨Nat.le_of_ble_eq_true rfl, Nat.le_of_ble_eq_true rfl, Nat.le_of_ble_eq_true rfl, Nat.le_of_ble_eq_true rfl⟩, fun _ _ z => False.elim z, ?_⟩
      rintro v9 h9 ⟨rfl, g7, rfl, kg7, xg7⟩
      conv => whnf
      refine ⟨Or.inr ⟨_, rfl, kg7⟩, ?_⟩
      conv => whnf
      refine ⟨kx, rfl, _, _, _, _, _, _, c_G_printFact (h := h) hW sit2 kg7, ⟨Nat.le_of_ble_eq_true rfl, Nat.le_of_ble_eq_true rfl, Nat.le_of_ble_eq_true rfl, Nat.le_of_ble_eq_true rfl⟩, fun _ _ z => False.elim z, ?_⟩
      rintro v9 h9 ⟨it9, rfl, sit9, r8, rfl⟩
      conv => whnf
      exact ⟨trivial, ⟨Nat.le_of_ble_eq_true rfl, Nat.le_of_ble_eq_true rfl⟩, _, rfl, sit9, _, rfl⟩
    · skip
      conv => whnf
      exact ⟨⟨Nat.le_of_ble_eq_true rfl, Nat.le_of_ble_eq_true rfl⟩, ⟨Nat.le_of_ble_eq_true rfl, Nat.le_of_ble_eq_true rfl⟩, by decide, _, rfl, sit2⟩
  · skip
    conv => whnf
    exact ⟨⟨Nat.le_of_ble_eq_true rfl, Nat.le_of_ble_eq_true rfl⟩, ⟨Nat.le_of_ble_eq_true rfl, Nat.le_of_ble_eq_true rfl⟩, by decide, _, rfl, sit2⟩
set_option maxHeartbeats 4000000 in
set_option maxRecDepth 20000 in
theorem c_G_ofRun {h : j_H} {it : Nat → Nat → Int32} {x : Nat} {a : Int32} {b : Int32} (hW : j_WF h x) (sc : j_Sc j_sf h it)  : j_Ct 124 6 90 1 6 [j_r (some x), j_i a, j_i b] (j_wi h it) (fun v h' => ∃ it', h' = j_wi h it' ∧ j_Sc j_sf h it' ∧ ∃ r, v = some (j_i r)) (fun k h' => k ∈ [0, 2] ∧ ∃ it', h' = j_wi h it' ∧ j_Sc j_sf h it') := by
  refine j_intro km_124 (Nat.le_of_ble_eq_true rfl) ?_
  intro J hJ hF
  obtain ⟨kx, hG, L0, L1, L2, e0, l0, e1, l1, e2, l2, ap, pn⟩ := id hW
  have b0 := l0.2.1; have b1 := l1.2.1; have b2 := l2.2.1; have d0 := l0.2.2.1; have d1 := l1.2.2.1; have d2 := l2.2.2.1
  refine hJ [] 400 _ _ _ _ _ _ ?_
  conv => whnf
  refine ⟨kx, rfl, _, _, _, _, _, _, c_G_isRun (h := h) hW sc, ⟨Nat.le_of_ble_eq_true rfl, Nat.le_of_ble_eq_true rfl, Nat.le_of_ble_eq_true rfl, Nat.le_of_ble_eq_true rfl⟩, fun _ _ z => False.elim z, ?_⟩
  rintro v9 h9 ⟨it2, rfl, sit2, r1, rfl, zr1, mr1⟩
  have nr1 := mr1 _ e1
  conv => whnf
  refine ⟨fun c3 => ?_, fun c3 => ?_⟩
  · skip
    conv => whnf
    refine ⟨rfl, _, _, _, _, _, _, c_G_isWithin, ⟨Nat.le_of_ble_eq_true rfl, Nat.le_of_ble_eq_true rfl, Nat.le_of_ble_eq_true rfl, Nat.le_of_ble_eq_true rfl⟩, fun _ _ z => False.elim z, ?_⟩
    rintro v9 h9 ⟨rfl, r4, rfl, zr4⟩
    conv => whnf
    refine ⟨fun c5 => ?_, fun c5 => ?_⟩
    · skip
      conv => whnf
      refine ⟨_, rfl, kx, fun o6 eo => ?_⟩
      obtain rfl : o6 = some L1 := eo.symm.trans e1
      conv => whnf
      refine ⟨l1.1, rfl, _, _, _, _, _, _, c_AL_get (h := h) l1 sit2 j_sf_ok (by omega) (by omega), ⟨Nat.le_of_ble_eq_true rfl, Nat.le_of_ble_eq_true rfl, Nat.le_of_ble_eq_true rfl, Nat.le_of_ble_eq_true rfl⟩, fun _ _ z => False.elim z, ?_⟩
      rintro v9 h9 ⟨rfl, g7, rfl, kg7, xg7⟩
      conv => whnf
      refine ⟨Or.inr ⟨_, rfl, kg7⟩, ?_⟩
      conv => whnf
      refine ⟨kx, rfl, _, _, _, _, _, _, c_G_runFact (h := h) hW sit2 kg7, ⟨Nat.le_of_ble_eq_true rfl, Nat.le_of_ble_eq_true rfl, Nat.le_of_ble_eq_true rfl, Nat.le_of_ble_eq_true rfl⟩, fun _ _ z => False.elim z, ?_⟩
      rintro v9 h9 ⟨it9, rfl, sit9, r8, rfl⟩
      conv => whnf
      exact ⟨trivial, ⟨Nat.le_of_ble_eq_true rfl, Nat.le_of_ble_eq_true rfl⟩, _, rfl, sit9, _, rfl⟩
    · skip
      conv => whnf
      exact ⟨⟨Nat.le_of_ble_eq_true rfl, Nat.le_of_ble_eq_true rfl⟩, ⟨Nat.le_of_ble_eq_true rfl, Nat.le_of_ble_eq_true rfl⟩, by decide, _, rfl, sit2⟩
  · skip
    conv => whnf
    exact ⟨⟨Nat.le_of_ble_eq_true rfl, Nat.le_of_ble_eq_true rfl⟩, ⟨Nat.le_of_ble_eq_true rfl, Nat.le_of_ble_eq_true rfl⟩, by decide, _, rfl, sit2⟩
