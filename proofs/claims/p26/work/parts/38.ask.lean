set_option maxHeartbeats 4000000 in
set_option maxRecDepth 20000 in
theorem c_G_allMotesAreThere {h : j_H} {it : Nat → Nat → Int32} {x : Nat} (hW : j_WF h x) (sc : j_Sc j_sf h it)  : j_Ct 81 3 64 0 0 [j_r (some x)] (j_wi h it) (fun v h' => ∃ it', h' = j_wi h it' ∧ j_Sc j_sf h it' ∧ ∃ r, v = some (j_i r) ∧ (r = 0 ∨ r = 1)) j_no := by
  refine j_intro km_81 (Nat.le_of_ble_eq_true rfl) ?_
  intro J hJ hF
  obtain ⟨kx, hG, L0, L1, L2, e0, l0, e1, l1, e2, l2, ap, pn⟩ := id hW
  have b0 := l0.2.1; have b1 := l1.2.1; have b2 := l2.2.1; have d0 := l0.2.2.1; have d1 := l1.2.2.1; have d2 := l2.2.2.1
  refine hJ [2] 400 _ _ _ _ _ _ ?_
  have L2 : ∀ (m : Nat) (v1 : Int32) (it : Nat → Nat → Int32) , j_Sc j_sf h it → 0 ≤ v1.toInt → (2147483647 - v1.toInt) < (m : Int) → J 2 [some (j_r (some x)), some (j_i v1), none] [] (j_wi h it) 0 0 := by
    intro m
    induction m with
    | zero => intro v1 it sc hn hm; exact absurd hm (by have := j_ub v1; omega)
    | succ m ih2 =>
      intro v1 it sc hn hm
      have uv1 := j_ub v1; have lv1 := j_lb v1
      refine hJ [2] 400 _ _ _ _ _ _ ?_
      conv => whnf
      refine ⟨_, rfl, kx, fun o2 eo => ?_⟩
      obtain rfl : o2 = some L0 := eo.symm.trans e0
      conv => whnf
      refine ⟨l0.1, rfl, _, _, _, _, _, _, c_AL_size (h := h) l0 sc j_sf_ok, ⟨Nat.le_of_ble_eq_true rfl, Nat.le_of_ble_eq_true rfl, Nat.le_of_ble_eq_true rfl, Nat.le_of_ble_eq_true rfl⟩, fun _ _ z => False.elim z, ?_⟩
      rintro v9 h9 ⟨rfl, rfl⟩
      conv => whnf
      refine ⟨fun c3 => ?_, fun c3 => ?_⟩
      · skip
        conv => whnf
        exact ⟨Or.inr rfl, ⟨Nat.le_of_ble_eq_true rfl, Nat.le_of_ble_eq_true rfl⟩, _, rfl, sc, _, rfl, Or.inr rfl⟩
      · skip
        conv => whnf
        refine ⟨_, rfl, kx, fun o4 eo => ?_⟩
        obtain rfl : o4 = some L0 := eo.symm.trans e0
        conv => whnf
        refine ⟨l0.1, rfl, _, _, _, _, _, _, c_AL_get (h := h) l0 sc j_sf_ok (by omega) (by omega), ⟨Nat.le_of_ble_eq_true rfl, Nat.le_of_ble_eq_true rfl, Nat.le_of_ble_eq_true rfl, Nat.le_of_ble_eq_true rfl⟩, fun _ _ z => False.elim z, ?_⟩
        rintro v9 h9 ⟨rfl, g5, rfl, kg5, xg5⟩
        conv => whnf
        refine ⟨Or.inr ⟨_, rfl, kg5⟩, ?_⟩
        conv => whnf
        refine ⟨_, rfl, kg5, fun o6 eo => ?_⟩
        obtain ⟨b7, eb7, kb7⟩ := hG.1 _ kg5
        obtain rfl : o6 = some b7 := eo.symm.trans eb7
        conv => whnf
        refine ⟨kb7, rfl, _, _, _, _, _, _, c_Motes_areAllThere kb7, ⟨Nat.le_of_ble_eq_true rfl, Nat.le_of_ble_eq_true rfl, Nat.le_of_ble_eq_true rfl, Nat.le_of_ble_eq_true rfl⟩, fun _ _ z => False.elim z, ?_⟩
        rintro v9 h9 ⟨rfl, r8, rfl, zr8⟩
        conv => whnf
        refine ⟨fun c9 => ?_, fun c9 => ?_⟩
        · skip
          conv => whnf
          exact ⟨Or.inl rfl, ⟨Nat.le_of_ble_eq_true rfl, Nat.le_of_ble_eq_true rfl⟩, _, rfl, sc, _, rfl, Or.inl rfl⟩
        · skip
          conv => whnf
          refine ⟨_, rfl, kg5, fun o10 eo => ?_⟩
          obtain ⟨b11, eb11, kb11⟩ := hG.2.1 _ kg5
          obtain rfl : o10 = some b11 := eo.symm.trans eb11
          conv => whnf
          refine ⟨kb11, rfl, _, _, _, _, _, _, c_Motes_areAllThere kb11, ⟨Nat.le_of_ble_eq_true rfl, Nat.le_of_ble_eq_true rfl, Nat.le_of_ble_eq_true rfl, Nat.le_of_ble_eq_true rfl⟩, fun _ _ z => False.elim z, ?_⟩
          rintro v9 h9 ⟨rfl, r12, rfl, zr12⟩
          conv => whnf
          refine ⟨fun c13 => ?_, fun c13 => ?_⟩
          · skip
            have t14 : (v1 + Int32.ofInt 1).toInt = v1.toInt + 1 := j_inc1 (by omega)
            exact j_use hF (ih2 _ _ sc (by omega) (by omega)) (And.intro rfl (And.intro rfl trivial))
          · skip
            conv => whnf
            exact ⟨Or.inl rfl, ⟨Nat.le_of_ble_eq_true rfl, Nat.le_of_ble_eq_true rfl⟩, _, rfl, sc, _, rfl, Or.inl rfl⟩
  have q15 : ((Int32.ofInt (0))).toInt = 0 := by decide
  exact j_use hF (L2 4294967296 _ _ sc (by omega) (by omega)) (And.intro rfl (And.intro rfl trivial))
set_option maxHeartbeats 4000000 in
set_option maxRecDepth 20000 in
theorem c_G_noNarrowedSpanIsWider {h : j_H} {it : Nat → Nat → Int32} {x : Nat} (hW : j_WF h x) (sc : j_Sc j_sf h it)  : j_Ct 121 5 114 0 0 [j_r (some x)] (j_wi h it) (fun v h' => ∃ it', h' = j_wi h it' ∧ j_Sc j_sf h it' ∧ ∃ r, v = some (j_i r) ∧ (r = 0 ∨ r = 1)) j_no := by
  refine j_intro km_121 (Nat.le_of_ble_eq_true rfl) ?_
  intro J hJ hF
  obtain ⟨kx, hG, L0, L1, L2, e0, l0, e1, l1, e2, l2, ap, pn⟩ := id hW
  have b0 := l0.2.1; have b1 := l1.2.1; have b2 := l2.2.1; have d0 := l0.2.2.1; have d1 := l1.2.2.1; have d2 := l2.2.2.1
  refine hJ [2] 400 _ _ _ _ _ _ ?_
  have L2 : ∀ (m : Nat) (v1 : Int32) (it : Nat → Nat → Int32) , j_Sc j_sf h it → 0 ≤ v1.toInt → (2147483647 - v1.toInt) < (m : Int) → J 2 [some (j_r (some x)), some (j_i v1), none, none] [] (j_wi h it) 0 0 := by
    intro m
    induction m with
    | zero => intro v1 it sc hn hm; exact absurd hm (by have := j_ub v1; omega)
    | succ m ih2 =>
      intro v1 it sc hn hm
      have uv1 := j_ub v1; have lv1 := j_lb v1
      refine hJ [2] 400 _ _ _ _ _ _ ?_
      conv => whnf
      refine ⟨_, rfl, kx, fun o2 eo => ?_⟩
      obtain rfl : o2 = some L0 := eo.symm.trans e0
      conv => whnf
      refine ⟨l0.1, rfl, _, _, _, _, _, _, c_AL_size (h := h) l0 sc j_sf_ok, ⟨Nat.le_of_ble_eq_true rfl, Nat.le_of_ble_eq_true rfl, Nat.le_of_ble_eq_true rfl, Nat.le_of_ble_eq_true rfl⟩, fun _ _ z => False.elim z, ?_⟩
      rintro v9 h9 ⟨rfl, rfl⟩
      conv => whnf
      refine ⟨fun c3 => ?_, fun c3 => ?_⟩
      · skip
        conv => whnf
        exact ⟨Or.inr rfl, ⟨Nat.le_of_ble_eq_true rfl, Nat.le_of_ble_eq_true rfl⟩, _, rfl, sc, _, rfl, Or.inr rfl⟩
      · skip
        conv => whnf
        refine ⟨_, rfl, kx, fun o4 eo => ?_⟩
        obtain rfl : o4 = some L0 := eo.symm.trans e0
        conv => whnf
        refine ⟨l0.1, rfl, _, _, _, _, _, _, c_AL_get (h := h) l0 sc j_sf_ok (by omega) (by omega), ⟨Nat.le_of_ble_eq_true rfl, Nat.le_of_ble_eq_true rfl, Nat.le_of_ble_eq_true rfl, Nat.le_of_ble_eq_true rfl⟩, fun _ _ z => False.elim z, ?_⟩
        rintro v9 h9 ⟨rfl, g5, rfl, kg5, xg5⟩
        conv => whnf
        refine ⟨Or.inr ⟨_, rfl, kg5⟩, ?_⟩
        conv => whnf
        refine ⟨kx, rfl, _, _, _, _, _, _, c_G_lateOf (h := h) hW sc kg5, ⟨Nat.le_of_ble_eq_true rfl, Nat.le_of_ble_eq_true rfl, Nat.le_of_ble_eq_true rfl, Nat.le_of_ble_eq_true rfl⟩, fun _ _ z => False.elim z, ?_⟩
        rintro v9 h9 ⟨it7, rfl, sit7, r6, rfl⟩
        conv => whnf
        refine ⟨kx, rfl, _, _, _, _, _, _, c_G_earlyOf (h := h) hW sit7 kg5, ⟨Nat.le_of_ble_eq_true rfl, Nat.le_of_ble_eq_true rfl, Nat.le_of_ble_eq_true rfl, Nat.le_of_ble_eq_true rfl⟩, fun _ _ z => False.elim z, ?_⟩
        rintro v9 h9 ⟨it9, rfl, sit9, r8, rfl⟩
        conv => whnf
        refine ⟨kx, rfl, _, _, _, _, _, _, c_G_narrowedLate (h := h) hW sit9 kg5, ⟨Nat.le_of_ble_eq_true rfl, Nat.le_of_ble_eq_true rfl, Nat.le_of_ble_eq_true rfl, Nat.le_of_ble_eq_true rfl⟩, fun _ _ z => False.elim z, ?_⟩
        rintro v9 h9 ⟨it11, rfl, sit11, r10, rfl⟩
        conv => whnf
        refine ⟨kx, rfl, _, _, _, _, _, _, c_G_narrowedEarly (h := h) hW sit11 kg5, ⟨Nat.le_of_ble_eq_true rfl, Nat.le_of_ble_eq_true rfl, Nat.le_of_ble_eq_true rfl, Nat.le_of_ble_eq_true rfl⟩, fun _ _ z => False.elim z, ?_⟩
        rintro v9 h9 ⟨it13, rfl, sit13, r12, rfl⟩
        conv => whnf
        refine ⟨fun c14 => ?_, fun c14 => ?_⟩
        · skip
          have t15 : (v1 + Int32.ofInt 1).toInt = v1.toInt + 1 := j_inc1 (by omega)
          exact j_use hF (ih2 _ _ sit13 (by omega) (by omega)) (And.intro rfl (And.intro rfl trivial))
        · skip
          conv => whnf
          exact ⟨Or.inl rfl, ⟨Nat.le_of_ble_eq_true rfl, Nat.le_of_ble_eq_true rfl⟩, _, rfl, sit13, _, rfl, Or.inl rfl⟩
  have q16 : ((Int32.ofInt (0))).toInt = 0 := by decide
  exact j_use hF (L2 4294967296 _ _ sc (by omega) (by omega)) (And.intro rfl (And.intro rfl trivial))
set_option maxHeartbeats 4000000 in
set_option maxRecDepth 20000 in
theorem c_G_othersAgree {h : j_H} {it : Nat → Nat → Int32} {x : Nat} (hW : j_WF h x) (sc : j_Sc j_sf h it)  : j_Ct 126 6 135 0 0 [j_r (some x)] (j_wi h it) (fun v h' => ∃ it', h' = j_wi h it' ∧ j_Sc j_sf h it' ∧ ∃ r, v = some (j_i r) ∧ (r = 0 ∨ r = 1)) j_no := by
  refine j_intro km_126 (Nat.le_of_ble_eq_true rfl) ?_
  intro J hJ hF
  obtain ⟨kx, hG, L0, L1, L2, e0, l0, e1, l1, e2, l2, ap, pn⟩ := id hW
  have b0 := l0.2.1; have b1 := l1.2.1; have b2 := l2.2.1; have d0 := l0.2.2.1; have d1 := l1.2.2.1; have d2 := l2.2.2.1
  refine hJ [] 400 _ _ _ _ _ _ ?_
  conv => whnf
  refine ⟨kx, rfl, _, _, _, _, _, _, c_G_findFewest (h := h) hW sc, ⟨Nat.le_of_ble_eq_true rfl, Nat.le_of_ble_eq_true rfl, Nat.le_of_ble_eq_true rfl, Nat.le_of_ble_eq_true rfl⟩, fun _ _ z => False.elim z, ?_⟩
  rintro v9 h9 ⟨it2, rfl, sit2, r1, rfl⟩
  conv => whnf
  refine ⟨kx, rfl, _, _, _, _, _, _, c_G_allGrains (h := h) hW sit2, ⟨Nat.le_of_ble_eq_true rfl, Nat.le_of_ble_eq_true rfl, Nat.le_of_ble_eq_true rfl, Nat.le_of_ble_eq_true rfl⟩, fun _ _ z => False.elim z, ?_⟩
  rintro v9 h9 ⟨it4, rfl, sit4, r3, rfl⟩
  conv => whnf
  refine ⟨kx, rfl, _, _, _, _, _, _, c_G_agree (h := h) hW sit4, ⟨Nat.le_of_ble_eq_true rfl, Nat.le_of_ble_eq_true rfl, Nat.le_of_ble_eq_true rfl, Nat.le_of_ble_eq_true rfl⟩, fun _ _ z => False.elim z, ?_⟩
  rintro v9 h9 ⟨it6, rfl, sit6, r5, rfl, zr5⟩
  conv => whnf
  exact ⟨zr5, ⟨Nat.le_of_ble_eq_true rfl, Nat.le_of_ble_eq_true rfl⟩, _, rfl, sit6, _, rfl, zr5⟩
set_option maxHeartbeats 4000000 in
set_option maxRecDepth 20000 in
theorem c_G_printsThatStandAreBorne {h : j_H} {it : Nat → Nat → Int32} {x : Nat} (hW : j_WF h x) (sc : j_Sc j_sf h it)  : j_Ct 132 3 64 0 0 [j_r (some x)] (j_wi h it) (fun v h' => ∃ it', h' = j_wi h it' ∧ j_Sc j_sf h it' ∧ ∃ r, v = some (j_i r) ∧ (r = 0 ∨ r = 1)) j_no := by
  refine j_intro km_132 (Nat.le_of_ble_eq_true rfl) ?_
  intro J hJ hF
  obtain ⟨kx, hG, L0, L1, L2, e0, l0, e1, l1, e2, l2, ap, pn⟩ := id hW
  have b0 := l0.2.1; have b1 := l1.2.1; have b2 := l2.2.1; have d0 := l0.2.2.1; have d1 := l1.2.2.1; have d2 := l2.2.2.1
  refine hJ [2] 400 _ _ _ _ _ _ ?_
  have L2 : ∀ (m : Nat) (v1 : Int32) (it : Nat → Nat → Int32) , j_Sc j_sf h it → 0 ≤ v1.toInt → (2147483647 - v1.toInt) < (m : Int) → J 2 [some (j_r (some x)), some (j_i v1), none] [] (j_wi h it) 0 0 := by
    intro m
    induction m with
    | zero => intro v1 it sc hn hm; exact absurd hm (by have := j_ub v1; omega)
    | succ m ih2 =>
      intro v1 it sc hn hm
      have uv1 := j_ub v1; have lv1 := j_lb v1
      refine hJ [2] 400 _ _ _ _ _ _ ?_
      conv => whnf
      refine ⟨_, rfl, kx, fun o2 eo => ?_⟩
      obtain rfl : o2 = some L2 := eo.symm.trans e2
      conv => whnf
      refine ⟨l2.1, rfl, _, _, _, _, _, _, c_AL_size (h := h) l2 sc j_sf_ok, ⟨Nat.le_of_ble_eq_true rfl, Nat.le_of_ble_eq_true rfl, Nat.le_of_ble_eq_true rfl, Nat.le_of_ble_eq_true rfl⟩, fun _ _ z => False.elim z, ?_⟩
      rintro v9 h9 ⟨rfl, rfl⟩
      conv => whnf
      refine ⟨fun c3 => ?_, fun c3 => ?_⟩
      · skip
        conv => whnf
        exact ⟨Or.inr rfl, ⟨Nat.le_of_ble_eq_true rfl, Nat.le_of_ble_eq_true rfl⟩, _, rfl, sc, _, rfl, Or.inr rfl⟩
      · skip
        conv => whnf
        refine ⟨_, rfl, kx, fun o4 eo => ?_⟩
        obtain rfl : o4 = some L2 := eo.symm.trans e2
        conv => whnf
        refine ⟨l2.1, rfl, _, _, _, _, _, _, c_AL_get (h := h) l2 sc j_sf_ok (by omega) (by omega), ⟨Nat.le_of_ble_eq_true rfl, Nat.le_of_ble_eq_true rfl, Nat.le_of_ble_eq_true rfl, Nat.le_of_ble_eq_true rfl⟩, fun _ _ z => False.elim z, ?_⟩
        rintro v9 h9 ⟨rfl, g5, rfl, kg5, xg5⟩
        conv => whnf
        refine ⟨Or.inr ⟨_, rfl, kg5⟩, ?_⟩
        conv => whnf
        refine ⟨kx, rfl, _, _, _, _, _, _, c_G_allStandFrom (h := h) hW sc (Or.inr ⟨_, rfl, kg5⟩), ⟨Nat.le_of_ble_eq_true rfl, Nat.le_of_ble_eq_true rfl, Nat.le_of_ble_eq_true rfl, Nat.le_of_ble_eq_true rfl⟩, fun _ _ z => False.elim z, ?_⟩
        rintro v9 h9 ⟨it7, rfl, sit7, r6, rfl, zr6⟩
        conv => whnf
        refine ⟨fun c8 => ?_, fun c8 => ?_⟩
        · skip
          have t9 : (v1 + Int32.ofInt 1).toInt = v1.toInt + 1 := j_inc1 (by omega)
          exact j_use hF (ih2 _ _ sit7 (by omega) (by omega)) (And.intro rfl (And.intro rfl trivial))
        · skip
          conv => whnf
          refine ⟨_, rfl, kg5, fun o10 eo => ?_⟩
          obtain ⟨b11, eb11, kb11⟩ := hG.2.2.2.1 _ kg5
          obtain rfl : o10 = some b11 := eo.symm.trans eb11
          conv => whnf
          refine ⟨_, rfl, kb11, fun x12 ex12 => ?_⟩
          conv => whnf
          refine ⟨fun c13 => ?_, fun c13 => ?_⟩
          · skip
            conv => whnf
            exact ⟨Or.inl rfl, ⟨Nat.le_of_ble_eq_true rfl, Nat.le_of_ble_eq_true rfl⟩, _, rfl, sit7, _, rfl, Or.inl rfl⟩
          · skip
            conv => whnf
            refine ⟨_, rfl, kg5, fun o14 eo => ?_⟩
            rcases hG.2.2.2.2 _ kg5 with eb15 | ⟨b15, eb15, kb15, -⟩
            · obtain rfl : o14 = none := eo.symm.trans eb15
              conv => whnf
              refine ⟨kx, rfl, _, _, _, _, _, _, c_G_allStandFrom (h := h) hW sit7 (Or.inl rfl), ⟨Nat.le_of_ble_eq_true rfl, Nat.le_of_ble_eq_true rfl, Nat.le_of_ble_eq_true rfl, Nat.le_of_ble_eq_true rfl⟩, fun _ _ z => False.elim z, ?_⟩
              rintro v9 h9 ⟨it17, rfl, sit17, r16, rfl, zr16⟩
              conv => whnf
              refine ⟨fun c18 => ?_, fun c18 => ?_⟩
              · skip
                have t19 : (v1 + Int32.ofInt 1).toInt = v1.toInt + 1 := j_inc1 (by omega)
                exact j_use hF (ih2 _ _ sit17 (by omega) (by omega)) (And.intro rfl (And.intro rfl trivial))
              · skip
                conv => whnf
                exact ⟨Or.inl rfl, ⟨Nat.le_of_ble_eq_true rfl, Nat.le_of_ble_eq_true rfl⟩, _, rfl, sit17, _, rfl, Or.inl rfl⟩
            · obtain rfl : o14 = some b15 := eo.symm.trans eb15
              conv => whnf
              refine ⟨kx, rfl, _, _, _, _, _, _, c_G_allStandFrom (h := h) hW sit7 (Or.inr ⟨_, rfl, kb15⟩), ⟨Nat.le_of_ble_eq_true rfl, Nat.le_of_ble_eq_true rfl, Nat.le_of_ble_eq_true rfl, Nat.le_of_ble_eq_true rfl⟩, fun _ _ z => False.elim z, ?_⟩
              rintro v9 h9 ⟨it21, rfl, sit21, r20, rfl, zr20⟩
              conv => whnf
              refine ⟨fun c22 => ?_, fun c22 => ?_⟩
              · skip
                have t23 : (v1 + Int32.ofInt 1).toInt = v1.toInt + 1 := j_inc1 (by omega)
                exact j_use hF (ih2 _ _ sit21 (by omega) (by omega)) (And.intro rfl (And.intro rfl trivial))
              · skip
                conv => whnf
                exact ⟨Or.inl rfl, ⟨Nat.le_of_ble_eq_true rfl, Nat.le_of_ble_eq_true rfl⟩, _, rfl, sit21, _, rfl, Or.inl rfl⟩
  have q24 : ((Int32.ofInt (0))).toInt = 0 := by decide
  exact j_use hF (L2 4294967296 _ _ sc (by omega) (by omega)) (And.intro rfl (And.intro rfl trivial))
set_option maxHeartbeats 4000000 in
set_option maxRecDepth 20000 in
theorem c_G_isSound {h : j_H} {it : Nat → Nat → Int32} {x : Nat} (hW : j_WF h x) (sc : j_Sc j_sf h it)  : j_Ct 108 7 156 0 0 [j_r (some x)] (j_wi h it) (fun v h' => ∃ it', h' = j_wi h it' ∧ j_Sc j_sf h it' ∧ ∃ r, v = some (j_i r) ∧ (r = 0 ∨ r = 1)) j_no := by
  refine j_intro km_108 (Nat.le_of_ble_eq_true rfl) ?_
  intro J hJ hF
  obtain ⟨kx, hG, L0, L1, L2, e0, l0, e1, l1, e2, l2, ap, pn⟩ := id hW
  have b0 := l0.2.1; have b1 := l1.2.1; have b2 := l2.2.1; have d0 := l0.2.2.1; have d1 := l1.2.2.1; have d2 := l2.2.2.1
  refine hJ [] 400 _ _ _ _ _ _ ?_
  conv => whnf
  refine ⟨kx, rfl, _, _, _, _, _, _, c_G_allMotesAreThere (h := h) hW sc, ⟨Nat.le_of_ble_eq_true rfl, Nat.le_of_ble_eq_true rfl, Nat.le_of_ble_eq_true rfl, Nat.le_of_ble_eq_true rfl⟩, fun _ _ z => False.elim z, ?_⟩
  rintro v9 h9 ⟨it2, rfl, sit2, r1, rfl, zr1⟩
  conv => whnf
  refine ⟨fun c3 => ?_, fun c3 => ?_⟩
  · skip
    conv => whnf
    exact ⟨Or.inl rfl, ⟨Nat.le_of_ble_eq_true rfl, Nat.le_of_ble_eq_true rfl⟩, _, rfl, sit2, _, rfl, Or.inl rfl⟩
  · skip
    conv => whnf
    refine ⟨kx, rfl, _, _, _, _, _, _, c_G_noNarrowedSpanIsWider (h := h) hW sit2, ⟨Nat.le_of_ble_eq_true rfl, Nat.le_of_ble_eq_true rfl, Nat.le_of_ble_eq_true rfl, Nat.le_of_ble_eq_true rfl⟩, fun _ _ z => False.elim z, ?_⟩
    rintro v9 h9 ⟨it5, rfl, sit5, r4, rfl, zr4⟩
    conv => whnf
    refine ⟨fun c6 => ?_, fun c6 => ?_⟩
    · skip
      conv => whnf
      exact ⟨Or.inl rfl, ⟨Nat.le_of_ble_eq_true rfl, Nat.le_of_ble_eq_true rfl⟩, _, rfl, sit5, _, rfl, Or.inl rfl⟩
    · skip
      conv => whnf
      refine ⟨kx, rfl, _, _, _, _, _, _, c_G_othersAgree (h := h) hW sit5, ⟨Nat.le_of_ble_eq_true rfl, Nat.le_of_ble_eq_true rfl, Nat.le_of_ble_eq_true rfl, Nat.le_of_ble_eq_true rfl⟩, fun _ _ z => False.elim z, ?_⟩
      rintro v9 h9 ⟨it8, rfl, sit8, r7, rfl, zr7⟩
      conv => whnf
      refine ⟨fun c9 => ?_, fun c9 => ?_⟩
      · skip
        conv => whnf
        exact ⟨Or.inl rfl, ⟨Nat.le_of_ble_eq_true rfl, Nat.le_of_ble_eq_true rfl⟩, _, rfl, sit8, _, rfl, Or.inl rfl⟩
      · skip
        conv => whnf
        refine ⟨kx, rfl, _, _, _, _, _, _, c_G_printsThatStandAreBorne (h := h) hW sit8, ⟨Nat.le_of_ble_eq_true rfl, Nat.le_of_ble_eq_true rfl, Nat.le_of_ble_eq_true rfl, Nat.le_of_ble_eq_true rfl⟩, fun _ _ z => False.elim z, ?_⟩
        rintro v9 h9 ⟨it11, rfl, sit11, r10, rfl, zr10⟩
        conv => whnf
        refine ⟨fun c12 => ?_, fun c12 => ?_⟩
        · skip
          conv => whnf
          exact ⟨Or.inl rfl, ⟨Nat.le_of_ble_eq_true rfl, Nat.le_of_ble_eq_true rfl⟩, _, rfl, sit11, _, rfl, Or.inl rfl⟩
        · skip
          conv => whnf
          exact ⟨Or.inr rfl, ⟨Nat.le_of_ble_eq_true rfl, Nat.le_of_ble_eq_true rfl⟩, _, rfl, sit11, _, rfl, Or.inr rfl⟩
set_option maxHeartbeats 4000000 in
set_option maxRecDepth 20000 in
theorem c_G_fewest {h : j_H} {it : Nat → Nat → Int32} {x : Nat} (hW : j_WF h x) (sc : j_Sc j_sf h it)  : j_Ct 98 6 135 0 0 [j_r (some x)] (j_wi h it) (fun v h' => ∃ it', h' = j_wi h it' ∧ j_Sc j_sf h it' ∧ ∃ r, v = some (j_i r)) j_no := by
  refine j_intro km_98 (Nat.le_of_ble_eq_true rfl) ?_
  intro J hJ hF
  obtain ⟨kx, hG, L0, L1, L2, e0, l0, e1, l1, e2, l2, ap, pn⟩ := id hW
  have b0 := l0.2.1; have b1 := l1.2.1; have b2 := l2.2.1; have d0 := l0.2.2.1; have d1 := l1.2.2.1; have d2 := l2.2.2.1
  refine hJ [] 400 _ _ _ _ _ _ ?_
  conv => whnf
  refine ⟨kx, rfl, _, _, _, _, _, _, c_G_findFewest (h := h) hW sc, ⟨Nat.le_of_ble_eq_true rfl, Nat.le_of_ble_eq_true rfl, Nat.le_of_ble_eq_true rfl, Nat.le_of_ble_eq_true rfl⟩, fun _ _ z => False.elim z, ?_⟩
  rintro v9 h9 ⟨it2, rfl, sit2, r1, rfl⟩
  conv => whnf
  exact ⟨trivial, ⟨Nat.le_of_ble_eq_true rfl, Nat.le_of_ble_eq_true rfl⟩, _, rfl, sit2, _, rfl⟩
set_option maxHeartbeats 4000000 in
set_option maxRecDepth 20000 in
theorem c_G_bestSwap {h : j_H} {it : Nat → Nat → Int32} {x : Nat} {a : Int32} (hW : j_WF h x) (sc : j_Sc j_sf h it)  : j_Ct 83 5 112 0 0 [j_r (some x), j_i a] (j_wi h it) (fun v h' => ∃ it', h' = j_wi h it' ∧ j_Sc j_sf h it' ∧ ∃ r, v = some (j_i r)) j_no := by
  refine j_intro km_83 (Nat.le_of_ble_eq_true rfl) ?_
  intro J hJ hF
  obtain ⟨kx, hG, L0, L1, L2, e0, l0, e1, l1, e2, l2, ap, pn⟩ := id hW
  have b0 := l0.2.1; have b1 := l1.2.1; have b2 := l2.2.1; have d0 := l0.2.2.1; have d1 := l1.2.2.1; have d2 := l2.2.2.1
  refine hJ [] 400 _ _ _ _ _ _ ?_
  conv => whnf
  refine ⟨kx, rfl, _, _, _, _, _, _, c_G_findBestPair (h := h) hW sc, ⟨Nat.le_of_ble_eq_true rfl, Nat.le_of_ble_eq_true rfl, Nat.le_of_ble_eq_true rfl, Nat.le_of_ble_eq_true rfl⟩, fun _ _ z => False.elim z, ?_⟩
  rintro v9 h9 ⟨it2, rfl, sit2, r1, rfl⟩
  conv => whnf
  refine ⟨rfl, _, _, _, _, _, _, c_G_runOfPair, ⟨Nat.le_of_ble_eq_true rfl, Nat.le_of_ble_eq_true rfl, Nat.le_of_ble_eq_true rfl, Nat.le_of_ble_eq_true rfl⟩, fun _ _ z => False.elim z, ?_⟩
  rintro v9 h9 ⟨rfl, r3, rfl⟩
  conv => whnf
  exact ⟨trivial, ⟨Nat.le_of_ble_eq_true rfl, Nat.le_of_ble_eq_true rfl⟩, _, rfl, sit2, _, rfl⟩
