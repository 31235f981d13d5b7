/-! the law's calls that ask: the state stays -/
def z_Fo (x out : Nat) (h h' : j_H) : Prop := j_Fq x out h h' ∧ z_I h' x ∧ z_eq (z_c h' x) (z_c h x)
theorem z_Fo.of {x out : Nat} {h h' : j_H} (f : j_Fr x h h' ∧ z_I h' x ∧ z_eq (z_c h' x) (z_c h x)) : z_Fo x out h h' := ⟨f.1.fo.fq, f.2⟩
theorem z_Fo.out {x out k : Nat} {h h' : j_H} {v : j_V} (f : j_Fr x h h' ∧ z_I h' x ∧ z_eq (z_c h' x) (z_c h x)) (ko : j_kd h out = some (.inl 9)) : z_Fo x out h (j_up h' out k v) := by
  obtain ⟨I2, t2⟩ := z_out (k := k) (v := v) f.1.fs f.2.1 ko
  exact ⟨(f.1.fs.out ko).1, I2, t2.tr f.2.2⟩
set_option maxHeartbeats 4000000 in
set_option maxRecDepth 20000 in
theorem c_G_spanf {h : j_H} {it : Nat → Nat → Int32} {x : Nat} {a : Int32} {b : Int32} {c : Int32} (hW : j_WF h x) (sc : j_Sc j_sf h it)  : j_Ct 137 6 90 1 6 [j_r (some x), j_i a, j_i b, j_i c] (j_wi h it) (fun v h' => ∃ it', h' = j_wi h it' ∧ j_Sc j_sf h it' ∧ ∃ r, v = some (j_i r)) (fun k h' => k ∈ [0, 2] ∧ ∃ it', h' = j_wi h it' ∧ j_Sc j_sf h it') := by
  refine j_intro km_137 (Nat.le_of_ble_eq_true rfl) ?_
  intro J hJ hF
  obtain ⟨kx, hG, L0, L1, L2, e0, l0, e1, l1, e2, l2, ap, pn⟩ := id hW
  have b0 := l0.2.1; have b1 := l1.2.1; have b2 := l2.2.1; have d0 := l0.2.2.1; have d1 := l1.2.2.1; have d2 := l2.2.2.1
  refine hJ [] 400 _ _ _ _ _ _ ?_
  conv => whnf
  refine ⟨kx, rfl, _, _, _, _, _, _, c_G_isGrain (h := j_wi h it) (j_WF.sc sc j_sf_ok hW) j_Sc.rf, ⟨Nat.le_of_ble_eq_true rfl, Nat.le_of_ble_eq_true rfl, Nat.le_of_ble_eq_true rfl, Nat.le_of_ble_eq_true rfl⟩, fun _ _ z => False.elim z, ?_⟩
  rintro v9 h9 ⟨it2, rfl, sit2, r1, rfl, zr1, mr1⟩
  have nr1 : r1.toInt = 0 ∨ (0 ≤ (a).toInt ∧ (a).toInt < (j_it h L0 2).toInt) := (congrArg (fun z : Int32 => r1.toInt = 0 ∨ (0 ≤ (a).toInt ∧ (a).toInt < z.toInt)) (j_Sc.at sc l0.1 rfl)).mp (mr1 _ e0)
  conv => whnf
  refine ⟨fun c3 => ?_, fun c3 => ?_⟩
  · skip
    conv => whnf
    exact ⟨⟨Nat.le_of_ble_eq_true rfl, Nat.le_of_ble_eq_true rfl⟩, ⟨Nat.le_of_ble_eq_true rfl, Nat.le_of_ble_eq_true rfl⟩, by decide, _, rfl, (j_Sc.trans sc sit2 (fun _ _ z => z))⟩
  · skip
    have q4 : ((Int32.ofInt (-1))).toInt = -1 := by decide
    have b5 := j_ub b
    conv => whnf
    refine ⟨fun c6 => ?_, fun c6 => ?_⟩
    · skip
      conv => whnf
      refine ⟨rfl, _, _, _, _, _, _, c_G_isWithin, ⟨Nat.le_of_ble_eq_true rfl, Nat.le_of_ble_eq_true rfl, Nat.le_of_ble_eq_true rfl, Nat.le_of_ble_eq_true rfl⟩, fun _ _ z => False.elim z, ?_⟩
      rintro v9 h9 ⟨rfl, r7, rfl, zr7⟩
      conv => whnf
      refine ⟨fun c8 => ?_, fun c8 => ?_⟩
      · skip
        conv => whnf
        refine ⟨_, rfl, kx, fun o9 eo => ?_⟩
        obtain rfl : o9 = some L0 := eo.symm.trans e0
        conv => whnf
        refine ⟨l0.1, rfl, _, _, _, _, _, _, c_AL_get (h := h) l0 (j_Sc.trans sc sit2 (fun _ _ z => z)) j_sf_ok (by omega) (by omega), ⟨Nat.le_of_ble_eq_true rfl, Nat.le_of_ble_eq_true rfl, Nat.le_of_ble_eq_true rfl, Nat.le_of_ble_eq_true rfl⟩, fun _ _ z => False.elim z, ?_⟩
        rintro v9 h9 ⟨rfl, g10, rfl, kg10, xg10⟩
        conv => whnf
        refine ⟨Or.inr ⟨_, rfl, kg10⟩, ?_⟩
        conv => whnf
        refine ⟨kx, rfl, _, _, _, _, _, _, c_G_earlyOf (h := j_wi h it2) (j_WF.sc (j_Sc.trans sc sit2 (fun _ _ z => z)) j_sf_ok hW) j_Sc.rf kg10, ⟨Nat.le_of_ble_eq_true rfl, Nat.le_of_ble_eq_true rfl, Nat.le_of_ble_eq_true rfl, Nat.le_of_ble_eq_true rfl⟩, fun _ _ z => False.elim z, ?_⟩
        rintro v9 h9 ⟨it12, rfl, sit12, r11, rfl⟩
        conv => whnf
        refine ⟨kx, rfl, _, _, _, _, _, _, c_G_lateOf (h := j_wi h it12) (j_WF.sc (j_Sc.trans (j_Sc.trans sc sit2 (fun _ _ z => z)) sit12 (fun _ _ z => z)) j_sf_ok hW) j_Sc.rf kg10, ⟨Nat.le_of_ble_eq_true rfl, Nat.le_of_ble_eq_true rfl, Nat.le_of_ble_eq_true rfl, Nat.le_of_ble_eq_true rfl⟩, fun _ _ z => False.elim z, ?_⟩
        rintro v9 h9 ⟨it14, rfl, sit14, r13, rfl⟩
        conv => whnf
        refine ⟨fun c15 => ?_, fun c15 => ?_⟩
        · skip
          have q16 : ((Int32.ofInt (1))).toInt = 1 := by decide
          have b17 := j_ub c
          conv => whnf
          refine ⟨fun c18 => ?_, fun c18 => ?_⟩
          · skip
            have b19 := j_ub r13
            have b20 := j_ub r11
            conv => whnf
            refine ⟨fun c21 => ?_, fun c21 => ?_⟩
            · skip
              conv => whnf
              refine ⟨rfl, _, _, _, _, _, _, c_G_oneIf, ⟨Nat.le_of_ble_eq_true rfl, Nat.le_of_ble_eq_true rfl, Nat.le_of_ble_eq_true rfl, Nat.le_of_ble_eq_true rfl⟩, fun _ _ z => False.elim z, ?_⟩
              rintro v9 h9 ⟨rfl, r22, rfl⟩
              conv => whnf
              exact ⟨trivial, ⟨Nat.le_of_ble_eq_true rfl, Nat.le_of_ble_eq_true rfl⟩, _, rfl, (j_Sc.trans (j_Sc.trans (j_Sc.trans sc sit2 (fun _ _ z => z)) sit12 (fun _ _ z => z)) sit14 (fun _ _ z => z)), _, rfl⟩
            · skip
              conv => whnf
              refine ⟨rfl, _, _, _, _, _, _, c_G_oneIf, ⟨Nat.le_of_ble_eq_true rfl, Nat.le_of_ble_eq_true rfl, Nat.le_of_ble_eq_true rfl, Nat.le_of_ble_eq_true rfl⟩, fun _ _ z => False.elim z, ?_⟩
              rintro v9 h9 ⟨rfl, r23, rfl⟩
              conv => whnf
              exact ⟨trivial, ⟨Nat.le_of_ble_eq_true rfl, Nat.le_of_ble_eq_true rfl⟩, _, rfl, (j_Sc.trans (j_Sc.trans (j_Sc.trans sc sit2 (fun _ _ z => z)) sit12 (fun _ _ z => z)) sit14 (fun _ _ z => z)), _, rfl⟩
          · skip
            conv => whnf
            exact ⟨trivial, ⟨Nat.le_of_ble_eq_true rfl, Nat.le_of_ble_eq_true rfl⟩, _, rfl, (j_Sc.trans (j_Sc.trans (j_Sc.trans sc sit2 (fun _ _ z => z)) sit12 (fun _ _ z => z)) sit14 (fun _ _ z => z)), _, rfl⟩
        · skip
          conv => whnf
          exact ⟨trivial, ⟨Nat.le_of_ble_eq_true rfl, Nat.le_of_ble_eq_true rfl⟩, _, rfl, (j_Sc.trans (j_Sc.trans (j_Sc.trans sc sit2 (fun _ _ z => z)) sit12 (fun _ _ z => z)) sit14 (fun _ _ z => z)), _, rfl⟩
      · skip
        conv => whnf
        exact ⟨⟨Nat.le_of_ble_eq_true rfl, Nat.le_of_ble_eq_true rfl⟩, ⟨Nat.le_of_ble_eq_true rfl, Nat.le_of_ble_eq_true rfl⟩, by decide, _, rfl, (j_Sc.trans sc sit2 (fun _ _ z => z))⟩
    · skip
      conv => whnf
      refine ⟨rfl, _, _, _, _, _, _, c_G_isClock, ⟨Nat.le_of_ble_eq_true rfl, Nat.le_of_ble_eq_true rfl, Nat.le_of_ble_eq_true rfl, Nat.le_of_ble_eq_true rfl⟩, fun _ _ z => False.elim z, ?_⟩
      rintro v9 h9 ⟨rfl, r24, rfl, zr24⟩
      conv => whnf
      refine ⟨fun c25 => ?_, fun c25 => ?_⟩
      · skip
        conv => whnf
        refine ⟨rfl, _, _, _, _, _, _, c_G_isWithin, ⟨Nat.le_of_ble_eq_true rfl, Nat.le_of_ble_eq_true rfl, Nat.le_of_ble_eq_true rfl, Nat.le_of_ble_eq_true rfl⟩, fun _ _ z => False.elim z, ?_⟩
        rintro v9 h9 ⟨rfl, r26, rfl, zr26⟩
        conv => whnf
        refine ⟨fun c27 => ?_, fun c27 => ?_⟩
        · skip
          conv => whnf
          refine ⟨_, rfl, kx, fun o28 eo => ?_⟩
          obtain rfl : o28 = some L0 := eo.symm.trans e0
          conv => whnf
          refine ⟨l0.1, rfl, _, _, _, _, _, _, c_AL_get (h := h) l0 (j_Sc.trans sc sit2 (fun _ _ z => z)) j_sf_ok (by omega) (by omega), ⟨Nat.le_of_ble_eq_true rfl, Nat.le_of_ble_eq_true rfl, Nat.le_of_ble_eq_true rfl, Nat.le_of_ble_eq_true rfl⟩, fun _ _ z => False.elim z, ?_⟩
          rintro v9 h9 ⟨rfl, g29, rfl, kg29, xg29⟩
          conv => whnf
          refine ⟨Or.inr ⟨_, rfl, kg29⟩, ?_⟩
          conv => whnf
          refine ⟨kx, rfl, _, _, _, _, _, _, c_G_earlyOf (h := j_wi h it2) (j_WF.sc (j_Sc.trans sc sit2 (fun _ _ z => z)) j_sf_ok hW) j_Sc.rf kg29, ⟨Nat.le_of_ble_eq_true rfl, Nat.le_of_ble_eq_true rfl, Nat.le_of_ble_eq_true rfl, Nat.le_of_ble_eq_true rfl⟩, fun _ _ z => False.elim z, ?_⟩
          rintro v9 h9 ⟨it31, rfl, sit31, r30, rfl⟩
          conv => whnf
          refine ⟨kx, rfl, _, _, _, _, _, _, c_G_lateOf (h := j_wi h it31) (j_WF.sc (j_Sc.trans (j_Sc.trans sc sit2 (fun _ _ z => z)) sit31 (fun _ _ z => z)) j_sf_ok hW) j_Sc.rf kg29, ⟨Nat.le_of_ble_eq_true rfl, Nat.le_of_ble_eq_true rfl, Nat.le_of_ble_eq_true rfl, Nat.le_of_ble_eq_true rfl⟩, fun _ _ z => False.elim z, ?_⟩
          rintro v9 h9 ⟨it33, rfl, sit33, r32, rfl⟩
          conv => whnf
          refine ⟨fun c34 => ?_, fun c34 => ?_⟩
          · skip
            have q35 : ((Int32.ofInt (1))).toInt = 1 := by decide
            have b36 := j_ub c
            conv => whnf
            refine ⟨fun c37 => ?_, fun c37 => ?_⟩
            · skip
              have b38 := j_ub r32
              have b39 := j_ub r30
              conv => whnf
              refine ⟨fun c40 => ?_, fun c40 => ?_⟩
              · skip
                conv => whnf
                refine ⟨rfl, _, _, _, _, _, _, c_G_oneIf, ⟨Nat.le_of_ble_eq_true rfl, Nat.le_of_ble_eq_true rfl, Nat.le_of_ble_eq_true rfl, Nat.le_of_ble_eq_true rfl⟩, fun _ _ z => False.elim z, ?_⟩
                rintro v9 h9 ⟨rfl, r41, rfl⟩
                conv => whnf
                exact ⟨trivial, ⟨Nat.le_of_ble_eq_true rfl, Nat.le_of_ble_eq_true rfl⟩, _, rfl, (j_Sc.trans (j_Sc.trans (j_Sc.trans sc sit2 (fun _ _ z => z)) sit31 (fun _ _ z => z)) sit33 (fun _ _ z => z)), _, rfl⟩
              · skip
                conv => whnf
                refine ⟨rfl, _, _, _, _, _, _, c_G_oneIf, ⟨Nat.le_of_ble_eq_true rfl, Nat.le_of_ble_eq_true rfl, Nat.le_of_ble_eq_true rfl, Nat.le_of_ble_eq_true rfl⟩, fun _ _ z => False.elim z, ?_⟩
                rintro v9 h9 ⟨rfl, r42, rfl⟩
                conv => whnf
                exact ⟨trivial, ⟨Nat.le_of_ble_eq_true rfl, Nat.le_of_ble_eq_true rfl⟩, _, rfl, (j_Sc.trans (j_Sc.trans (j_Sc.trans sc sit2 (fun _ _ z => z)) sit31 (fun _ _ z => z)) sit33 (fun _ _ z => z)), _, rfl⟩
            · skip
              conv => whnf
              exact ⟨trivial, ⟨Nat.le_of_ble_eq_true rfl, Nat.le_of_ble_eq_true rfl⟩, _, rfl, (j_Sc.trans (j_Sc.trans (j_Sc.trans sc sit2 (fun _ _ z => z)) sit31 (fun _ _ z => z)) sit33 (fun _ _ z => z)), _, rfl⟩
          · skip
            conv => whnf
            exact ⟨trivial, ⟨Nat.le_of_ble_eq_true rfl, Nat.le_of_ble_eq_true rfl⟩, _, rfl, (j_Sc.trans (j_Sc.trans (j_Sc.trans sc sit2 (fun _ _ z => z)) sit31 (fun _ _ z => z)) sit33 (fun _ _ z => z)), _, rfl⟩
        · skip
          conv => whnf
          exact ⟨⟨Nat.le_of_ble_eq_true rfl, Nat.le_of_ble_eq_true rfl⟩, ⟨Nat.le_of_ble_eq_true rfl, Nat.le_of_ble_eq_true rfl⟩, by decide, _, rfl, (j_Sc.trans sc sit2 (fun _ _ z => z))⟩
      · skip
        conv => whnf
        exact ⟨⟨Nat.le_of_ble_eq_true rfl, Nat.le_of_ble_eq_true rfl⟩, ⟨Nat.le_of_ble_eq_true rfl, Nat.le_of_ble_eq_true rfl⟩, by decide, _, rfl, (j_Sc.trans sc sit2 (fun _ _ z => z))⟩
set_option maxHeartbeats 4000000 in
set_option maxRecDepth 20000 in
theorem c_G_widerf {h : j_H} {it : Nat → Nat → Int32} {x : Nat} {a : Int32} {b : Int32} (hW : j_WF h x) (sc : j_Sc j_sf h it)  : j_Ct 141 6 90 1 6 [j_r (some x), j_i a, j_i b] (j_wi h it) (fun v h' => ∃ it', h' = j_wi h it' ∧ j_Sc j_sf h it' ∧ ∃ r, v = some (j_i r)) (fun k h' => k ∈ [1, 2] ∧ ∃ it', h' = j_wi h it' ∧ j_Sc j_sf h it') := by
  refine j_intro km_141 (Nat.le_of_ble_eq_true rfl) ?_
  intro J hJ hF
  obtain ⟨kx, hG, L0, L1, L2, e0, l0, e1, l1, e2, l2, ap, pn⟩ := id hW
  have b0 := l0.2.1; have b1 := l1.2.1; have b2 := l2.2.1; have d0 := l0.2.2.1; have d1 := l1.2.2.1; have d2 := l2.2.2.1
  refine hJ [] 400 _ _ _ _ _ _ ?_
  conv => whnf
  refine ⟨kx, rfl, _, _, _, _, _, _, c_G_isGrain (h := j_wi h it) (j_WF.sc sc j_sf_ok hW) j_Sc.rf, ⟨Nat.le_of_ble_eq_true rfl, Nat.le_of_ble_eq_true rfl, Nat.le_of_ble_eq_true rfl, Nat.le_of_ble_eq_true rfl⟩, fun _ _ z => False.elim z, ?_⟩
  rintro v9 h9 ⟨it2, rfl, sit2, r1, rfl, zr1, mr1⟩
  have nr1 : r1.toInt = 0 ∨ (0 ≤ (a).toInt ∧ (a).toInt < (j_it h L0 2).toInt) := (congrArg (fun z : Int32 => r1.toInt = 0 ∨ (0 ≤ (a).toInt ∧ (a).toInt < z.toInt)) (j_Sc.at sc l0.1 rfl)).mp (mr1 _ e0)
  conv => whnf
  refine ⟨fun c3 => ?_, fun c3 => ?_⟩
  · skip
    conv => whnf
    exact ⟨⟨Nat.le_of_ble_eq_true rfl, Nat.le_of_ble_eq_true rfl⟩, ⟨Nat.le_of_ble_eq_true rfl, Nat.le_of_ble_eq_true rfl⟩, by decide, _, rfl, (j_Sc.trans sc sit2 (fun _ _ z => z))⟩
  · skip
    conv => whnf
    refine ⟨kx, rfl, _, _, _, _, _, _, c_G_isRun (h := j_wi h it2) (j_WF.sc (j_Sc.trans sc sit2 (fun _ _ z => z)) j_sf_ok hW) j_Sc.rf, ⟨Nat.le_of_ble_eq_true rfl, Nat.le_of_ble_eq_true rfl, Nat.le_of_ble_eq_true rfl, Nat.le_of_ble_eq_true rfl⟩, fun _ _ z => False.elim z, ?_⟩
    rintro v9 h9 ⟨it5, rfl, sit5, r4, rfl, zr4, mr4⟩
    have nr4 : r4.toInt = 0 ∨ (0 ≤ (b).toInt ∧ (b).toInt < (j_it h L1 2).toInt) := (congrArg (fun z : Int32 => r4.toInt = 0 ∨ (0 ≤ (b).toInt ∧ (b).toInt < z.toInt)) (j_Sc.at (j_Sc.trans sc sit2 (fun _ _ z => z)) l1.1 rfl)).mp (mr4 _ e1)
    conv => whnf
    refine ⟨fun c6 => ?_, fun c6 => ?_⟩
    · skip
      conv => whnf
      refine ⟨_, rfl, kx, fun o7 eo => ?_⟩
      obtain rfl : o7 = some L1 := eo.symm.trans e1
      conv => whnf
      refine ⟨l1.1, rfl, _, _, _, _, _, _, c_AL_get (h := h) l1 (j_Sc.trans (j_Sc.trans sc sit2 (fun _ _ z => z)) sit5 (fun _ _ z => z)) j_sf_ok (by omega) (by omega), ⟨Nat.le_of_ble_eq_true rfl, Nat.le_of_ble_eq_true rfl, Nat.le_of_ble_eq_true rfl, Nat.le_of_ble_eq_true rfl⟩, fun _ _ z => False.elim z, ?_⟩
      rintro v9 h9 ⟨rfl, g8, rfl, kg8, xg8⟩
      conv => whnf
      refine ⟨Or.inr ⟨_, rfl, kg8⟩, ?_⟩
      conv => whnf
      refine ⟨_, rfl, kg8, fun x9 ex9 => ?_⟩
      conv => whnf
      refine ⟨fun c10 => ?_, fun c10 => ?_⟩
      · skip
        conv => whnf
        refine ⟨_, rfl, kx, fun o11 eo => ?_⟩
        obtain rfl : o11 = some L0 := eo.symm.trans e0
        conv => whnf
        refine ⟨l0.1, rfl, _, _, _, _, _, _, c_AL_get (h := h) l0 (j_Sc.trans (j_Sc.trans sc sit2 (fun _ _ z => z)) sit5 (fun _ _ z => z)) j_sf_ok (by omega) (by omega), ⟨Nat.le_of_ble_eq_true rfl, Nat.le_of_ble_eq_true rfl, Nat.le_of_ble_eq_true rfl, Nat.le_of_ble_eq_true rfl⟩, fun _ _ z => False.elim z, ?_⟩
        rintro v9 h9 ⟨rfl, g12, rfl, kg12, xg12⟩
        conv => whnf
        refine ⟨Or.inr ⟨_, rfl, kg12⟩, ?_⟩
        conv => whnf
        refine ⟨kx, rfl, _, _, _, _, _, _, c_G_lateOf (h := j_wi h it5) (j_WF.sc (j_Sc.trans (j_Sc.trans sc sit2 (fun _ _ z => z)) sit5 (fun _ _ z => z)) j_sf_ok hW) j_Sc.rf kg12, ⟨Nat.le_of_ble_eq_true rfl, Nat.le_of_ble_eq_true rfl, Nat.le_of_ble_eq_true rfl, Nat.le_of_ble_eq_true rfl⟩, fun _ _ z => False.elim z, ?_⟩
        rintro v9 h9 ⟨it14, rfl, sit14, r13, rfl⟩
        conv => whnf
        refine ⟨kx, rfl, _, _, _, _, _, _, c_G_earlyOf (h := j_wi h it14) (j_WF.sc (j_Sc.trans (j_Sc.trans (j_Sc.trans sc sit2 (fun _ _ z => z)) sit5 (fun _ _ z => z)) sit14 (fun _ _ z => z)) j_sf_ok hW) j_Sc.rf kg12, ⟨Nat.le_of_ble_eq_true rfl, Nat.le_of_ble_eq_true rfl, Nat.le_of_ble_eq_true rfl, Nat.le_of_ble_eq_true rfl⟩, fun _ _ z => False.elim z, ?_⟩
        rintro v9 h9 ⟨it16, rfl, sit16, r15, rfl⟩
        conv => whnf
        refine ⟨kx, rfl, _, _, _, _, _, _, c_G_lateOf (h := j_wi h it16) (j_WF.sc (j_Sc.trans (j_Sc.trans (j_Sc.trans (j_Sc.trans sc sit2 (fun _ _ z => z)) sit5 (fun _ _ z => z)) sit14 (fun _ _ z => z)) sit16 (fun _ _ z => z)) j_sf_ok hW) j_Sc.rf kg12, ⟨Nat.le_of_ble_eq_true rfl, Nat.le_of_ble_eq_true rfl, Nat.le_of_ble_eq_true rfl, Nat.le_of_ble_eq_true rfl⟩, fun _ _ z => False.elim z, ?_⟩
        rintro v9 h9 ⟨it18, rfl, sit18, r17, rfl⟩
        conv => whnf
        refine ⟨kx, rfl, _, _, _, _, _, _, c_G_earlyOf (h := j_wi h it18) (j_WF.sc (j_Sc.trans (j_Sc.trans (j_Sc.trans (j_Sc.trans (j_Sc.trans sc sit2 (fun _ _ z => z)) sit5 (fun _ _ z => z)) sit14 (fun _ _ z => z)) sit16 (fun _ _ z => z)) sit18 (fun _ _ z => z)) j_sf_ok hW) j_Sc.rf kg12, ⟨Nat.le_of_ble_eq_true rfl, Nat.le_of_ble_eq_true rfl, Nat.le_of_ble_eq_true rfl, Nat.le_of_ble_eq_true rfl⟩, fun _ _ z => False.elim z, ?_⟩
        rintro v9 h9 ⟨it20, rfl, sit20, r19, rfl⟩
        conv => whnf
        exact ⟨trivial, ⟨Nat.le_of_ble_eq_true rfl, Nat.le_of_ble_eq_true rfl⟩, _, rfl, (j_Sc.trans (j_Sc.trans (j_Sc.trans (j_Sc.trans (j_Sc.trans (j_Sc.trans sc sit2 (fun _ _ z => z)) sit5 (fun _ _ z => z)) sit14 (fun _ _ z => z)) sit16 (fun _ _ z => z)) sit18 (fun _ _ z => z)) sit20 (fun _ _ z => z)), _, rfl⟩
      · skip
        conv => whnf
        exact ⟨⟨Nat.le_of_ble_eq_true rfl, Nat.le_of_ble_eq_true rfl⟩, ⟨Nat.le_of_ble_eq_true rfl, Nat.le_of_ble_eq_true rfl⟩, by decide, _, rfl, (j_Sc.trans (j_Sc.trans sc sit2 (fun _ _ z => z)) sit5 (fun _ _ z => z))⟩
    · skip
      conv => whnf
      exact ⟨⟨Nat.le_of_ble_eq_true rfl, Nat.le_of_ble_eq_true rfl⟩, ⟨Nat.le_of_ble_eq_true rfl, Nat.le_of_ble_eq_true rfl⟩, by decide, _, rfl, (j_Sc.trans (j_Sc.trans sc sit2 (fun _ _ z => z)) sit5 (fun _ _ z => z))⟩
set_option maxHeartbeats 4000000 in
set_option maxRecDepth 20000 in
theorem c_Lw_agez {h : j_H} {x out : Nat} {a : Int32} {b : Int32} {c : Int32} {d : Int32} (hW : j_WF h x) (I : z_I h x) (ko : j_kd h out = some (.inl 9)) : j_Ct 230 7 115 1 6 [j_r (some x), j_i a, j_i b, j_i c, j_i d, j_r (some out)] h (fun v h' => (∃ r, v = some (j_i r)) ∧ z_Fo x out h h') j_no := by
  refine j_intro km_230 (Nat.le_of_ble_eq_true rfl) ?_
  intro J hJ hF
  refine hJ [] 400 _ _ _ _ _ _ ?_
  conv => whnf
  refine ⟨hW.1, rfl, _, _, _, _, _, _, c_G_age (h := h) hW j_Sc.rf, ⟨Nat.le_of_ble_eq_true rfl, Nat.le_of_ble_eq_true rfl, Nat.le_of_ble_eq_true rfl, Nat.le_of_ble_eq_true rfl⟩, ?_, ?_⟩
  · rintro k9 h9 ⟨hk, it', rfl, s'⟩
    have f := z_notes hW I s'
    simp only [List.mem_cons, List.not_mem_nil, or_false] at hk
    rcases hk with rfl | rfl
    all_goals
      conv => whnf
      intro a9
      conv => whnf
      exact ⟨trivial, ⟨Nat.le_of_ble_eq_true rfl, Nat.le_of_ble_eq_true rfl⟩, ⟨_, rfl⟩, z_Fo.of f⟩
  · rintro v9 h9 ⟨it', rfl, s', r, rfl⟩
    have f := z_notes hW I s'
    conv => whnf
    refine ⟨_, rfl, ((f.1.2.1.2 out (j_nn ko)).1).trans ko, ?_⟩
    conv => whnf
    exact ⟨trivial, ⟨Nat.le_of_ble_eq_true rfl, Nat.le_of_ble_eq_true rfl⟩, ⟨_, rfl⟩, z_Fo.out f ko⟩
set_option maxHeartbeats 4000000 in
set_option maxRecDepth 20000 in
theorem c_Lw_changedz {h : j_H} {x out : Nat} {a : Int32} {b : Int32} (hW : j_WF h x) (I : z_I h x) (ko : j_kd h out = some (.inl 9)) : j_Ct 231 7 115 1 6 [j_r (some x), j_i a, j_i b, j_r (some out)] h (fun v h' => (∃ r, v = some (j_i r)) ∧ z_Fo x out h h') j_no := by
  refine j_intro km_231 (Nat.le_of_ble_eq_true rfl) ?_
  intro J hJ hF
  refine hJ [] 400 _ _ _ _ _ _ ?_
  conv => whnf
  refine ⟨hW.1, rfl, _, _, _, _, _, _, c_G_changed (h := h) hW j_Sc.rf, ⟨Nat.le_of_ble_eq_true rfl, Nat.le_of_ble_eq_true rfl, Nat.le_of_ble_eq_true rfl, Nat.le_of_ble_eq_true rfl⟩, ?_, ?_⟩
  · rintro k9 h9 ⟨hk, it', rfl, s'⟩
    have f := z_notes hW I s'
    simp only [List.mem_cons, List.not_mem_nil, or_false] at hk
    rcases hk with rfl | rfl
    all_goals
      conv => whnf
      intro a9
      conv => whnf
      exact ⟨trivial, ⟨Nat.le_of_ble_eq_true rfl, Nat.le_of_ble_eq_true rfl⟩, ⟨_, rfl⟩, z_Fo.of f⟩
  · rintro v9 h9 ⟨it', rfl, s', r, rfl⟩
    have f := z_notes hW I s'
    conv => whnf
    refine ⟨_, rfl, ((f.1.2.1.2 out (j_nn ko)).1).trans ko, ?_⟩
    conv => whnf
    exact ⟨trivial, ⟨Nat.le_of_ble_eq_true rfl, Nat.le_of_ble_eq_true rfl⟩, ⟨_, rfl⟩, z_Fo.out f ko⟩
set_option maxHeartbeats 4000000 in
set_option maxRecDepth 20000 in
theorem c_Lw_labz {h : j_H} {x out : Nat} {a : Int32} (hW : j_WF h x) (I : z_I h x) (ko : j_kd h out = some (.inl 9)) : j_Ct 234 8 177 1 6 [j_r (some x), j_i a, j_r (some out)] h (fun v h' => (∃ r, v = some (j_i r)) ∧ z_Fo x out h h') j_no := by
  refine j_intro km_234 (Nat.le_of_ble_eq_true rfl) ?_
  intro J hJ hF
  refine hJ [] 400 _ _ _ _ _ _ ?_
  conv => whnf
  refine ⟨hW.1, rfl, _, _, _, _, _, _, c_G_lab (h := h) hW j_Sc.rf, ⟨Nat.le_of_ble_eq_true rfl, Nat.le_of_ble_eq_true rfl, Nat.le_of_ble_eq_true rfl, Nat.le_of_ble_eq_true rfl⟩, ?_, ?_⟩
  · rintro k9 h9 ⟨hk, it', rfl, s'⟩
    have f := z_notes hW I s'
    simp only [List.mem_cons, List.not_mem_nil, or_false] at hk
    rcases hk with rfl
    all_goals
      conv => whnf
      intro a9
      conv => whnf
      exact ⟨trivial, ⟨Nat.le_of_ble_eq_true rfl, Nat.le_of_ble_eq_true rfl⟩, ⟨_, rfl⟩, z_Fo.of f⟩
  · rintro v9 h9 ⟨it', rfl, s', r, rfl⟩
    have f := z_notes hW I s'
    conv => whnf
    refine ⟨_, rfl, ((f.1.2.1.2 out (j_nn ko)).1).trans ko, ?_⟩
    conv => whnf
    exact ⟨trivial, ⟨Nat.le_of_ble_eq_true rfl, Nat.le_of_ble_eq_true rfl⟩, ⟨_, rfl⟩, z_Fo.out f ko⟩
set_option maxHeartbeats 4000000 in
set_option maxRecDepth 20000 in
theorem c_Lw_leftz {h : j_H} {x out : Nat} {a : Int32} {b : Int32} {c : Int32} (hW : j_WF h x) (I : z_I h x) (ko : j_kd h out = some (.inl 9)) : j_Ct 235 7 113 1 6 [j_r (some x), j_i a, j_i b, j_i c, j_r (some out)] h (fun v h' => (∃ r, v = some (j_i r)) ∧ z_Fo x out h h') j_no := by
  refine j_intro km_235 (Nat.le_of_ble_eq_true rfl) ?_
  intro J hJ hF
  refine hJ [] 400 _ _ _ _ _ _ ?_
  conv => whnf
  refine ⟨hW.1, rfl, _, _, _, _, _, _, c_G_left (h := h) hW j_Sc.rf, ⟨Nat.le_of_ble_eq_true rfl, Nat.le_of_ble_eq_true rfl, Nat.le_of_ble_eq_true rfl, Nat.le_of_ble_eq_true rfl⟩, ?_, ?_⟩
  · rintro k9 h9 ⟨hk, it', rfl, s'⟩
    have f := z_notes hW I s'
    simp only [List.mem_cons, List.not_mem_nil, or_false] at hk
    rcases hk with rfl | rfl
    all_goals
      conv => whnf
      intro a9
      conv => whnf
      exact ⟨trivial, ⟨Nat.le_of_ble_eq_true rfl, Nat.le_of_ble_eq_true rfl⟩, ⟨_, rfl⟩, z_Fo.of f⟩
  · rintro v9 h9 ⟨it', rfl, s', r, rfl⟩
    have f := z_notes hW I s'
    conv => whnf
    refine ⟨_, rfl, ((f.1.2.1.2 out (j_nn ko)).1).trans ko, ?_⟩
    conv => whnf
    exact ⟨trivial, ⟨Nat.le_of_ble_eq_true rfl, Nat.le_of_ble_eq_true rfl⟩, ⟨_, rfl⟩, z_Fo.out f ko⟩
set_option maxHeartbeats 4000000 in
set_option maxRecDepth 20000 in
theorem c_Lw_narrowedz {h : j_H} {x out : Nat} {a : Int32} {b : Int32} (hW : j_WF h x) (I : z_I h x) (ko : j_kd h out = some (.inl 9)) : j_Ct 236 7 137 1 6 [j_r (some x), j_i a, j_i b, j_r (some out)] h (fun v h' => (∃ r, v = some (j_i r)) ∧ z_Fo x out h h') j_no := by
  refine j_intro km_236 (Nat.le_of_ble_eq_true rfl) ?_
  intro J hJ hF
  refine hJ [] 400 _ _ _ _ _ _ ?_
  conv => whnf
  refine ⟨hW.1, rfl, _, _, _, _, _, _, c_G_narrowed (h := h) hW j_Sc.rf, ⟨Nat.le_of_ble_eq_true rfl, Nat.le_of_ble_eq_true rfl, Nat.le_of_ble_eq_true rfl, Nat.le_of_ble_eq_true rfl⟩, ?_, ?_⟩
  · rintro k9 h9 ⟨hk, it', rfl, s'⟩
    have f := z_notes hW I s'
    simp only [List.mem_cons, List.not_mem_nil, or_false] at hk
    rcases hk with rfl
    all_goals
      conv => whnf
      intro a9
      conv => whnf
      exact ⟨trivial, ⟨Nat.le_of_ble_eq_true rfl, Nat.le_of_ble_eq_true rfl⟩, ⟨_, rfl⟩, z_Fo.of f⟩
  · rintro v9 h9 ⟨it', rfl, s', r, rfl⟩
    have f := z_notes hW I s'
    conv => whnf
    refine ⟨_, rfl, ((f.1.2.1.2 out (j_nn ko)).1).trans ko, ?_⟩
    conv => whnf
    exact ⟨trivial, ⟨Nat.le_of_ble_eq_true rfl, Nat.le_of_ble_eq_true rfl⟩, ⟨_, rfl⟩, z_Fo.out f ko⟩
set_option maxHeartbeats 4000000 in
set_option maxRecDepth 20000 in
theorem c_Lw_ofGrainz {h : j_H} {x out : Nat} {a : Int32} {b : Int32} (hW : j_WF h x) (I : z_I h x) (ko : j_kd h out = some (.inl 9)) : j_Ct 237 7 132 1 6 [j_r (some x), j_i a, j_i b, j_r (some out)] h (fun v h' => (∃ r, v = some (j_i r)) ∧ z_Fo x out h h') j_no := by
  refine j_intro km_237 (Nat.le_of_ble_eq_true rfl) ?_
  intro J hJ hF
  refine hJ [] 400 _ _ _ _ _ _ ?_
  conv => whnf
  refine ⟨hW.1, rfl, _, _, _, _, _, _, c_G_ofGrain (h := h) hW j_Sc.rf, ⟨Nat.le_of_ble_eq_true rfl, Nat.le_of_ble_eq_true rfl, Nat.le_of_ble_eq_true rfl, Nat.le_of_ble_eq_true rfl⟩, ?_, ?_⟩
  · rintro k9 h9 ⟨hk, it', rfl, s'⟩
    have f := z_notes hW I s'
    simp only [List.mem_cons, List.not_mem_nil, or_false] at hk
    rcases hk with rfl | rfl
    all_goals
      conv => whnf
      intro a9
      conv => whnf
      exact ⟨trivial, ⟨Nat.le_of_ble_eq_true rfl, Nat.le_of_ble_eq_true rfl⟩, ⟨_, rfl⟩, z_Fo.of f⟩
  · rintro v9 h9 ⟨it', rfl, s', r, rfl⟩
    have f := z_notes hW I s'
    conv => whnf
    refine ⟨_, rfl, ((f.1.2.1.2 out (j_nn ko)).1).trans ko, ?_⟩
    conv => whnf
    exact ⟨trivial, ⟨Nat.le_of_ble_eq_true rfl, Nat.le_of_ble_eq_true rfl⟩, ⟨_, rfl⟩, z_Fo.out f ko⟩
set_option maxHeartbeats 4000000 in
set_option maxRecDepth 20000 in
theorem c_Lw_ofPrintz {h : j_H} {x out : Nat} {a : Int32} {b : Int32} (hW : j_WF h x) (I : z_I h x) (ko : j_kd h out = some (.inl 9)) : j_Ct 238 7 112 1 6 [j_r (some x), j_i a, j_i b, j_r (some out)] h (fun v h' => (∃ r, v = some (j_i r)) ∧ z_Fo x out h h') j_no := by
  refine j_intro km_238 (Nat.le_of_ble_eq_true rfl) ?_
  intro J hJ hF
  refine hJ [] 400 _ _ _ _ _ _ ?_
  conv => whnf
  refine ⟨hW.1, rfl, _, _, _, _, _, _, c_G_ofPrint (h := h) hW j_Sc.rf, ⟨Nat.le_of_ble_eq_true rfl, Nat.le_of_ble_eq_true rfl, Nat.le_of_ble_eq_true rfl, Nat.le_of_ble_eq_true rfl⟩, ?_, ?_⟩
  · rintro k9 h9 ⟨hk, it', rfl, s'⟩
    have f := z_notes hW I s'
    simp only [List.mem_cons, List.not_mem_nil, or_false] at hk
    rcases hk with rfl | rfl
    all_goals
      conv => whnf
      intro a9
      conv => whnf
      exact ⟨trivial, ⟨Nat.le_of_ble_eq_true rfl, Nat.le_of_ble_eq_true rfl⟩, ⟨_, rfl⟩, z_Fo.of f⟩
  · rintro v9 h9 ⟨it', rfl, s', r, rfl⟩
    have f := z_notes hW I s'
    conv => whnf
    refine ⟨_, rfl, ((f.1.2.1.2 out (j_nn ko)).1).trans ko, ?_⟩
    conv => whnf
    exact ⟨trivial, ⟨Nat.le_of_ble_eq_true rfl, Nat.le_of_ble_eq_true rfl⟩, ⟨_, rfl⟩, z_Fo.out f ko⟩
set_option maxHeartbeats 4000000 in
set_option maxRecDepth 20000 in
theorem c_Lw_ofRunz {h : j_H} {x out : Nat} {a : Int32} {b : Int32} (hW : j_WF h x) (I : z_I h x) (ko : j_kd h out = some (.inl 9)) : j_Ct 239 7 112 1 6 [j_r (some x), j_i a, j_i b, j_r (some out)] h (fun v h' => (∃ r, v = some (j_i r)) ∧ z_Fo x out h h') j_no := by
  refine j_intro km_239 (Nat.le_of_ble_eq_true rfl) ?_
  intro J hJ hF
  refine hJ [] 400 _ _ _ _ _ _ ?_
  conv => whnf
  refine ⟨hW.1, rfl, _, _, _, _, _, _, c_G_ofRun (h := h) hW j_Sc.rf, ⟨Nat.le_of_ble_eq_true rfl, Nat.le_of_ble_eq_true rfl, Nat.le_of_ble_eq_true rfl, Nat.le_of_ble_eq_true rfl⟩, ?_, ?_⟩
  · rintro k9 h9 ⟨hk, it', rfl, s'⟩
    have f := z_notes hW I s'
    simp only [List.mem_cons, List.not_mem_nil, or_false] at hk
    rcases hk with rfl | rfl
    all_goals
      conv => whnf
      intro a9
      conv => whnf
      exact ⟨trivial, ⟨Nat.le_of_ble_eq_true rfl, Nat.le_of_ble_eq_true rfl⟩, ⟨_, rfl⟩, z_Fo.of f⟩
  · rintro v9 h9 ⟨it', rfl, s', r, rfl⟩
    have f := z_notes hW I s'
    conv => whnf
    refine ⟨_, rfl, ((f.1.2.1.2 out (j_nn ko)).1).trans ko, ?_⟩
    conv => whnf
    exact ⟨trivial, ⟨Nat.le_of_ble_eq_true rfl, Nat.le_of_ble_eq_true rfl⟩, ⟨_, rfl⟩, z_Fo.out f ko⟩
set_option maxHeartbeats 4000000 in
set_option maxRecDepth 20000 in
theorem c_Lw_spanz {h : j_H} {x out : Nat} {a : Int32} {b : Int32} {c : Int32} (hW : j_WF h x) (I : z_I h x) (ko : j_kd h out = some (.inl 9)) : j_Ct 245 7 116 1 6 [j_r (some x), j_i a, j_i b, j_i c, j_r (some out)] h (fun v h' => (∃ r, v = some (j_i r)) ∧ z_Fo x out h h') j_no := by
  refine j_intro km_245 (Nat.le_of_ble_eq_true rfl) ?_
  intro J hJ hF
  refine hJ [] 400 _ _ _ _ _ _ ?_
  conv => whnf
  refine ⟨hW.1, rfl, _, _, _, _, _, _, c_G_spanf (h := h) hW j_Sc.rf, ⟨Nat.le_of_ble_eq_true rfl, Nat.le_of_ble_eq_true rfl, Nat.le_of_ble_eq_true rfl, Nat.le_of_ble_eq_true rfl⟩, ?_, ?_⟩
  · rintro k9 h9 ⟨hk, it', rfl, s'⟩
    have f := z_notes hW I s'
    simp only [List.mem_cons, List.not_mem_nil, or_false] at hk
    rcases hk with rfl | rfl
    all_goals
      conv => whnf
      intro a9
      conv => whnf
      exact ⟨trivial, ⟨Nat.le_of_ble_eq_true rfl, Nat.le_of_ble_eq_true rfl⟩, ⟨_, rfl⟩, z_Fo.of f⟩
  · rintro v9 h9 ⟨it', rfl, s', r, rfl⟩
    have f := z_notes hW I s'
    conv => whnf
    refine ⟨_, rfl, ((f.1.2.1.2 out (j_nn ko)).1).trans ko, ?_⟩
    conv => whnf
    exact ⟨trivial, ⟨Nat.le_of_ble_eq_true rfl, Nat.le_of_ble_eq_true rfl⟩, ⟨_, rfl⟩, z_Fo.out f ko⟩
set_option maxHeartbeats 4000000 in
set_option maxRecDepth 20000 in
theorem c_Lw_widerz {h : j_H} {x out : Nat} {a : Int32} {b : Int32} (hW : j_WF h x) (I : z_I h x) (ko : j_kd h out = some (.inl 9)) : j_Ct 249 7 115 1 6 [j_r (some x), j_i a, j_i b, j_r (some out)] h (fun v h' => (∃ r, v = some (j_i r)) ∧ z_Fo x out h h') j_no := by
  refine j_intro km_249 (Nat.le_of_ble_eq_true rfl) ?_
  intro J hJ hF
  refine hJ [] 400 _ _ _ _ _ _ ?_
  conv => whnf
  refine ⟨hW.1, rfl, _, _, _, _, _, _, c_G_widerf (h := h) hW j_Sc.rf, ⟨Nat.le_of_ble_eq_true rfl, Nat.le_of_ble_eq_true rfl, Nat.le_of_ble_eq_true rfl, Nat.le_of_ble_eq_true rfl⟩, ?_, ?_⟩
  · rintro k9 h9 ⟨hk, it', rfl, s'⟩
    have f := z_notes hW I s'
    simp only [List.mem_cons, List.not_mem_nil, or_false] at hk
    rcases hk with rfl | rfl
    all_goals
      conv => whnf
      intro a9
      conv => whnf
      exact ⟨trivial, ⟨Nat.le_of_ble_eq_true rfl, Nat.le_of_ble_eq_true rfl⟩, ⟨_, rfl⟩, z_Fo.of f⟩
  · rintro v9 h9 ⟨it', rfl, s', r, rfl⟩
    have f := z_notes hW I s'
    conv => whnf
    refine ⟨_, rfl, ((f.1.2.1.2 out (j_nn ko)).1).trans ko, ?_⟩
    conv => whnf
    exact ⟨trivial, ⟨Nat.le_of_ble_eq_true rfl, Nat.le_of_ble_eq_true rfl⟩, ⟨_, rfl⟩, z_Fo.out f ko⟩
