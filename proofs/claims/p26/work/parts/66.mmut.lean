/-! the model: what may change it, but for what is added -/
set_option maxHeartbeats 4000000 in
set_option maxRecDepth 20000 in
theorem c_Mo_refuse {ρ : Nat → Nat} {h : j_H} {m P G R Q : Nat} {a : Int32} (w : j_MX ρ h m P G R Q)  : j_Ct 210 0 0 0 0 [j_r (some m), j_i a] h (fun v h' => j_Mf ρ m h h' ∧ ∃ r, v = some (j_i r)) j_no := by
  refine j_intro km_210 (Nat.le_of_ble_eq_true rfl) ?_
  intro J hJ hF
  have wb := w.b
  refine hJ [] 400 _ _ _ _ _ _ ?_
  conv => whnf
  refine ⟨_, rfl, w.km, ?_⟩
  show j_go _ _ _ _ _ _ _ _ _ _ (j_up h m 0 (j_i a)) _ _
  have st1 : j_Mf ρ m h (j_up h m 0 (j_i a)) := j_Mf.fi w.km (by decide)
  generalize j_up h m 0 (j_i a) = H1 at st1 ⊢
  have zG1 := congrArg Int32.toInt (st1.sz w.lG.1)
  have zR1 := congrArg Int32.toInt (st1.sz w.lR.1)
  have zQ1 := congrArg Int32.toInt (st1.sz w.lQ.1)
  have w1 := w.f st1
  have f1_0 := (j_Mf.rf : j_Mf ρ m h h).tr st1
  conv => whnf
  exact ⟨trivial, ⟨by (try dsimp only); omega, by (try dsimp only); omega⟩, f1_0, _, rfl⟩
set_option maxHeartbeats 4000000 in
set_option maxRecDepth 20000 in
theorem c_Mo_spans {ρ : Nat → Nat} {h : j_H} {m P G R Q : Nat}  (w : j_MX ρ h m P G R Q)  : j_Ct 214 3 64 1 40 [j_r (some m)] h (fun v h' => j_Mf ρ m h h' ∧ ∃ r, v = some (j_r (some r)) ∧ j_kd h' r = some (.inr 0) ∧ (j_ln h' r : Int) = 2 * (j_it h' R 2).toInt) j_no := by
  refine j_intro km_214 (Nat.le_of_ble_eq_true rfl) ?_
  intro J hJ hF
  have wb := w.b
  refine hJ [14] 400 _ _ _ _ _ _ ?_
  conv => whnf
  refine ⟨_, rfl, w.km, fun o1 eo => ?_⟩
  obtain rfl : o1 = some R := eo.symm.trans w.eR
  conv => whnf
  refine ⟨w.lR.1, rfl, _, _, _, _, _, _, c_AL_size (h := h) w.lR j_Sc.rf j_sf_ok, ⟨Nat.le_of_ble_eq_true rfl, Nat.le_of_ble_eq_true rfl, by (try dsimp only); omega, by (try dsimp only); omega⟩, fun _ _ z => False.elim z, ?_⟩
  rintro v9 h9 ⟨e9, rfl⟩
  obtain rfl : h = h9 := e9.symm
  conv => whnf
  have anb2 : ((Int32.ofInt (2) * (j_it h R 2))).toInt = 2 * ((j_it h R 2)).toInt := j_dbl (by omega) (by omega)
  have clb2 := j_clamp (i := (Int32.ofInt (2) * (j_it h R 2))) (by omega)
  refine ⟨⟨fun z => absurd (j_l0.mp z) (by omega), by omega⟩, ⟨by (try dsimp only); omega, by (try dsimp only); omega⟩, fun b2 hbb2 => ?_⟩
  show j_go _ _ _ _ _ _ _ _ _ _ (j_nw h b2 (.inr 0) ((Int32.ofInt (2) * (j_it h R 2))).toNatClampNeg) _ _
  have st3 : j_Mf ρ m h (j_nw h b2 (.inr 0) ((Int32.ofInt (2) * (j_it h R 2))).toNatClampNeg) := j_Mf.nw w.km hbb2 (fun _ z => nomatch z)
  have kb2 : j_kd (j_nw h b2 (.inr 0) ((Int32.ofInt (2) * (j_it h R 2))).toNatClampNeg) b2 = some (.inr 0) := if_pos rfl
  have nb2 : j_ln (j_nw h b2 (.inr 0) ((Int32.ofInt (2) * (j_it h R 2))).toNatClampNeg) b2 = ((Int32.ofInt (2) * (j_it h R 2))).toNatClampNeg := if_pos rfl
  have rb2 := w.rz b2 hbb2
  generalize j_nw h b2 (.inr 0) ((Int32.ofInt (2) * (j_it h R 2))).toNatClampNeg = H3 at st3 kb2 nb2 ⊢
  have zG4 := congrArg Int32.toInt (st3.sz w.lG.1)
  have zR4 := congrArg Int32.toInt (st3.sz w.lR.1)
  have zQ4 := congrArg Int32.toInt (st3.sz w.lQ.1)
  have w4 := w.f st3
  have f4_0 := (j_Mf.rf : j_Mf ρ m h h).tr st3
  have L14_6 : ∀ (k : Nat) (v5 : Int32) (H8 : j_H) (cn sn : Nat), j_Mf ρ m H3 H8 → cn ≤ 1 → sn ≤ 40 → 0 ≤ v5.toInt → (2147483647 - v5.toInt) < (k : Int) → J 14 [some (j_r (some m)), some (j_r (some b2)), some (j_i v5), none] [] H8 cn sn := by
    intro k
    induction k with
    | zero => intro v5 H8 cn sn sbB7 hcn hsn hn hm; exact absurd hm (by have := j_ub v5; omega)
    | succ k ihB7 =>
      intro v5 H8 cn sn sbB7 hcn hsn hn hm
      have uv5 := j_ub v5; have lv5 := j_lb v5
      have zG9 := congrArg Int32.toInt (sbB7.sz w4.lG.1)
      have zR9 := congrArg Int32.toInt (sbB7.sz w4.lR.1)
      have zQ9 := congrArg Int32.toInt (sbB7.sz w4.lQ.1)
      have n9_b2 := sbB7.ln kb2
      have k9_b2 := sbB7.kd kb2
      have w9 := w4.f sbB7
      have f9_0 := f4_0.tr sbB7
      refine hJ [14] 400 _ _ _ _ _ _ ?_
      conv => whnf
      refine ⟨_, rfl, w9.km, fun o10 eo => ?_⟩
      obtain rfl : o10 = some R := eo.symm.trans w9.eR
      conv => whnf
      refine ⟨w9.lR.1, rfl, _, _, _, _, _, _, c_AL_size (h := H8) w9.lR j_Sc.rf j_sf_ok, ⟨Nat.le_of_ble_eq_true rfl, Nat.le_of_ble_eq_true rfl, by (try dsimp only); omega, by (try dsimp only); omega⟩, fun _ _ z => False.elim z, ?_⟩
      rintro v9 h9 ⟨e9, rfl⟩
      obtain rfl : H8 = h9 := e9.symm
      have u11 := j_ub v5
      conv => whnf
      refine ⟨fun c12 => ?_, fun c12 => ?_⟩
      · have c12 : ((j_it H8 R 2)).toInt ≤ (v5).toInt := c12
        conv => whnf
        exact ⟨trivial, ⟨by (try dsimp only); omega, by (try dsimp only); omega⟩, f9_0, _, rfl, k9_b2, by omega⟩
      · have c12 : ¬ ((j_it H8 R 2)).toInt ≤ (v5).toInt := c12
        conv => whnf
        refine ⟨_, rfl, w9.km, fun o13 eo => ?_⟩
        obtain rfl : o13 = some R := eo.symm.trans w9.eR
        conv => whnf
        refine ⟨w9.lR.1, rfl, _, _, _, _, _, _, c_AL_get (h := H8) w9.lR j_Sc.rf j_sf_ok (by omega) (by omega), ⟨Nat.le_of_ble_eq_true rfl, Nat.le_of_ble_eq_true rfl, by (try dsimp only); omega, by (try dsimp only); omega⟩, fun _ _ z => False.elim z, ?_⟩
        rintro v9 h9 ⟨e9, g14, rfl, kg14, xg14⟩
        obtain rfl : H8 = h9 := e9.symm
        have feg14 := w9.aR.get (by omega) (by omega) xg14
        conv => whnf
        refine ⟨Or.inr ⟨_, rfl, kg14⟩, ?_⟩
        conv => whnf
        refine ⟨_, rfl, w9.km, fun o15 eo => ?_⟩
        obtain rfl : o15 = some P := eo.symm.trans w9.eP
        conv => whnf
        refine ⟨_, rfl, kg14, fun x16 ex16 => ?_⟩
        have hx16 : 0 ≤ x16.toInt ∧ x16.toInt ≤ 1 := by rw [← ex16]; exact feg14
        have n17 := w9.nP
        conv => whnf
        refine ⟨_, _, rfl, w9.kP, rfl, j_vp (by omega) (by omega), fun x18 ex18 => ?_⟩
        have hx18 : x18.toInt ≠ 0 := j_nzP w9 ex18 (by omega) (by omega)
        conv => whnf
        refine ⟨w9.km, rfl, _, _, _, _, _, _, c_Mo_early w9 kg14 (by omega), ⟨Nat.le_of_ble_eq_true rfl, Nat.le_of_ble_eq_true rfl, by (try dsimp only); omega, by (try dsimp only); omega⟩, fun _ _ z => False.elim z, ?_⟩
        rintro v9 h9 ⟨e9, r19, rfl⟩
        obtain rfl : H8 = h9 := e9.symm
        conv => whnf
        refine ⟨_, rfl, k9_b2, j_vp (by rw [j_dbl (by omega) (by omega)]; omega) (by rw [j_dbl (by omega) (by omega)]; omega), ?_⟩
        show j_go _ _ _ _ _ _ _ _ _ _ (j_ui H8 b2 ((Int32.ofInt (2) * v5)).toNatClampNeg r19) _ _
        have st20 : j_Mf ρ m H8 (j_ui H8 b2 ((Int32.ofInt (2) * v5)).toNatClampNeg r19) := j_Mf.ar w9.km k9_b2 (⟨by omega, fun z => absurd z (by omega)⟩)
        generalize j_ui H8 b2 ((Int32.ofInt (2) * v5)).toNatClampNeg r19 = H20 at st20 ⊢
        have zG20 := congrArg Int32.toInt (st20.sz w9.lG.1)
        have zR20 := congrArg Int32.toInt (st20.sz w9.lR.1)
        have zQ20 := congrArg Int32.toInt (st20.sz w9.lQ.1)
        have n20_b2 := st20.ln k9_b2
        have k20_b2 := st20.kd k9_b2
        have fe20_g14 := st20.rA kg14 feg14
        have k20_g14 := st20.kd kg14
        have w20 := w9.f st20
        have f20_0 := f9_0.tr st20
        have f20_B7 := sbB7.tr st20
        conv => whnf
        refine ⟨_, rfl, w20.km, fun o21 eo => ?_⟩
        obtain rfl : o21 = some P := eo.symm.trans w20.eP
        conv => whnf
        refine ⟨_, rfl, k20_g14, fun x22 ex22 => ?_⟩
        have hx22 : 0 ≤ x22.toInt ∧ x22.toInt ≤ 1 := by rw [← ex22]; exact fe20_g14
        have n23 := w20.nP
        conv => whnf
        refine ⟨_, _, rfl, w20.kP, rfl, j_vp (by omega) (by omega), fun x24 ex24 => ?_⟩
        have hx24 : x24.toInt ≠ 0 := j_nzP w20 ex24 (by omega) (by omega)
        conv => whnf
        refine ⟨w20.km, rfl, _, _, _, _, _, _, c_Mo_late w20 k20_g14 (by omega), ⟨Nat.le_of_ble_eq_true rfl, Nat.le_of_ble_eq_true rfl, by (try dsimp only); omega, by (try dsimp only); omega⟩, fun _ _ z => False.elim z, ?_⟩
        rintro v9 h9 ⟨e9, r25, rfl⟩
        obtain rfl : H20 = h9 := e9.symm
        conv => whnf
        refine ⟨_, rfl, k20_b2, j_vp (by rw [j_dbl1 (by omega) (by omega)]; omega) (by rw [j_dbl1 (by omega) (by omega)]; omega), ?_⟩
        show j_go _ _ _ _ _ _ _ _ _ _ (j_ui H20 b2 (((Int32.ofInt (2) * v5) + Int32.ofInt (1))).toNatClampNeg r25) _ _
        have st26 : j_Mf ρ m H20 (j_ui H20 b2 (((Int32.ofInt (2) * v5) + Int32.ofInt (1))).toNatClampNeg r25) := j_Mf.ar w20.km k20_b2 (⟨by omega, fun z => absurd z (by omega)⟩)
        generalize j_ui H20 b2 (((Int32.ofInt (2) * v5) + Int32.ofInt (1))).toNatClampNeg r25 = H26 at st26 ⊢
        have zG26 := congrArg Int32.toInt (st26.sz w20.lG.1)
        have zR26 := congrArg Int32.toInt (st26.sz w20.lR.1)
        have zQ26 := congrArg Int32.toInt (st26.sz w20.lQ.1)
        have n26_b2 := st26.ln k20_b2
        have k26_b2 := st26.kd k20_b2
        have fe26_g14 := st26.rA k20_g14 fe20_g14
        have k26_g14 := st26.kd k20_g14
        have w26 := w20.f st26
        have f26_0 := f20_0.tr st26
        have f26_B7 := f20_B7.tr st26
        have t27 : (v5 + Int32.ofInt 1).toInt = v5.toInt + 1 := j_inc1 (by omega)
        exact j_use hF (ihB7 _ _ _ _ f26_B7 (by (try dsimp only); omega) (by (try dsimp only); omega) (by omega) (by omega)) (And.intro rfl (And.intro rfl (And.intro rfl trivial)))
  have q28 : (Int32.ofInt (0)).toInt = 0 := by decide
  exact j_use hF (L14_6 4294967296 _ _ _ _ j_Mf.rf (by (try dsimp only); omega) (by (try dsimp only); omega) (by omega) (by omega)) (And.intro rfl (And.intro rfl (And.intro rfl trivial)))
set_option maxHeartbeats 4000000 in
set_option maxRecDepth 20000 in
theorem c_Mo_fewestNow {ρ : Nat → Nat} {h : j_H} {m P G R Q : Nat} {s : Nat} (w : j_MX ρ h m P G R Q) (ks : j_kd h s = some (.inr 0)) (ns : (j_ln h s : Int) = 2 * (j_it h R 2).toInt) : j_Ct 179 5 113 2 16 [j_r (some m), j_r (some s)] h (fun v h' => j_Mf ρ m h h' ∧ ∃ r, v = some (j_i r)) j_no := by
  refine j_intro km_179 (Nat.le_of_ble_eq_true rfl) ?_
  intro J hJ hF
  have wb := w.b
  refine hJ [23, 71] 400 _ _ _ _ _ _ ?_
  conv => whnf
  refine ⟨_, rfl, w.km, fun o1 eo => ?_⟩
  obtain rfl : o1 = some G := eo.symm.trans w.eG
  conv => whnf
  refine ⟨w.lG.1, rfl, _, _, _, _, _, _, c_AL_size (h := h) w.lG j_Sc.rf j_sf_ok, ⟨Nat.le_of_ble_eq_true rfl, Nat.le_of_ble_eq_true rfl, by (try dsimp only); omega, by (try dsimp only); omega⟩, fun _ _ z => False.elim z, ?_⟩
  rintro v9 h9 ⟨e9, rfl⟩
  obtain rfl : h = h9 := e9.symm
  conv => whnf
  have clb2 := j_clamp (i := (j_it h G 2)) (by omega)
  refine ⟨⟨fun z => absurd (j_l0.mp z) (by omega), by omega⟩, ⟨by (try dsimp only); omega, by (try dsimp only); omega⟩, fun b2 hbb2 => ?_⟩
  show j_go _ _ _ _ _ _ _ _ _ _ (j_nw h b2 (.inr 0) ((j_it h G 2)).toNatClampNeg) _ _
  have st3 : j_Mf ρ m h (j_nw h b2 (.inr 0) ((j_it h G 2)).toNatClampNeg) := j_Mf.nw w.km hbb2 (fun _ z => nomatch z)
  have kb2 : j_kd (j_nw h b2 (.inr 0) ((j_it h G 2)).toNatClampNeg) b2 = some (.inr 0) := if_pos rfl
  have nb2 : j_ln (j_nw h b2 (.inr 0) ((j_it h G 2)).toNatClampNeg) b2 = ((j_it h G 2)).toNatClampNeg := if_pos rfl
  have rb2 := w.rz b2 hbb2
  generalize j_nw h b2 (.inr 0) ((j_it h G 2)).toNatClampNeg = H3 at st3 kb2 nb2 ⊢
  have zG4 := congrArg Int32.toInt (st3.sz w.lG.1)
  have zR4 := congrArg Int32.toInt (st3.sz w.lR.1)
  have zQ4 := congrArg Int32.toInt (st3.sz w.lQ.1)
  have n4_s := st3.ln ks
  have k4_s := st3.kd ks
  have w4 := w.f st3
  have f4_0 := (j_Mf.rf : j_Mf ρ m h h).tr st3
  conv => whnf
  refine ⟨_, rfl, w4.km, fun o5 eo => ?_⟩
  obtain rfl : o5 = some G := eo.symm.trans w4.eG
  conv => whnf
  refine ⟨w4.lG.1, rfl, _, _, _, _, _, _, c_AL_size (h := H3) w4.lG j_Sc.rf j_sf_ok, ⟨Nat.le_of_ble_eq_true rfl, Nat.le_of_ble_eq_true rfl, by (try dsimp only); omega, by (try dsimp only); omega⟩, fun _ _ z => False.elim z, ?_⟩
  rintro v9 h9 ⟨e9, rfl⟩
  obtain rfl : H3 = h9 := e9.symm
  conv => whnf
  have clb6 := j_clamp (i := (j_it H3 G 2)) (by omega)
  refine ⟨⟨fun z => absurd (j_l0.mp z) (by omega), by omega⟩, ⟨by (try dsimp only); omega, by (try dsimp only); omega⟩, fun b6 hbb6 => ?_⟩
  show j_go _ _ _ _ _ _ _ _ _ _ (j_nw H3 b6 (.inr 0) ((j_it H3 G 2)).toNatClampNeg) _ _
  have st7 : j_Mf ρ m H3 (j_nw H3 b6 (.inr 0) ((j_it H3 G 2)).toNatClampNeg) := j_Mf.nw w4.km hbb6 (fun _ z => nomatch z)
  have kb6 : j_kd (j_nw H3 b6 (.inr 0) ((j_it H3 G 2)).toNatClampNeg) b6 = some (.inr 0) := if_pos rfl
  have nb6 : j_ln (j_nw H3 b6 (.inr 0) ((j_it H3 G 2)).toNatClampNeg) b6 = ((j_it H3 G 2)).toNatClampNeg := if_pos rfl
  have rb6 := w4.rz b6 hbb6
  generalize j_nw H3 b6 (.inr 0) ((j_it H3 G 2)).toNatClampNeg = H7 at st7 kb6 nb6 ⊢
  have zG8 := congrArg Int32.toInt (st7.sz w4.lG.1)
  have zR8 := congrArg Int32.toInt (st7.sz w4.lR.1)
  have zQ8 := congrArg Int32.toInt (st7.sz w4.lQ.1)
  have n8_s := st7.ln k4_s
  have k8_s := st7.kd k4_s
  have n8_b2 := st7.ln kb2
  have k8_b2 := st7.kd kb2
  have w8 := w4.f st7
  have f8_0 := f4_0.tr st7
  have L23_10 : ∀ (k : Nat) (v9 : Int32) (H12 : j_H) (cn sn : Nat), j_Mf ρ m H7 H12 → cn ≤ 2 → sn ≤ 16 → 0 ≤ v9.toInt → (2147483647 - v9.toInt) < (k : Int) → J 23 [some (j_r (some m)), some (j_r (some s)), some (j_r (some b2)), some (j_r (some b6)), some (j_i v9), none] [] H12 cn sn := by
    intro k
    induction k with
    | zero => intro v9 H12 cn sn sbB11 hcn hsn hn hm; exact absurd hm (by have := j_ub v9; omega)
    | succ k ihB11 =>
      intro v9 H12 cn sn sbB11 hcn hsn hn hm
      have uv9 := j_ub v9; have lv9 := j_lb v9
      have zG13 := congrArg Int32.toInt (sbB11.sz w8.lG.1)
      have zR13 := congrArg Int32.toInt (sbB11.sz w8.lR.1)
      have zQ13 := congrArg Int32.toInt (sbB11.sz w8.lQ.1)
      have n13_s := sbB11.ln k8_s
      have k13_s := sbB11.kd k8_s
      have n13_b2 := sbB11.ln k8_b2
      have k13_b2 := sbB11.kd k8_b2
      have n13_b6 := sbB11.ln kb6
      have k13_b6 := sbB11.kd kb6
      have w13 := w8.f sbB11
      have f13_0 := f8_0.tr sbB11
      refine hJ [23, 71] 400 _ _ _ _ _ _ ?_
      conv => whnf
      refine ⟨_, _, rfl, k13_b2, ?_⟩
      have nl14 : (nI (j_ln H12 b2)).toInt = (j_ln H12 b2 : Int) := nI_toInt (by omega)
      have u15 := j_ub v9
      conv => whnf
      refine ⟨fun c16 => ?_, fun c16 => ?_⟩
      · have c16 : (nI (j_ln H12 b2)).toInt ≤ (v9).toInt := c16
        conv => whnf
        refine ⟨_, _, rfl, k13_b2, ?_⟩
        have nl17 : (nI (j_ln H12 b2)).toInt = (j_ln H12 b2 : Int) := nI_toInt (by omega)
        have L71_20 : ∀ (k : Nat) (v18 : Int32) (v19 : Int32) (H22 : j_H) (cn sn : Nat), j_Mf ρ m H12 H22 → cn ≤ 2 → sn ≤ 16 → 0 ≤ v19.toInt → (2147483647 - v19.toInt) < (k : Int) → J 71 [some (j_r (some m)), some (j_r (some s)), some (j_r (some b2)), some (j_r (some b6)), some (j_i v18), some (j_i v19)] [] H22 cn sn := by
          intro k
          induction k with
          | zero => intro v18 v19 H22 cn sn sbB21 hcn hsn hn hm; exact absurd hm (by have := j_ub v19; omega)
          | succ k ihB21 =>
            intro v18 v19 H22 cn sn sbB21 hcn hsn hn hm
            have uv18 := j_ub v18; have lv18 := j_lb v18
            have uv19 := j_ub v19; have lv19 := j_lb v19
            have zG23 := congrArg Int32.toInt (sbB21.sz w13.lG.1)
            have zR23 := congrArg Int32.toInt (sbB21.sz w13.lR.1)
            have zQ23 := congrArg Int32.toInt (sbB21.sz w13.lQ.1)
            have n23_s := sbB21.ln k13_s
            have k23_s := sbB21.kd k13_s
            have n23_b2 := sbB21.ln k13_b2
            have k23_b2 := sbB21.kd k13_b2
            have n23_b6 := sbB21.ln k13_b6
            have k23_b6 := sbB21.kd k13_b6
            have w23 := w13.f sbB21
            have f23_0 := f13_0.tr sbB21
            have f23_B11 := sbB11.tr sbB21
            refine hJ [23, 71] 400 _ _ _ _ _ _ ?_
            conv => whnf
            refine ⟨_, _, rfl, k23_b2, ?_⟩
            have nl24 : (nI (j_ln H22 b2)).toInt = (j_ln H22 b2 : Int) := nI_toInt (by omega)
            have u25 := j_ub (Int32.ofInt (1) <<< (nI (j_ln H22 b2) &&& 31))
            have u26 := j_ub v19
            conv => whnf
            refine ⟨fun c27 => ?_, fun c27 => ?_⟩
            · have c27 : ((Int32.ofInt (1) <<< (nI (j_ln H22 b2) &&& 31))).toInt ≤ (v19).toInt := c27
              conv => whnf
              exact ⟨trivial, ⟨by (try dsimp only); omega, by (try dsimp only); omega⟩, f23_0, _, rfl⟩
            · have c27 : ¬ ((Int32.ofInt (1) <<< (nI (j_ln H22 b2) &&& 31))).toInt ≤ (v19).toInt := c27
              conv => whnf
              refine ⟨rfl, _, _, _, _, _, _, c_Integer_bitCount, ⟨Nat.le_of_ble_eq_true rfl, Nat.le_of_ble_eq_true rfl, by (try dsimp only); omega, by (try dsimp only); omega⟩, fun _ _ z => False.elim z, ?_⟩
              rintro v9 h9 ⟨e9, r28, rfl⟩
              obtain rfl : H22 = h9 := e9.symm
              conv => whnf
              refine ⟨rfl, _, _, _, _, _, _, c_Integer_bitCount, ⟨Nat.le_of_ble_eq_true rfl, Nat.le_of_ble_eq_true rfl, by (try dsimp only); omega, by (try dsimp only); omega⟩, fun _ _ z => False.elim z, ?_⟩
              rintro v9 h9 ⟨e9, r29, rfl⟩
              obtain rfl : H22 = h9 := e9.symm
              have u30 := j_ub r29
              have u31 := j_ub r28
              conv => whnf
              refine ⟨fun c32 => ?_, fun c32 => ?_⟩
              · have c32 : (r29).toInt ≤ (r28).toInt := c32
                have t33 : (v19 + Int32.ofInt 1).toInt = v19.toInt + 1 := j_inc1 (by omega)
                exact j_use hF (ihB21 _ _ _ _ _ sbB21 (by (try dsimp only); omega) (by (try dsimp only); omega) (by omega) (by omega)) (And.intro rfl (And.intro rfl (And.intro rfl (And.intro rfl (And.intro rfl (And.intro rfl trivial))))))
              · have c32 : ¬ (r29).toInt ≤ (r28).toInt := c32
                conv => whnf
                refine ⟨w23.km, rfl, _, _, _, _, _, _, c_Mo_agree w23 k23_b2 (by omega) k23_b6 (by omega), ⟨Nat.le_of_ble_eq_true rfl, Nat.le_of_ble_eq_true rfl, by (try dsimp only); omega, by (try dsimp only); omega⟩, fun _ _ z => False.elim z, ?_⟩
                rintro v9 h9 ⟨e9, r34, rfl, zr34⟩
                obtain rfl : H22 = h9 := e9.symm
                conv => whnf
                refine ⟨fun c35 => ?_, fun c35 => ?_⟩
                · have c35 : (r34).toInt = 0 := c35
                  have t36 : (v19 + Int32.ofInt 1).toInt = v19.toInt + 1 := j_inc1 (by omega)
                  exact j_use hF (ihB21 _ _ _ _ _ sbB21 (by (try dsimp only); omega) (by (try dsimp only); omega) (by omega) (by omega)) (And.intro rfl (And.intro rfl (And.intro rfl (And.intro rfl (And.intro rfl (And.intro rfl trivial))))))
                · have c35 : ¬ (r34).toInt = 0 := c35
                  have t37 : (v19 + Int32.ofInt 1).toInt = v19.toInt + 1 := j_inc1 (by omega)
                  exact j_use hF (ihB21 _ _ _ _ _ sbB21 (by (try dsimp only); omega) (by (try dsimp only); omega) (by omega) (by omega)) (And.intro rfl (And.intro rfl (And.intro rfl (And.intro rfl (And.intro rfl (And.intro rfl trivial))))))
        have q38 : (Int32.ofInt (0)).toInt = 0 := by decide
        exact j_use hF (L71_20 4294967296 _ _ _ _ _ j_Mf.rf (by (try dsimp only); omega) (by (try dsimp only); omega) (by omega) (by omega)) (And.intro rfl (And.intro rfl (And.intro rfl (And.intro rfl (And.intro rfl (And.intro rfl trivial))))))
      · have c16 : ¬ (nI (j_ln H12 b2)).toInt ≤ (v9).toInt := c16
        have q39 : (Int32.ofInt (-1)).toInt = -1 := by decide
        conv => whnf
        refine ⟨w13.km, rfl, _, _, _, _, _, _, c_Mo_earlyOf w13 k13_s (by omega), ⟨Nat.le_of_ble_eq_true rfl, Nat.le_of_ble_eq_true rfl, by (try dsimp only); omega, by (try dsimp only); omega⟩, fun _ _ z => False.elim z, ?_⟩
        rintro v9 h9 ⟨e9, r40, rfl⟩
        obtain rfl : H12 = h9 := e9.symm
        conv => whnf
        refine ⟨_, rfl, k13_b2, j_vp (by omega) (by omega), ?_⟩
        show j_go _ _ _ _ _ _ _ _ _ _ (j_ui H12 b2 (v9).toNatClampNeg r40) _ _
        have st41 : j_Mf ρ m H12 (j_ui H12 b2 (v9).toNatClampNeg r40) := j_Mf.ar w13.km k13_b2 (⟨by omega, fun z => absurd z (by omega)⟩)
        generalize j_ui H12 b2 (v9).toNatClampNeg r40 = H41 at st41 ⊢
        have zG41 := congrArg Int32.toInt (st41.sz w13.lG.1)
        have zR41 := congrArg Int32.toInt (st41.sz w13.lR.1)
        have zQ41 := congrArg Int32.toInt (st41.sz w13.lQ.1)
        have n41_s := st41.ln k13_s
        have k41_s := st41.kd k13_s
        have n41_b2 := st41.ln k13_b2
        have k41_b2 := st41.kd k13_b2
        have n41_b6 := st41.ln k13_b6
        have k41_b6 := st41.kd k13_b6
        have w41 := w13.f st41
        have f41_0 := f13_0.tr st41
        have f41_B11 := sbB11.tr st41
        have q42 : (Int32.ofInt (-1)).toInt = -1 := by decide
        conv => whnf
        refine ⟨w41.km, rfl, _, _, _, _, _, _, c_Mo_lateOf w41 k41_s (by omega), ⟨Nat.le_of_ble_eq_true rfl, Nat.le_of_ble_eq_true rfl, by (try dsimp only); omega, by (try dsimp only); omega⟩, fun _ _ z => False.elim z, ?_⟩
        rintro v9 h9 ⟨e9, r43, rfl⟩
        obtain rfl : H41 = h9 := e9.symm
        conv => whnf
        refine ⟨_, rfl, k41_b6, j_vp (by omega) (by omega), ?_⟩
        show j_go _ _ _ _ _ _ _ _ _ _ (j_ui H41 b6 (v9).toNatClampNeg r43) _ _
        have st44 : j_Mf ρ m H41 (j_ui H41 b6 (v9).toNatClampNeg r43) := j_Mf.ar w41.km k41_b6 (⟨by omega, fun z => absurd z (by omega)⟩)
        generalize j_ui H41 b6 (v9).toNatClampNeg r43 = H44 at st44 ⊢
        have zG44 := congrArg Int32.toInt (st44.sz w41.lG.1)
        have zR44 := congrArg Int32.toInt (st44.sz w41.lR.1)
        have zQ44 := congrArg Int32.toInt (st44.sz w41.lQ.1)
        have n44_s := st44.ln k41_s
        have k44_s := st44.kd k41_s
        have n44_b2 := st44.ln k41_b2
        have k44_b2 := st44.kd k41_b2
        have n44_b6 := st44.ln k41_b6
        have k44_b6 := st44.kd k41_b6
        have w44 := w41.f st44
        have f44_0 := f41_0.tr st44
        have f44_B11 := f41_B11.tr st44
        have t45 : (v9 + Int32.ofInt 1).toInt = v9.toInt + 1 := j_inc1 (by omega)
        exact j_use hF (ihB11 _ _ _ _ f44_B11 (by (try dsimp only); omega) (by (try dsimp only); omega) (by omega) (by omega)) (And.intro rfl (And.intro rfl (And.intro rfl (And.intro rfl (And.intro rfl trivial)))))
  have q46 : (Int32.ofInt (0)).toInt = 0 := by decide
  exact j_use hF (L23_10 4294967296 _ _ _ _ j_Mf.rf (by (try dsimp only); omega) (by (try dsimp only); omega) (by omega) (by omega)) (And.intro rfl (And.intro rfl (And.intro rfl (And.intro rfl (And.intro rfl trivial)))))
set_option maxHeartbeats 4000000 in
set_option maxRecDepth 20000 in
theorem c_Mo_swapNow {ρ : Nat → Nat} {h : j_H} {m P G R Q : Nat} {s : Nat} (w : j_MX ρ h m P G R Q) (ks : j_kd h s = some (.inr 0)) (ns : (j_ln h s : Int) = 2 * (j_it h R 2).toInt) : j_Ct 220 4 90 0 0 [j_r (some m), j_r (some s)] h (fun v h' => j_Mf ρ m h h' ∧ ∃ r, v = some (j_i r)) j_no := by
  refine j_intro km_220 (Nat.le_of_ble_eq_true rfl) ?_
  intro J hJ hF
  have wb := w.b
  refine hJ [11, 29] 400 _ _ _ _ _ _ ?_
  conv => whnf
  refine ⟨w.km, rfl, _, _, _, _, _, _, c_Mo_doubles w ks (by omega), ⟨Nat.le_of_ble_eq_true rfl, Nat.le_of_ble_eq_true rfl, by (try dsimp only); omega, by (try dsimp only); omega⟩, fun _ _ z => False.elim z, ?_⟩
  rintro v9 h9 ⟨e9, r1, rfl⟩
  obtain rfl : h = h9 := e9.symm
  have L11_5 : ∀ (k : Nat) (v2 : Int32) (v3 : Int32) (v4 : Int32) (H7 : j_H) (cn sn : Nat), j_Mf ρ m h H7 → cn ≤ 0 → sn ≤ 0 → 0 ≤ v4.toInt → (2147483647 - v4.toInt) < (k : Int) → J 11 [some (j_r (some m)), some (j_r (some s)), some (j_i v2), some (j_i v3), some (j_i v4), none, none] [] H7 cn sn := by
    intro k
    induction k with
    | zero => intro v2 v3 v4 H7 cn sn sbB6 hcn hsn hn hm; exact absurd hm (by have := j_ub v4; omega)
    | succ k ihB6 =>
      intro v2 v3 v4 H7 cn sn sbB6 hcn hsn hn hm
      have uv2 := j_ub v2; have lv2 := j_lb v2
      have uv3 := j_ub v3; have lv3 := j_lb v3
      have uv4 := j_ub v4; have lv4 := j_lb v4
      have zG8 := congrArg Int32.toInt (sbB6.sz w.lG.1)
      have zR8 := congrArg Int32.toInt (sbB6.sz w.lR.1)
      have zQ8 := congrArg Int32.toInt (sbB6.sz w.lQ.1)
      have n8_s := sbB6.ln ks
      have k8_s := sbB6.kd ks
      have w8 := w.f sbB6
      have f8_0 := (j_Mf.rf : j_Mf ρ m h h).tr sbB6
      refine hJ [11, 29] 400 _ _ _ _ _ _ ?_
      conv => whnf
      refine ⟨_, rfl, w8.km, fun o9 eo => ?_⟩
      obtain rfl : o9 = some R := eo.symm.trans w8.eR
      conv => whnf
      refine ⟨w8.lR.1, rfl, _, _, _, _, _, _, c_AL_size (h := H7) w8.lR j_Sc.rf j_sf_ok, ⟨Nat.le_of_ble_eq_true rfl, Nat.le_of_ble_eq_true rfl, by (try dsimp only); omega, by (try dsimp only); omega⟩, fun _ _ z => False.elim z, ?_⟩
      rintro v9 h9 ⟨e9, rfl⟩
      obtain rfl : H7 = h9 := e9.symm
      have u10 := j_ub v4
      conv => whnf
      refine ⟨fun c11 => ?_, fun c11 => ?_⟩
      · have c11 : ((j_it H7 R 2)).toInt ≤ (v4).toInt := c11
        conv => whnf
        exact ⟨trivial, ⟨by (try dsimp only); omega, by (try dsimp only); omega⟩, f8_0, _, rfl⟩
      · have c11 : ¬ ((j_it H7 R 2)).toInt ≤ (v4).toInt := c11
        have L29_15 : ∀ (k : Nat) (v12 : Int32) (v13 : Int32) (v14 : Int32) (H17 : j_H) (cn sn : Nat), j_Mf ρ m H7 H17 → cn ≤ 0 → sn ≤ 0 → 0 ≤ v14.toInt → (2147483647 - v14.toInt) < (k : Int) → J 29 [some (j_r (some m)), some (j_r (some s)), some (j_i v12), some (j_i v13), some (j_i v4), some (j_i v14), none] [] H17 cn sn := by
          intro k
          induction k with
          | zero => intro v12 v13 v14 H17 cn sn sbB16 hcn hsn hn hm; exact absurd hm (by have := j_ub v14; omega)
          | succ k ihB16 =>
            intro v12 v13 v14 H17 cn sn sbB16 hcn hsn hn hm
            have uv12 := j_ub v12; have lv12 := j_lb v12
            have uv13 := j_ub v13; have lv13 := j_lb v13
            have uv14 := j_ub v14; have lv14 := j_lb v14
            have zG18 := congrArg Int32.toInt (sbB16.sz w8.lG.1)
            have zR18 := congrArg Int32.toInt (sbB16.sz w8.lR.1)
            have zQ18 := congrArg Int32.toInt (sbB16.sz w8.lQ.1)
            have n18_s := sbB16.ln k8_s
            have k18_s := sbB16.kd k8_s
            have w18 := w8.f sbB16
            have f18_0 := f8_0.tr sbB16
            have f18_B6 := sbB6.tr sbB16
            refine hJ [11, 29] 400 _ _ _ _ _ _ ?_
            conv => whnf
            refine ⟨_, rfl, w18.km, fun o19 eo => ?_⟩
            obtain rfl : o19 = some R := eo.symm.trans w18.eR
            conv => whnf
            refine ⟨w18.lR.1, rfl, _, _, _, _, _, _, c_AL_size (h := H17) w18.lR j_Sc.rf j_sf_ok, ⟨Nat.le_of_ble_eq_true rfl, Nat.le_of_ble_eq_true rfl, by (try dsimp only); omega, by (try dsimp only); omega⟩, fun _ _ z => False.elim z, ?_⟩
            rintro v9 h9 ⟨e9, rfl⟩
            obtain rfl : H17 = h9 := e9.symm
            have u20 := j_ub v14
            conv => whnf
            refine ⟨fun c21 => ?_, fun c21 => ?_⟩
            · have c21 : ((j_it H17 R 2)).toInt ≤ (v14).toInt := c21
              have t22 : (v4 + Int32.ofInt 1).toInt = v4.toInt + 1 := j_inc1 (by omega)
              exact j_use hF (ihB6 _ _ _ _ _ _ f18_B6 (by (try dsimp only); omega) (by (try dsimp only); omega) (by omega) (by omega)) (And.intro rfl (And.intro rfl (And.intro rfl (And.intro rfl (And.intro rfl trivial)))))
            · have c21 : ¬ ((j_it H17 R 2)).toInt ≤ (v14).toInt := c21
              conv => whnf
              refine ⟨_, rfl, w18.km, fun o23 eo => ?_⟩
              obtain rfl : o23 = some R := eo.symm.trans w18.eR
              conv => whnf
              refine ⟨w18.lR.1, rfl, _, _, _, _, _, _, c_AL_get (h := H17) w18.lR j_Sc.rf j_sf_ok (by omega) (by omega), ⟨Nat.le_of_ble_eq_true rfl, Nat.le_of_ble_eq_true rfl, by (try dsimp only); omega, by (try dsimp only); omega⟩, fun _ _ z => False.elim z, ?_⟩
              rintro v9 h9 ⟨e9, g24, rfl, kg24, xg24⟩
              obtain rfl : H17 = h9 := e9.symm
              have feg24 := w18.aR.get (by omega) (by omega) xg24
              conv => whnf
              refine ⟨Or.inr ⟨_, rfl, kg24⟩, ?_⟩
              conv => whnf
              refine ⟨_, rfl, kg24, fun x25 ex25 => ?_⟩
              conv => whnf
              refine ⟨fun c26 => ?_, fun c26 => ?_⟩
              · have c26 : ¬ (x25).toInt = 0 := c26
                have t27 : (v14 + Int32.ofInt 1).toInt = v14.toInt + 1 := j_inc1 (by omega)
                exact j_use hF (ihB16 _ _ _ _ _ _ sbB16 (by (try dsimp only); omega) (by (try dsimp only); omega) (by omega) (by omega)) (And.intro rfl (And.intro rfl (And.intro rfl (And.intro rfl (And.intro rfl (And.intro rfl trivial))))))
              · have c26 : ¬ ¬ (x25).toInt = 0 := c26
                conv => whnf
                refine ⟨_, rfl, w18.km, fun o28 eo => ?_⟩
                obtain rfl : o28 = some R := eo.symm.trans w18.eR
                conv => whnf
                refine ⟨w18.lR.1, rfl, _, _, _, _, _, _, c_AL_get (h := H17) w18.lR j_Sc.rf j_sf_ok (by omega) (by omega), ⟨Nat.le_of_ble_eq_true rfl, Nat.le_of_ble_eq_true rfl, by (try dsimp only); omega, by (try dsimp only); omega⟩, fun _ _ z => False.elim z, ?_⟩
                rintro v9 h9 ⟨e9, g29, rfl, kg29, xg29⟩
                obtain rfl : H17 = h9 := e9.symm
                have feg29 := w18.aR.get (by omega) (by omega) xg29
                conv => whnf
                refine ⟨Or.inr ⟨_, rfl, kg29⟩, ?_⟩
                conv => whnf
                refine ⟨_, rfl, kg29, fun x30 ex30 => ?_⟩
                conv => whnf
                refine ⟨fun c31 => ?_, fun c31 => ?_⟩
                · have c31 : ¬ (x30).toInt = 0 := c31
                  have t32 : (v14 + Int32.ofInt 1).toInt = v14.toInt + 1 := j_inc1 (by omega)
                  exact j_use hF (ihB16 _ _ _ _ _ _ sbB16 (by (try dsimp only); omega) (by (try dsimp only); omega) (by omega) (by omega)) (And.intro rfl (And.intro rfl (And.intro rfl (And.intro rfl (And.intro rfl (And.intro rfl trivial))))))
                · have c31 : ¬ ¬ (x30).toInt = 0 := c31
                  conv => whnf
                  refine ⟨_, rfl, w18.km, fun o33 eo => ?_⟩
                  obtain rfl : o33 = some R := eo.symm.trans w18.eR
                  conv => whnf
                  refine ⟨w18.lR.1, rfl, _, _, _, _, _, _, c_AL_get (h := H17) w18.lR j_Sc.rf j_sf_ok (by omega) (by omega), ⟨Nat.le_of_ble_eq_true rfl, Nat.le_of_ble_eq_true rfl, by (try dsimp only); omega, by (try dsimp only); omega⟩, fun _ _ z => False.elim z, ?_⟩
                  rintro v9 h9 ⟨e9, g34, rfl, kg34, xg34⟩
                  obtain rfl : H17 = h9 := e9.symm
                  have feg34 := w18.aR.get (by omega) (by omega) xg34
                  conv => whnf
                  refine ⟨Or.inr ⟨_, rfl, kg34⟩, ?_⟩
                  conv => whnf
                  refine ⟨_, rfl, kg34, fun x35 ex35 => ?_⟩
                  conv => whnf
                  refine ⟨_, rfl, w18.km, fun o36 eo => ?_⟩
                  obtain rfl : o36 = some R := eo.symm.trans w18.eR
                  conv => whnf
                  refine ⟨w18.lR.1, rfl, _, _, _, _, _, _, c_AL_get (h := H17) w18.lR j_Sc.rf j_sf_ok (by omega) (by omega), ⟨Nat.le_of_ble_eq_true rfl, Nat.le_of_ble_eq_true rfl, by (try dsimp only); omega, by (try dsimp only); omega⟩, fun _ _ z => False.elim z, ?_⟩
                  rintro v9 h9 ⟨e9, g37, rfl, kg37, xg37⟩
                  obtain rfl : H17 = h9 := e9.symm
                  have feg37 := w18.aR.get (by omega) (by omega) xg37
                  conv => whnf
                  refine ⟨Or.inr ⟨_, rfl, kg37⟩, ?_⟩
                  conv => whnf
                  refine ⟨_, rfl, kg37, fun x38 ex38 => ?_⟩
                  have u39 := j_ub x38
                  have u40 := j_ub x35
                  conv => whnf
                  refine ⟨fun c41 => ?_, fun c41 => ?_⟩
                  · have c41 : ¬ (x35).toInt = (x38).toInt := c41
                    conv => whnf
                    refine ⟨w18.km, rfl, _, _, _, _, _, _, c_Mo_exchangex w18 ⟨by omega, by omega⟩ ⟨by omega, by omega⟩, ⟨Nat.le_of_ble_eq_true rfl, Nat.le_of_ble_eq_true rfl, by (try dsimp only); omega, by (try dsimp only); omega⟩, fun _ _ z => False.elim z, ?_⟩
                    rintro v9 H43 ⟨rfl, eH43⟩
                    have la : (v4.toNatClampNeg : Int) < (j_it H17 R 2).toInt := by rw [j_clamp (by omega)]; omega
                    have lb : (v14.toNatClampNeg : Int) < (j_it H17 R 2).toInt := by rw [j_clamp (by omega)]; omega
                    have w45 : j_MX ρ H43 m P G R Q := by rw [eH43]; exact w18.ex (w18.r la).1 (w18.r lb).1
                    have ne1 : R ≠ z_ml H17 R v4.toNatClampNeg := fun z => by have q := (w18.r la).1; rw [← z, w18.lR.1] at q; cases q
                    have ne2 : R ≠ z_ml H17 R v14.toNatClampNeg := fun z => by have q := (w18.r lb).1; rw [← z, w18.lR.1] at q; cases q
                    have zR45 : (j_it H43 R 2).toInt = (j_it H17 R 2).toInt := by rw [eH43]; exact congrArg Int32.toInt (z_ex_ne (it := j_it H17) (f := 2) ne1 ne2)
                    have n45_s : j_ln H43 s = j_ln H17 s := by rw [eH43]
                    have k45_s : j_kd H43 s = some (.inr 0) := by rw [eH43]; exact k18_s
                    conv => whnf
                    refine ⟨w45.km, rfl, _, _, _, _, _, _, c_Mo_doubles w45 k45_s (by omega), ⟨Nat.le_of_ble_eq_true rfl, Nat.le_of_ble_eq_true rfl, by (try dsimp only); omega, by (try dsimp only); omega⟩, fun _ _ z => False.elim z, ?_⟩
                    rintro v9 h9 ⟨e9, r46, rfl⟩
                    obtain rfl : H43 = h9 := e9.symm
                    conv => whnf
                    refine ⟨w45.km, rfl, _, _, _, _, _, _, c_Mo_exchangex w45 ⟨by omega, by omega⟩ ⟨by omega, by omega⟩, ⟨Nat.le_of_ble_eq_true rfl, Nat.le_of_ble_eq_true rfl, by (try dsimp only); omega, by (try dsimp only); omega⟩, fun _ _ z => False.elim z, ?_⟩
                    rintro v9 H48 ⟨rfl, eH48⟩
                    obtain rfl : H17 = H48 := by
                      rw [eH48, eH43]
                      exact (congrArg (j_wi H17) z_ex2).symm
                    have u51 := j_ub v13
                    have u52 := j_ub r46
                    conv => whnf
                    refine ⟨fun c53 => ?_, fun c53 => ?_⟩
                    · have c53 : (r46).toInt < (v13).toInt := c53
                      have t54 : (v14 + Int32.ofInt 1).toInt = v14.toInt + 1 := j_inc1 (by omega)
                      exact j_use hF (ihB16 _ _ _ _ _ _ sbB16 (by (try dsimp only); omega) (by (try dsimp only); omega) (by omega) (by omega)) (And.intro rfl (And.intro rfl (And.intro rfl (And.intro rfl (And.intro rfl (And.intro rfl trivial))))))
                    · have c53 : ¬ (r46).toInt < (v13).toInt := c53
                      have t55 : (v14 + Int32.ofInt 1).toInt = v14.toInt + 1 := j_inc1 (by omega)
                      exact j_use hF (ihB16 _ _ _ _ _ _ sbB16 (by (try dsimp only); omega) (by (try dsimp only); omega) (by omega) (by omega)) (And.intro rfl (And.intro rfl (And.intro rfl (And.intro rfl (And.intro rfl (And.intro rfl trivial))))))
                  · have c41 : ¬ ¬ (x35).toInt = (x38).toInt := c41
                    have t56 : (v14 + Int32.ofInt 1).toInt = v14.toInt + 1 := j_inc1 (by omega)
                    exact j_use hF (ihB16 _ _ _ _ _ _ sbB16 (by (try dsimp only); omega) (by (try dsimp only); omega) (by omega) (by omega)) (And.intro rfl (And.intro rfl (And.intro rfl (And.intro rfl (And.intro rfl (And.intro rfl trivial))))))
        have t57 : (v4 + Int32.ofInt 1).toInt = v4.toInt + 1 := j_inc1 (by omega)
        exact j_use hF (L29_15 4294967296 _ _ _ _ _ _ j_Mf.rf (by (try dsimp only); omega) (by (try dsimp only); omega) (by omega) (by omega)) (And.intro rfl (And.intro rfl (And.intro rfl (And.intro rfl (And.intro rfl (And.intro rfl trivial))))))
  have q58 : (Int32.ofInt (0)).toInt = 0 := by decide
  exact j_use hF (L11_5 4294967296 _ _ _ _ _ _ j_Mf.rf (by (try dsimp only); omega) (by (try dsimp only); omega) (by omega) (by omega)) (And.intro rfl (And.intro rfl (And.intro rfl (And.intro rfl (And.intro rfl trivial)))))
set_option maxHeartbeats 4000000 in
set_option maxRecDepth 20000 in
theorem c_Mo_width {ρ : Nat → Nat} {h : j_H} {m P G R Q : Nat} {a : Int32} (w : j_MX ρ h m P G R Q) (ha : 0 ≤ a.toInt ∧ a.toInt < (j_it h G 2).toInt) : j_Ct 226 5 113 1 40 [j_r (some m), j_i a] h (fun v h' => j_Mf ρ m h h' ∧ ∃ r, v = some (j_i r)) j_no := by
  refine j_intro km_226 (Nat.le_of_ble_eq_true rfl) ?_
  intro J hJ hF
  have wb := w.b
  refine hJ [] 400 _ _ _ _ _ _ ?_
  conv => whnf
  refine ⟨w.km, rfl, _, _, _, _, _, _, c_Mo_spans w, ⟨Nat.le_of_ble_eq_true rfl, Nat.le_of_ble_eq_true rfl, by (try dsimp only); omega, by (try dsimp only); omega⟩, fun _ _ z => False.elim z, ?_⟩
  rintro v9 H2 ⟨st3, r1, rfl, kr1, nr1⟩
  have zG4 := congrArg Int32.toInt (st3.sz w.lG.1)
  have zR4 := congrArg Int32.toInt (st3.sz w.lR.1)
  have zQ4 := congrArg Int32.toInt (st3.sz w.lQ.1)
  have w4 := w.f st3
  have f4_0 := (j_Mf.rf : j_Mf ρ m h h).tr st3
  have q5 : (Int32.ofInt (-1)).toInt = -1 := by decide
  conv => whnf
  refine ⟨w4.km, rfl, _, _, _, _, _, _, c_Mo_lateOf w4 kr1 (by omega), ⟨Nat.le_of_ble_eq_true rfl, Nat.le_of_ble_eq_true rfl, by (try dsimp only); omega, by (try dsimp only); omega⟩, fun _ _ z => False.elim z, ?_⟩
  rintro v9 h9 ⟨e9, r6, rfl⟩
  obtain rfl : H2 = h9 := e9.symm
  have q7 : (Int32.ofInt (-1)).toInt = -1 := by decide
  conv => whnf
  refine ⟨w4.km, rfl, _, _, _, _, _, _, c_Mo_earlyOf w4 kr1 (by omega), ⟨Nat.le_of_ble_eq_true rfl, Nat.le_of_ble_eq_true rfl, by (try dsimp only); omega, by (try dsimp only); omega⟩, fun _ _ z => False.elim z, ?_⟩
  rintro v9 h9 ⟨e9, r8, rfl⟩
  obtain rfl : H2 = h9 := e9.symm
  conv => whnf
  exact ⟨trivial, ⟨by (try dsimp only); omega, by (try dsimp only); omega⟩, f4_0, _, rfl⟩
set_option maxHeartbeats 4000000 in
set_option maxRecDepth 20000 in
theorem c_Mo_labNow {ρ : Nat → Nat} {h : j_H} {m P G R Q : Nat} {s : Nat} {a : Int32} (w : j_MX ρ h m P G R Q) (ks : j_kd h s = some (.inr 0)) (ns : (j_ln h s : Int) = 2 * (j_it h R 2).toInt) (ha : 0 ≤ a.toInt ∧ a.toInt ≤ 10) : j_Ct 188 17 785 2 16 [j_r (some m), j_r (some s), j_i a] h (fun v h' => j_Mf ρ m h h' ∧ ∃ r, v = some (j_i r)) j_no := by
  refine j_intro km_188 (Nat.le_of_ble_eq_true rfl) ?_
  intro J hJ hF
  have wb := w.b
  refine hJ [] 400 _ _ _ _ _ _ ?_
  conv => whnf
  refine ⟨And.intro (fun c1 => ?_) (And.intro (fun c1 => ?_) (And.intro (fun c1 => ?_) (And.intro (fun c1 => ?_) (And.intro (fun c1 => ?_) (And.intro (fun c1 => ?_) (And.intro (fun c1 => ?_) (And.intro (fun c1 => ?_) (And.intro (fun c1 => ?_) (And.intro (fun c1 => ?_) (trivial)))))))))), fun c1 => ?_⟩
  · have c1 : (a).toInt = 0 := c1
    conv => whnf
    refine ⟨_, rfl, w.km, fun x2 ex2 => ?_⟩
    conv => whnf
    exact ⟨trivial, ⟨by (try dsimp only); omega, by (try dsimp only); omega⟩, (j_Mf.rf : j_Mf ρ m h h), _, rfl⟩
  · have c1 : (a).toInt = 1 := c1
    conv => whnf
    refine ⟨_, rfl, w.km, fun o3 eo => ?_⟩
    obtain rfl : o3 = some G := eo.symm.trans w.eG
    conv => whnf
    refine ⟨w.lG.1, rfl, _, _, _, _, _, _, c_AL_size (h := h) w.lG j_Sc.rf j_sf_ok, ⟨Nat.le_of_ble_eq_true rfl, Nat.le_of_ble_eq_true rfl, by (try dsimp only); omega, by (try dsimp only); omega⟩, fun _ _ z => False.elim z, ?_⟩
    rintro v9 h9 ⟨e9, rfl⟩
    obtain rfl : h = h9 := e9.symm
    conv => whnf
    exact ⟨trivial, ⟨by (try dsimp only); omega, by (try dsimp only); omega⟩, (j_Mf.rf : j_Mf ρ m h h), _, rfl⟩
  · have c1 : (a).toInt = 2 := c1
    conv => whnf
    refine ⟨w.km, rfl, _, _, _, _, _, _, c_Mo_standingRuns w, ⟨Nat.le_of_ble_eq_true rfl, Nat.le_of_ble_eq_true rfl, by (try dsimp only); omega, by (try dsimp only); omega⟩, fun _ _ z => False.elim z, ?_⟩
    rintro v9 H5 ⟨st6, r4, rfl⟩
    have zG7 := congrArg Int32.toInt (st6.sz w.lG.1)
    have zR7 := congrArg Int32.toInt (st6.sz w.lR.1)
    have zQ7 := congrArg Int32.toInt (st6.sz w.lQ.1)
    have n7_s := st6.ln ks
    have k7_s := st6.kd ks
    have w7 := w.f st6
    have f7_0 := (j_Mf.rf : j_Mf ρ m h h).tr st6
    conv => whnf
    exact ⟨trivial, ⟨by (try dsimp only); omega, by (try dsimp only); omega⟩, f7_0, _, rfl⟩
  · have c1 : (a).toInt = 3 := c1
    conv => whnf
    refine ⟨w.km, rfl, _, _, _, _, _, _, c_Mo_standing w, ⟨Nat.le_of_ble_eq_true rfl, Nat.le_of_ble_eq_true rfl, by (try dsimp only); omega, by (try dsimp only); omega⟩, fun _ _ z => False.elim z, ?_⟩
    rintro v9 h9 ⟨e9, r8, rfl⟩
    obtain rfl : h = h9 := e9.symm
    conv => whnf
    exact ⟨trivial, ⟨by (try dsimp only); omega, by (try dsimp only); omega⟩, (j_Mf.rf : j_Mf ρ m h h), _, rfl⟩
  · have c1 : (a).toInt = 4 := c1
    conv => whnf
    refine ⟨_, rfl, w.km, fun x9 ex9 => ?_⟩
    conv => whnf
    exact ⟨trivial, ⟨by (try dsimp only); omega, by (try dsimp only); omega⟩, (j_Mf.rf : j_Mf ρ m h h), _, rfl⟩
  · have c1 : (a).toInt = 5 := c1
    conv => whnf
    refine ⟨w.km, rfl, _, _, _, _, _, _, c_Mo_doubles w ks (by omega), ⟨Nat.le_of_ble_eq_true rfl, Nat.le_of_ble_eq_true rfl, by (try dsimp only); omega, by (try dsimp only); omega⟩, fun _ _ z => False.elim z, ?_⟩
    rintro v9 h9 ⟨e9, r10, rfl⟩
    obtain rfl : h = h9 := e9.symm
    conv => whnf
    exact ⟨trivial, ⟨by (try dsimp only); omega, by (try dsimp only); omega⟩, (j_Mf.rf : j_Mf ρ m h h), _, rfl⟩
  · have c1 : (a).toInt = 6 := c1
    conv => whnf
    refine ⟨w.km, rfl, _, _, _, _, _, _, c_Mo_quarrelling w ks (by omega), ⟨Nat.le_of_ble_eq_true rfl, Nat.le_of_ble_eq_true rfl, by (try dsimp only); omega, by (try dsimp only); omega⟩, fun _ _ z => False.elim z, ?_⟩
    rintro v9 h9 ⟨e9, r11, rfl⟩
    obtain rfl : h = h9 := e9.symm
    conv => whnf
    exact ⟨trivial, ⟨by (try dsimp only); omega, by (try dsimp only); omega⟩, (j_Mf.rf : j_Mf ρ m h h), _, rfl⟩
  · have c1 : (a).toInt = 7 := c1
    conv => whnf
    refine ⟨w.km, rfl, _, _, _, _, _, _, c_Mo_fewestNow w ks (by omega), ⟨Nat.le_of_ble_eq_true rfl, Nat.le_of_ble_eq_true rfl, by (try dsimp only); omega, by (try dsimp only); omega⟩, fun _ _ z => False.elim z, ?_⟩
    rintro v9 H13 ⟨st14, r12, rfl⟩
    have zG15 := congrArg Int32.toInt (st14.sz w.lG.1)
    have zR15 := congrArg Int32.toInt (st14.sz w.lR.1)
    have zQ15 := congrArg Int32.toInt (st14.sz w.lQ.1)
    have n15_s := st14.ln ks
    have k15_s := st14.kd ks
    have w15 := w.f st14
    have f15_0 := (j_Mf.rf : j_Mf ρ m h h).tr st14
    conv => whnf
    refine ⟨rfl, _, _, _, _, _, _, c_Integer_bitCount, ⟨Nat.le_of_ble_eq_true rfl, Nat.le_of_ble_eq_true rfl, by (try dsimp only); omega, by (try dsimp only); omega⟩, fun _ _ z => False.elim z, ?_⟩
    rintro v9 h9 ⟨e9, r16, rfl⟩
    obtain rfl : H13 = h9 := e9.symm
    conv => whnf
    exact ⟨trivial, ⟨by (try dsimp only); omega, by (try dsimp only); omega⟩, f15_0, _, rfl⟩
  · have c1 : (a).toInt = 8 := c1
    conv => whnf
    refine ⟨_, rfl, w.km, fun o17 eo => ?_⟩
    obtain rfl : o17 = some P := eo.symm.trans w.eP
    have n18 := w.nP
    have q19 : (Int32.ofInt (0)).toInt = 0 := by decide
    conv => whnf
    refine ⟨_, _, rfl, w.kP, rfl, j_vp (by omega) (by omega), fun x20 ex20 => ?_⟩
    have hx20 : x20.toInt ≠ 0 := j_nzP w ex20 (by omega) (by omega)
    conv => whnf
    exact ⟨trivial, ⟨by (try dsimp only); omega, by (try dsimp only); omega⟩, (j_Mf.rf : j_Mf ρ m h h), _, rfl⟩
  · have c1 : (a).toInt = 9 := c1
    conv => whnf
    refine ⟨_, rfl, w.km, fun o21 eo => ?_⟩
    obtain rfl : o21 = some P := eo.symm.trans w.eP
    have n22 := w.nP
    have q23 : (Int32.ofInt (1)).toInt = 1 := by decide
    conv => whnf
    refine ⟨_, _, rfl, w.kP, rfl, j_vp (by omega) (by omega), fun x24 ex24 => ?_⟩
    have hx24 : x24.toInt ≠ 0 := j_nzP w ex24 (by omega) (by omega)
    conv => whnf
    exact ⟨trivial, ⟨by (try dsimp only); omega, by (try dsimp only); omega⟩, (j_Mf.rf : j_Mf ρ m h h), _, rfl⟩
  · have c1 : (a).toInt < 0 ∨ 9 < (a).toInt := c1
    conv => whnf
    refine ⟨w.km, rfl, _, _, _, _, _, _, c_Mo_motes w, ⟨Nat.le_of_ble_eq_true rfl, Nat.le_of_ble_eq_true rfl, by (try dsimp only); omega, by (try dsimp only); omega⟩, fun _ _ z => False.elim z, ?_⟩
    rintro v9 H26 ⟨st27, r25, rfl⟩
    have zG28 := congrArg Int32.toInt (st27.sz w.lG.1)
    have zR28 := congrArg Int32.toInt (st27.sz w.lR.1)
    have zQ28 := congrArg Int32.toInt (st27.sz w.lQ.1)
    have n28_s := st27.ln ks
    have k28_s := st27.kd ks
    have w28 := w.f st27
    have f28_0 := (j_Mf.rf : j_Mf ρ m h h).tr st27
    conv => whnf
    exact ⟨trivial, ⟨by (try dsimp only); omega, by (try dsimp only); omega⟩, f28_0, _, rfl⟩
set_option maxHeartbeats 4000000 in
set_option maxRecDepth 20000 in
theorem c_Mo_isSoundNow {ρ : Nat → Nat} {h : j_H} {m P G R Q : Nat} {s : Nat} (w : j_MX ρ h m P G R Q) (ks : j_kd h s = some (.inr 0)) (ns : (j_ln h s : Int) = 2 * (j_it h R 2).toInt) : j_Ct 186 16 763 2 16 [j_r (some m), j_r (some s)] h (fun v h' => j_Mf ρ m h h' ∧ ∃ r, v = some (j_i r) ∧ (r = 0 ∨ r = 1)) j_no := by
  refine j_intro km_186 (Nat.le_of_ble_eq_true rfl) ?_
  intro J hJ hF
  have wb := w.b
  refine hJ [2, 28, 125, 139, 248] 400 _ _ _ _ _ _ ?_
  have L2_2 : ∀ (k : Nat) (v1 : Int32) (H4 : j_H) (cn sn : Nat), j_Mf ρ m h H4 → cn ≤ 0 → sn ≤ 0 → 0 ≤ v1.toInt → (2147483647 - v1.toInt) < (k : Int) → J 2 [some (j_r (some m)), some (j_r (some s)), some (j_i v1), none, none, none] [] H4 cn sn := by
    intro k
    induction k with
    | zero => intro v1 H4 cn sn sbB3 hcn hsn hn hm; exact absurd hm (by have := j_ub v1; omega)
    | succ k ihB3 =>
      intro v1 H4 cn sn sbB3 hcn hsn hn hm
      have uv1 := j_ub v1; have lv1 := j_lb v1
      have zG5 := congrArg Int32.toInt (sbB3.sz w.lG.1)
      have zR5 := congrArg Int32.toInt (sbB3.sz w.lR.1)
      have zQ5 := congrArg Int32.toInt (sbB3.sz w.lQ.1)
      have n5_s := sbB3.ln ks
      have k5_s := sbB3.kd ks
      have w5 := w.f sbB3
      have f5_0 := (j_Mf.rf : j_Mf ρ m h h).tr sbB3
      refine hJ [2, 28, 125, 139, 248] 400 _ _ _ _ _ _ ?_
      conv => whnf
      refine ⟨_, rfl, w5.km, fun o6 eo => ?_⟩
      obtain rfl : o6 = some G := eo.symm.trans w5.eG
      conv => whnf
      refine ⟨w5.lG.1, rfl, _, _, _, _, _, _, c_AL_size (h := H4) w5.lG j_Sc.rf j_sf_ok, ⟨Nat.le_of_ble_eq_true rfl, Nat.le_of_ble_eq_true rfl, by (try dsimp only); omega, by (try dsimp only); omega⟩, fun _ _ z => False.elim z, ?_⟩
      rintro v9 h9 ⟨e9, rfl⟩
      obtain rfl : H4 = h9 := e9.symm
      have u7 := j_ub v1
      conv => whnf
      refine ⟨fun c8 => ?_, fun c8 => ?_⟩
      · have c8 : ((j_it H4 G 2)).toInt ≤ (v1).toInt := c8
        conv => whnf
        refine ⟨w5.km, rfl, _, _, _, _, _, _, c_Mo_fewestNow w5 k5_s (by omega), ⟨Nat.le_of_ble_eq_true rfl, Nat.le_of_ble_eq_true rfl, by (try dsimp only); omega, by (try dsimp only); omega⟩, fun _ _ z => False.elim z, ?_⟩
        rintro v9 H10 ⟨st11, r9, rfl⟩
        have zG12 := congrArg Int32.toInt (st11.sz w5.lG.1)
        have zR12 := congrArg Int32.toInt (st11.sz w5.lR.1)
        have zQ12 := congrArg Int32.toInt (st11.sz w5.lQ.1)
        have n12_s := st11.ln k5_s
        have k12_s := st11.kd k5_s
        have w12 := w5.f st11
        have f12_0 := f5_0.tr st11
        have f12_B3 := sbB3.tr st11
        have L125_14 : ∀ (k : Nat) (v13 : Int32) (H16 : j_H) (cn sn : Nat), j_Mf ρ m H10 H16 → cn ≤ 2 → sn ≤ 16 → 0 ≤ v13.toInt → (2147483647 - v13.toInt) < (k : Int) → J 125 [some (j_r (some m)), some (j_r (some s)), some (j_i r9), some (j_i v13), none, none] [] H16 cn sn := by
          intro k
          induction k with
          | zero => intro v13 H16 cn sn sbB15 hcn hsn hn hm; exact absurd hm (by have := j_ub v13; omega)
          | succ k ihB15 =>
            intro v13 H16 cn sn sbB15 hcn hsn hn hm
            have uv13 := j_ub v13; have lv13 := j_lb v13
            have zG17 := congrArg Int32.toInt (sbB15.sz w12.lG.1)
            have zR17 := congrArg Int32.toInt (sbB15.sz w12.lR.1)
            have zQ17 := congrArg Int32.toInt (sbB15.sz w12.lQ.1)
            have n17_s := sbB15.ln k12_s
            have k17_s := sbB15.kd k12_s
            have w17 := w12.f sbB15
            have f17_0 := f12_0.tr sbB15
            have f17_B3 := f12_B3.tr sbB15
            refine hJ [2, 28, 125, 139, 248] 400 _ _ _ _ _ _ ?_
            conv => whnf
            refine ⟨_, rfl, w17.km, fun o18 eo => ?_⟩
            obtain rfl : o18 = some G := eo.symm.trans w17.eG
            conv => whnf
            refine ⟨w17.lG.1, rfl, _, _, _, _, _, _, c_AL_size (h := H16) w17.lG j_Sc.rf j_sf_ok, ⟨Nat.le_of_ble_eq_true rfl, Nat.le_of_ble_eq_true rfl, by (try dsimp only); omega, by (try dsimp only); omega⟩, fun _ _ z => False.elim z, ?_⟩
            rintro v9 h9 ⟨e9, rfl⟩
            obtain rfl : H16 = h9 := e9.symm
            have u19 := j_ub v13
            conv => whnf
            refine ⟨fun c20 => ?_, fun c20 => ?_⟩
            · have c20 : ((j_it H16 G 2)).toInt ≤ (v13).toInt := c20
              have L248_22 : ∀ (k : Nat) (v21 : Int32) (H24 : j_H) (cn sn : Nat), j_Mf ρ m H16 H24 → cn ≤ 2 → sn ≤ 16 → 0 ≤ v21.toInt → (2147483647 - v21.toInt) < (k : Int) → J 248 [some (j_r (some m)), some (j_r (some s)), some (j_i r9), some (j_i v21), none, none] [] H24 cn sn := by
                intro k
                induction k with
                | zero => intro v21 H24 cn sn sbB23 hcn hsn hn hm; exact absurd hm (by have := j_ub v21; omega)
                | succ k ihB23 =>
                  intro v21 H24 cn sn sbB23 hcn hsn hn hm
                  have uv21 := j_ub v21; have lv21 := j_lb v21
                  have zG25 := congrArg Int32.toInt (sbB23.sz w17.lG.1)
                  have zR25 := congrArg Int32.toInt (sbB23.sz w17.lR.1)
                  have zQ25 := congrArg Int32.toInt (sbB23.sz w17.lQ.1)
                  have n25_s := sbB23.ln k17_s
                  have k25_s := sbB23.kd k17_s
                  have w25 := w17.f sbB23
                  have f25_0 := f17_0.tr sbB23
                  have f25_B3 := f17_B3.tr sbB23
                  have f25_B15 := sbB15.tr sbB23
                  refine hJ [2, 28, 125, 139, 248] 400 _ _ _ _ _ _ ?_
                  conv => whnf
                  refine ⟨_, rfl, w25.km, fun o26 eo => ?_⟩
                  obtain rfl : o26 = some Q := eo.symm.trans w25.eQ
                  conv => whnf
                  refine ⟨w25.lQ.1, rfl, _, _, _, _, _, _, c_AL_size (h := H24) w25.lQ j_Sc.rf j_sf_ok, ⟨Nat.le_of_ble_eq_true rfl, Nat.le_of_ble_eq_true rfl, by (try dsimp only); omega, by (try dsimp only); omega⟩, fun _ _ z => False.elim z, ?_⟩
                  rintro v9 h9 ⟨e9, rfl⟩
                  obtain rfl : H24 = h9 := e9.symm
                  have u27 := j_ub v21
                  conv => whnf
                  refine ⟨fun c28 => ?_, fun c28 => ?_⟩
                  · have c28 : ((j_it H24 Q 2)).toInt ≤ (v21).toInt := c28
                    conv => whnf
                    exact ⟨Or.inr rfl, ⟨by (try dsimp only); omega, by (try dsimp only); omega⟩, f25_0, _, rfl, Or.inr rfl⟩
                  · have c28 : ¬ ((j_it H24 Q 2)).toInt ≤ (v21).toInt := c28
                    conv => whnf
                    refine ⟨_, rfl, w25.km, fun o29 eo => ?_⟩
                    obtain rfl : o29 = some Q := eo.symm.trans w25.eQ
                    conv => whnf
                    refine ⟨w25.lQ.1, rfl, _, _, _, _, _, _, c_AL_get (h := H24) w25.lQ j_Sc.rf j_sf_ok (by omega) (by omega), ⟨Nat.le_of_ble_eq_true rfl, Nat.le_of_ble_eq_true rfl, by (try dsimp only); omega, by (try dsimp only); omega⟩, fun _ _ z => False.elim z, ?_⟩
                    rintro v9 h9 ⟨e9, g30, rfl, kg30, xg30⟩
                    obtain rfl : H24 = h9 := e9.symm
                    have feg30 := w25.aQ.get (by omega) (by omega) xg30
                    have ng30 : j_ln H24 g30 = 3 := feg30.2.1
                    conv => whnf
                    refine ⟨Or.inr ⟨_, rfl, kg30⟩, ?_⟩
                    conv => whnf
                    refine ⟨w25.km, rfl, _, _, _, _, _, _, c_Mo_stands w25 ⟨by omega, by omega⟩, ⟨Nat.le_of_ble_eq_true rfl, Nat.le_of_ble_eq_true rfl, by (try dsimp only); omega, by (try dsimp only); omega⟩, fun _ _ z => False.elim z, ?_⟩
                    rintro v9 h9 ⟨e9, r31, rfl, zr31⟩
                    obtain rfl : H24 = h9 := e9.symm
                    conv => whnf
                    refine ⟨fun c32 => ?_, fun c32 => ?_⟩
                    · have c32 : (r31).toInt = 0 := c32
                      have t33 : (v21 + Int32.ofInt 1).toInt = v21.toInt + 1 := j_inc1 (by omega)
                      exact j_use hF (ihB23 _ _ _ _ sbB23 (by (try dsimp only); omega) (by (try dsimp only); omega) (by omega) (by omega)) (And.intro rfl (And.intro rfl (And.intro rfl (And.intro rfl trivial))))
                    · have c32 : ¬ (r31).toInt = 0 := c32
                      conv => whnf
                      refine ⟨_, rfl, w25.km, fun o34 eo => ?_⟩
                      obtain rfl : o34 = some R := eo.symm.trans w25.eR
                      have q35 : (Int32.ofInt (0)).toInt = 0 := by decide
                      conv => whnf
                      refine ⟨_, _, rfl, kg30, rfl, j_vp (by omega) (by omega), fun x36 ex36 => ?_⟩
                      have hx36 : 0 ≤ x36.toInt ∧ x36.toInt < (j_it H24 R 2).toInt := by rw [← ex36]; exact ⟨feg30.2.2.1, feg30.2.2.2.1⟩
                      conv => whnf
                      refine ⟨w25.lR.1, rfl, _, _, _, _, _, _, c_AL_get (h := H24) w25.lR j_Sc.rf j_sf_ok (by omega) (by omega), ⟨Nat.le_of_ble_eq_true rfl, Nat.le_of_ble_eq_true rfl, by (try dsimp only); omega, by (try dsimp only); omega⟩, fun _ _ z => False.elim z, ?_⟩
                      rintro v9 h9 ⟨e9, g37, rfl, kg37, xg37⟩
                      obtain rfl : H24 = h9 := e9.symm
                      have feg37 := w25.aR.get (by omega) (by omega) xg37
                      conv => whnf
                      refine ⟨Or.inr ⟨_, rfl, kg37⟩, ?_⟩
                      conv => whnf
                      refine ⟨_, rfl, kg37, fun x38 ex38 => ?_⟩
                      conv => whnf
                      refine ⟨fun c39 => ?_, fun c39 => ?_⟩
                      · have c39 : ¬ (x38).toInt = 0 := c39
                        conv => whnf
                        exact ⟨Or.inl rfl, ⟨by (try dsimp only); omega, by (try dsimp only); omega⟩, f25_0, _, rfl, Or.inl rfl⟩
                      · have c39 : ¬ ¬ (x38).toInt = 0 := c39
                        have q40 : (Int32.ofInt (2)).toInt = 2 := by decide
                        conv => whnf
                        refine ⟨_, _, rfl, kg30, rfl, j_vp (by omega) (by omega), fun x41 ex41 => ?_⟩
                        have hx41 : x41.toInt = -1 ∨ (0 ≤ x41.toInt ∧ x41.toInt < (v21).toInt) := by have y := feg30.2.2.2.2; rw [j_clamp (by omega)] at y; rw [← ex41]; exact y
                        have q42 : (Int32.ofInt (-1)).toInt = -1 := by decide
                        have u43 := j_ub x41
                        conv => whnf
                        refine ⟨fun c44 => ?_, fun c44 => ?_⟩
                        · have c44 : (x41).toInt = (Int32.ofInt (-1)).toInt := c44
                          have t45 : (v21 + Int32.ofInt 1).toInt = v21.toInt + 1 := j_inc1 (by omega)
                          exact j_use hF (ihB23 _ _ _ _ sbB23 (by (try dsimp only); omega) (by (try dsimp only); omega) (by omega) (by omega)) (And.intro rfl (And.intro rfl (And.intro rfl (And.intro rfl trivial))))
                        · have c44 : ¬ (x41).toInt = (Int32.ofInt (-1)).toInt := c44
                          have q46 : (Int32.ofInt (2)).toInt = 2 := by decide
                          conv => whnf
                          refine ⟨_, _, rfl, kg30, rfl, j_vp (by omega) (by omega), fun x47 ex47 => ?_⟩
                          have hx47 : x47.toInt = -1 ∨ (0 ≤ x47.toInt ∧ x47.toInt < (v21).toInt) := by have y := feg30.2.2.2.2; rw [j_clamp (by omega)] at y; rw [← ex47]; exact y
                          have s48 := congrArg Int32.toInt (ex47.symm.trans ex41)
                          conv => whnf
                          refine ⟨w25.km, rfl, _, _, _, _, _, _, c_Mo_stands w25 ⟨by omega, by omega⟩, ⟨Nat.le_of_ble_eq_true rfl, Nat.le_of_ble_eq_true rfl, by (try dsimp only); omega, by (try dsimp only); omega⟩, fun _ _ z => False.elim z, ?_⟩
                          rintro v9 h9 ⟨e9, r49, rfl, zr49⟩
                          obtain rfl : H24 = h9 := e9.symm
                          conv => whnf
                          refine ⟨fun c50 => ?_, fun c50 => ?_⟩
                          · have c50 : ¬ (r49).toInt = 0 := c50
                            have t51 : (v21 + Int32.ofInt 1).toInt = v21.toInt + 1 := j_inc1 (by omega)
                            exact j_use hF (ihB23 _ _ _ _ sbB23 (by (try dsimp only); omega) (by (try dsimp only); omega) (by omega) (by omega)) (And.intro rfl (And.intro rfl (And.intro rfl (And.intro rfl trivial))))
                          · have c50 : ¬ ¬ (r49).toInt = 0 := c50
                            conv => whnf
                            exact ⟨Or.inl rfl, ⟨by (try dsimp only); omega, by (try dsimp only); omega⟩, f25_0, _, rfl, Or.inl rfl⟩
              have q52 : (Int32.ofInt (0)).toInt = 0 := by decide
              exact j_use hF (L248_22 4294967296 _ _ _ _ j_Mf.rf (by (try dsimp only); omega) (by (try dsimp only); omega) (by omega) (by omega)) (And.intro rfl (And.intro rfl (And.intro rfl (And.intro rfl trivial))))
            · have c20 : ¬ ((j_it H16 G 2)).toInt ≤ (v13).toInt := c20
              have L139_54 : ∀ (k : Nat) (v53 : Int32) (H56 : j_H) (cn sn : Nat), j_Mf ρ m H16 H56 → cn ≤ 2 → sn ≤ 16 → 0 ≤ v53.toInt → (2147483647 - v53.toInt) < (k : Int) → J 139 [some (j_r (some m)), some (j_r (some s)), some (j_i r9), some (j_i v13), some (j_i v53), none] [] H56 cn sn := by
                intro k
                induction k with
                | zero => intro v53 H56 cn sn sbB55 hcn hsn hn hm; exact absurd hm (by have := j_ub v53; omega)
                | succ k ihB55 =>
                  intro v53 H56 cn sn sbB55 hcn hsn hn hm
                  have uv53 := j_ub v53; have lv53 := j_lb v53
                  have zG57 := congrArg Int32.toInt (sbB55.sz w17.lG.1)
                  have zR57 := congrArg Int32.toInt (sbB55.sz w17.lR.1)
                  have zQ57 := congrArg Int32.toInt (sbB55.sz w17.lQ.1)
                  have n57_s := sbB55.ln k17_s
                  have k57_s := sbB55.kd k17_s
                  have w57 := w17.f sbB55
                  have f57_0 := f17_0.tr sbB55
                  have f57_B3 := f17_B3.tr sbB55
                  have f57_B15 := sbB15.tr sbB55
                  refine hJ [2, 28, 125, 139, 248] 400 _ _ _ _ _ _ ?_
                  conv => whnf
                  refine ⟨_, rfl, w57.km, fun o58 eo => ?_⟩
                  obtain rfl : o58 = some G := eo.symm.trans w57.eG
                  conv => whnf
                  refine ⟨w57.lG.1, rfl, _, _, _, _, _, _, c_AL_size (h := H56) w57.lG j_Sc.rf j_sf_ok, ⟨Nat.le_of_ble_eq_true rfl, Nat.le_of_ble_eq_true rfl, by (try dsimp only); omega, by (try dsimp only); omega⟩, fun _ _ z => False.elim z, ?_⟩
                  rintro v9 h9 ⟨e9, rfl⟩
                  obtain rfl : H56 = h9 := e9.symm
                  have u59 := j_ub v53
                  conv => whnf
                  refine ⟨fun c60 => ?_, fun c60 => ?_⟩
                  · have c60 : ((j_it H56 G 2)).toInt ≤ (v53).toInt := c60
                    have t61 : (v13 + Int32.ofInt 1).toInt = v13.toInt + 1 := j_inc1 (by omega)
                    exact j_use hF (ihB15 _ _ _ _ f57_B15 (by (try dsimp only); omega) (by (try dsimp only); omega) (by omega) (by omega)) (And.intro rfl (And.intro rfl (And.intro rfl (And.intro rfl trivial))))
                  · have c60 : ¬ ((j_it H56 G 2)).toInt ≤ (v53).toInt := c60
                    have u62 := j_ub v53
                    have u63 := j_ub v13
                    conv => whnf
                    refine ⟨fun c64 => ?_, fun c64 => ?_⟩
                    · have c64 : (v13).toInt = (v53).toInt := c64
                      conv => whnf
                      refine ⟨fun c65 => ?_, fun c65 => ?_⟩
                      · have c65 : ¬ ((((r9 >>> (v13 &&& 31)) ||| (r9 >>> (v53 &&& 31))) &&& Int32.ofInt (1))).toInt = 0 := c65
                        have t66 : (v53 + Int32.ofInt 1).toInt = v53.toInt + 1 := j_inc1 (by omega)
                        exact j_use hF (ihB55 _ _ _ _ sbB55 (by (try dsimp only); omega) (by (try dsimp only); omega) (by omega) (by omega)) (And.intro rfl (And.intro rfl (And.intro rfl (And.intro rfl (And.intro rfl trivial)))))
                      · have c65 : ¬ ¬ ((((r9 >>> (v13 &&& 31)) ||| (r9 >>> (v53 &&& 31))) &&& Int32.ofInt (1))).toInt = 0 := c65
                        conv => whnf
                        refine ⟨fun c => absurd (show (Int32.ofInt (1)).toInt = 0 from c) (by decide), fun _ => ?_⟩
                        have q67 : (Int32.ofInt (-1)).toInt = -1 := by decide
                        conv => whnf
                        refine ⟨w57.km, rfl, _, _, _, _, _, _, c_Mo_earlyOf w57 k57_s (by omega), ⟨Nat.le_of_ble_eq_true rfl, Nat.le_of_ble_eq_true rfl, by (try dsimp only); omega, by (try dsimp only); omega⟩, fun _ _ z => False.elim z, ?_⟩
                        rintro v9 h9 ⟨e9, r68, rfl⟩
                        obtain rfl : H56 = h9 := e9.symm
                        have q69 : (Int32.ofInt (-1)).toInt = -1 := by decide
                        conv => whnf
                        refine ⟨w57.km, rfl, _, _, _, _, _, _, c_Mo_lateOf w57 k57_s (by omega), ⟨Nat.le_of_ble_eq_true rfl, Nat.le_of_ble_eq_true rfl, by (try dsimp only); omega, by (try dsimp only); omega⟩, fun _ _ z => False.elim z, ?_⟩
                        rintro v9 h9 ⟨e9, r70, rfl⟩
                        obtain rfl : H56 = h9 := e9.symm
                        have u71 := j_ub r70
                        have u72 := j_ub r68
                        conv => whnf
                        refine ⟨fun c73 => ?_, fun c73 => ?_⟩
                        · have c73 : (r68).toInt ≤ (r70).toInt := c73
                          have t74 : (v53 + Int32.ofInt 1).toInt = v53.toInt + 1 := j_inc1 (by omega)
                          exact j_use hF (ihB55 _ _ _ _ sbB55 (by (try dsimp only); omega) (by (try dsimp only); omega) (by omega) (by omega)) (And.intro rfl (And.intro rfl (And.intro rfl (And.intro rfl (And.intro rfl trivial)))))
                        · have c73 : ¬ (r68).toInt ≤ (r70).toInt := c73
                          conv => whnf
                          exact ⟨Or.inl rfl, ⟨by (try dsimp only); omega, by (try dsimp only); omega⟩, f57_0, _, rfl, Or.inl rfl⟩
                    · have c64 : ¬ (v13).toInt = (v53).toInt := c64
                      conv => whnf
                      refine ⟨_, rfl, w57.km, fun o75 eo => ?_⟩
                      obtain rfl : o75 = some G := eo.symm.trans w57.eG
                      conv => whnf
                      refine ⟨w57.lG.1, rfl, _, _, _, _, _, _, c_AL_get (h := H56) w57.lG j_Sc.rf j_sf_ok (by omega) (by omega), ⟨Nat.le_of_ble_eq_true rfl, Nat.le_of_ble_eq_true rfl, by (try dsimp only); omega, by (try dsimp only); omega⟩, fun _ _ z => False.elim z, ?_⟩
                      rintro v9 h9 ⟨e9, g76, rfl, kg76, xg76⟩
                      obtain rfl : H56 = h9 := e9.symm
                      have feg76 := w57.aG.get (by omega) (by omega) xg76
                      conv => whnf
                      refine ⟨Or.inr ⟨_, rfl, kg76⟩, ?_⟩
                      conv => whnf
                      refine ⟨_, rfl, kg76, fun x77 ex77 => ?_⟩
                      conv => whnf
                      refine ⟨_, rfl, w57.km, fun o78 eo => ?_⟩
                      obtain rfl : o78 = some G := eo.symm.trans w57.eG
                      conv => whnf
                      refine ⟨w57.lG.1, rfl, _, _, _, _, _, _, c_AL_get (h := H56) w57.lG j_Sc.rf j_sf_ok (by omega) (by omega), ⟨Nat.le_of_ble_eq_true rfl, Nat.le_of_ble_eq_true rfl, by (try dsimp only); omega, by (try dsimp only); omega⟩, fun _ _ z => False.elim z, ?_⟩
                      rintro v9 h9 ⟨e9, g79, rfl, kg79, xg79⟩
                      obtain rfl : H56 = h9 := e9.symm
                      have feg79 := w57.aG.get (by omega) (by omega) xg79
                      conv => whnf
                      refine ⟨Or.inr ⟨_, rfl, kg79⟩, ?_⟩
                      conv => whnf
                      refine ⟨_, rfl, kg79, fun x80 ex80 => ?_⟩
                      have u81 := j_ub x80
                      have u82 := j_ub x77
                      conv => whnf
                      refine ⟨fun c83 => ?_, fun c83 => ?_⟩
                      · have c83 : (x77).toInt ≤ (x80).toInt := c83
                        conv => whnf
                        refine ⟨fun c84 => ?_, fun c84 => ?_⟩
                        · have c84 : ¬ ((((r9 >>> (v13 &&& 31)) ||| (r9 >>> (v53 &&& 31))) &&& Int32.ofInt (1))).toInt = 0 := c84
                          have t85 : (v53 + Int32.ofInt 1).toInt = v53.toInt + 1 := j_inc1 (by omega)
                          exact j_use hF (ihB55 _ _ _ _ sbB55 (by (try dsimp only); omega) (by (try dsimp only); omega) (by omega) (by omega)) (And.intro rfl (And.intro rfl (And.intro rfl (And.intro rfl (And.intro rfl trivial)))))
                        · have c84 : ¬ ¬ ((((r9 >>> (v13 &&& 31)) ||| (r9 >>> (v53 &&& 31))) &&& Int32.ofInt (1))).toInt = 0 := c84
                          conv => whnf
                          refine ⟨fun _ => ?_, fun c => absurd (show (Int32.ofInt (0)).toInt = 0 by decide) (show ¬ (Int32.ofInt (0)).toInt = 0 from c)⟩
                          have t86 : (v53 + Int32.ofInt 1).toInt = v53.toInt + 1 := j_inc1 (by omega)
                          exact j_use hF (ihB55 _ _ _ _ sbB55 (by (try dsimp only); omega) (by (try dsimp only); omega) (by omega) (by omega)) (And.intro rfl (And.intro rfl (And.intro rfl (And.intro rfl (And.intro rfl trivial)))))
                      · have c83 : ¬ (x77).toInt ≤ (x80).toInt := c83
                        conv => whnf
                        refine ⟨fun c87 => ?_, fun c87 => ?_⟩
                        · have c87 : ¬ ((((r9 >>> (v13 &&& 31)) ||| (r9 >>> (v53 &&& 31))) &&& Int32.ofInt (1))).toInt = 0 := c87
                          have t88 : (v53 + Int32.ofInt 1).toInt = v53.toInt + 1 := j_inc1 (by omega)
                          exact j_use hF (ihB55 _ _ _ _ sbB55 (by (try dsimp only); omega) (by (try dsimp only); omega) (by omega) (by omega)) (And.intro rfl (And.intro rfl (And.intro rfl (And.intro rfl (And.intro rfl trivial)))))
                        · have c87 : ¬ ¬ ((((r9 >>> (v13 &&& 31)) ||| (r9 >>> (v53 &&& 31))) &&& Int32.ofInt (1))).toInt = 0 := c87
                          conv => whnf
                          refine ⟨fun c => absurd (show (Int32.ofInt (1)).toInt = 0 from c) (by decide), fun _ => ?_⟩
                          have q89 : (Int32.ofInt (-1)).toInt = -1 := by decide
                          conv => whnf
                          refine ⟨w57.km, rfl, _, _, _, _, _, _, c_Mo_earlyOf w57 k57_s (by omega), ⟨Nat.le_of_ble_eq_true rfl, Nat.le_of_ble_eq_true rfl, by (try dsimp only); omega, by (try dsimp only); omega⟩, fun _ _ z => False.elim z, ?_⟩
                          rintro v9 h9 ⟨e9, r90, rfl⟩
                          obtain rfl : H56 = h9 := e9.symm
                          have q91 : (Int32.ofInt (-1)).toInt = -1 := by decide
                          conv => whnf
                          refine ⟨w57.km, rfl, _, _, _, _, _, _, c_Mo_lateOf w57 k57_s (by omega), ⟨Nat.le_of_ble_eq_true rfl, Nat.le_of_ble_eq_true rfl, by (try dsimp only); omega, by (try dsimp only); omega⟩, fun _ _ z => False.elim z, ?_⟩
                          rintro v9 h9 ⟨e9, r92, rfl⟩
                          obtain rfl : H56 = h9 := e9.symm
                          have u93 := j_ub r92
                          have u94 := j_ub r90
                          conv => whnf
                          refine ⟨fun c95 => ?_, fun c95 => ?_⟩
                          · have c95 : (r90).toInt ≤ (r92).toInt := c95
                            have t96 : (v53 + Int32.ofInt 1).toInt = v53.toInt + 1 := j_inc1 (by omega)
                            exact j_use hF (ihB55 _ _ _ _ sbB55 (by (try dsimp only); omega) (by (try dsimp only); omega) (by omega) (by omega)) (And.intro rfl (And.intro rfl (And.intro rfl (And.intro rfl (And.intro rfl trivial)))))
                          · have c95 : ¬ (r90).toInt ≤ (r92).toInt := c95
                            conv => whnf
                            exact ⟨Or.inl rfl, ⟨by (try dsimp only); omega, by (try dsimp only); omega⟩, f57_0, _, rfl, Or.inl rfl⟩
              have q97 : (Int32.ofInt (0)).toInt = 0 := by decide
              exact j_use hF (L139_54 4294967296 _ _ _ _ j_Mf.rf (by (try dsimp only); omega) (by (try dsimp only); omega) (by omega) (by omega)) (And.intro rfl (And.intro rfl (And.intro rfl (And.intro rfl (And.intro rfl trivial)))))
        have q98 : (Int32.ofInt (0)).toInt = 0 := by decide
        exact j_use hF (L125_14 4294967296 _ _ _ _ j_Mf.rf (by (try dsimp only); omega) (by (try dsimp only); omega) (by omega) (by omega)) (And.intro rfl (And.intro rfl (And.intro rfl (And.intro rfl trivial))))
      · have c8 : ¬ ((j_it H4 G 2)).toInt ≤ (v1).toInt := c8
        conv => whnf
        refine ⟨_, rfl, w5.km, fun o99 eo => ?_⟩
        obtain rfl : o99 = some G := eo.symm.trans w5.eG
        conv => whnf
        refine ⟨w5.lG.1, rfl, _, _, _, _, _, _, c_AL_get (h := H4) w5.lG j_Sc.rf j_sf_ok (by omega) (by omega), ⟨Nat.le_of_ble_eq_true rfl, Nat.le_of_ble_eq_true rfl, by (try dsimp only); omega, by (try dsimp only); omega⟩, fun _ _ z => False.elim z, ?_⟩
        rintro v9 h9 ⟨e9, g100, rfl, kg100, xg100⟩
        obtain rfl : H4 = h9 := e9.symm
        have feg100 := w5.aG.get (by omega) (by omega) xg100
        conv => whnf
        refine ⟨Or.inr ⟨_, rfl, kg100⟩, ?_⟩
        have L28_102 : ∀ (k : Nat) (v101 : Int32) (H104 : j_H) (cn sn : Nat), j_Mf ρ m H4 H104 → cn ≤ 0 → sn ≤ 0 → 0 ≤ v101.toInt → (2147483647 - v101.toInt) < (k : Int) → J 28 [some (j_r (some m)), some (j_r (some s)), some (j_i v1), some (j_r (some g100)), some (j_i v101), none] [] H104 cn sn := by
          intro k
          induction k with
          | zero => intro v101 H104 cn sn sbB103 hcn hsn hn hm; exact absurd hm (by have := j_ub v101; omega)
          | succ k ihB103 =>
            intro v101 H104 cn sn sbB103 hcn hsn hn hm
            have uv101 := j_ub v101; have lv101 := j_lb v101
            have zG105 := congrArg Int32.toInt (sbB103.sz w5.lG.1)
            have zR105 := congrArg Int32.toInt (sbB103.sz w5.lR.1)
            have zQ105 := congrArg Int32.toInt (sbB103.sz w5.lQ.1)
            have n105_s := sbB103.ln k5_s
            have k105_s := sbB103.kd k5_s
            have fe105_g100 := sbB103.gA kg100 feg100
            have k105_g100 := sbB103.kd kg100
            have w105 := w5.f sbB103
            have f105_0 := f5_0.tr sbB103
            have f105_B3 := sbB3.tr sbB103
            refine hJ [2, 28, 125, 139, 248] 400 _ _ _ _ _ _ ?_
            have q106 : (Int32.ofInt (2)).toInt = 2 := by decide
            have u107 := j_ub v101
            conv => whnf
            refine ⟨fun c108 => ?_, fun c108 => ?_⟩
            · have c108 : (Int32.ofInt (2)).toInt ≤ (v101).toInt := c108
              have q109 : (Int32.ofInt (0)).toInt = 0 := by decide
              conv => whnf
              refine ⟨w105.km, rfl, _, _, _, _, _, _, c_Mo_narrowedNow w105 k105_s (by omega) ⟨by omega, by omega⟩, ⟨Nat.le_of_ble_eq_true rfl, Nat.le_of_ble_eq_true rfl, by (try dsimp only); omega, by (try dsimp only); omega⟩, fun _ _ z => False.elim z, ?_⟩
              rintro v9 h9 ⟨e9, r110, rfl⟩
              obtain rfl : H104 = h9 := e9.symm
              have q111 : (Int32.ofInt (-1)).toInt = -1 := by decide
              conv => whnf
              refine ⟨w105.km, rfl, _, _, _, _, _, _, c_Mo_earlyOf w105 k105_s (by omega), ⟨Nat.le_of_ble_eq_true rfl, Nat.le_of_ble_eq_true rfl, by (try dsimp only); omega, by (try dsimp only); omega⟩, fun _ _ z => False.elim z, ?_⟩
              rintro v9 h9 ⟨e9, r112, rfl⟩
              obtain rfl : H104 = h9 := e9.symm
              have u113 := j_ub r112
              have u114 := j_ub r110
              conv => whnf
              refine ⟨fun c115 => ?_, fun c115 => ?_⟩
              · have c115 : (r110).toInt < (r112).toInt := c115
                conv => whnf
                exact ⟨Or.inl rfl, ⟨by (try dsimp only); omega, by (try dsimp only); omega⟩, f105_0, _, rfl, Or.inl rfl⟩
              · have c115 : ¬ (r110).toInt < (r112).toInt := c115
                have q116 : (Int32.ofInt (1)).toInt = 1 := by decide
                conv => whnf
                refine ⟨w105.km, rfl, _, _, _, _, _, _, c_Mo_narrowedNow w105 k105_s (by omega) ⟨by omega, by omega⟩, ⟨Nat.le_of_ble_eq_true rfl, Nat.le_of_ble_eq_true rfl, by (try dsimp only); omega, by (try dsimp only); omega⟩, fun _ _ z => False.elim z, ?_⟩
                rintro v9 h9 ⟨e9, r117, rfl⟩
                obtain rfl : H104 = h9 := e9.symm
                have q118 : (Int32.ofInt (-1)).toInt = -1 := by decide
                conv => whnf
                refine ⟨w105.km, rfl, _, _, _, _, _, _, c_Mo_lateOf w105 k105_s (by omega), ⟨Nat.le_of_ble_eq_true rfl, Nat.le_of_ble_eq_true rfl, by (try dsimp only); omega, by (try dsimp only); omega⟩, fun _ _ z => False.elim z, ?_⟩
                rintro v9 h9 ⟨e9, r119, rfl⟩
                obtain rfl : H104 = h9 := e9.symm
                have u120 := j_ub r119
                have u121 := j_ub r117
                conv => whnf
                refine ⟨fun c122 => ?_, fun c122 => ?_⟩
                · have c122 : (r117).toInt ≤ (r119).toInt := c122
                  have t123 : (v1 + Int32.ofInt 1).toInt = v1.toInt + 1 := j_inc1 (by omega)
                  exact j_use hF (ihB3 _ _ _ _ f105_B3 (by (try dsimp only); omega) (by (try dsimp only); omega) (by omega) (by omega)) (And.intro rfl (And.intro rfl (And.intro rfl trivial)))
                · have c122 : ¬ (r117).toInt ≤ (r119).toInt := c122
                  conv => whnf
                  exact ⟨Or.inl rfl, ⟨by (try dsimp only); omega, by (try dsimp only); omega⟩, f105_0, _, rfl, Or.inl rfl⟩
            · have c108 : ¬ (Int32.ofInt (2)).toInt ≤ (v101).toInt := c108
              conv => whnf
              refine ⟨_, rfl, k105_g100, fun o124 eo => ?_⟩
              obtain ⟨b125, eb125, kb125, nb125, rb125⟩ := fe105_g100 0 (by decide)
              obtain rfl : o124 = some b125 := eo.symm.trans eb125
              conv => whnf
              refine ⟨_, _, rfl, kb125, rfl, j_vp (by omega) (by omega), fun x126 ex126 => ?_⟩
              conv => whnf
              refine ⟨_, rfl, k105_g100, fun o127 eo => ?_⟩
              obtain ⟨b128, eb128, kb128, nb128, rb128⟩ := fe105_g100 1 (by decide)
              obtain rfl : o127 = some b128 := eo.symm.trans eb128
              conv => whnf
              refine ⟨_, _, rfl, kb128, rfl, j_vp (by omega) (by omega), fun x129 ex129 => ?_⟩
              conv => whnf
              refine ⟨_, rfl, k105_g100, fun o130 eo => ?_⟩
              obtain ⟨b131, eb131, kb131, nb131, rb131⟩ := fe105_g100 2 (by decide)
              obtain rfl : o130 = some b131 := eo.symm.trans eb131
              conv => whnf
              refine ⟨_, _, rfl, kb131, rfl, j_vp (by omega) (by omega), fun x132 ex132 => ?_⟩
              conv => whnf
              refine ⟨_, rfl, k105_g100, fun o133 eo => ?_⟩
              obtain ⟨b134, eb134, kb134, nb134, rb134⟩ := fe105_g100 3 (by decide)
              obtain rfl : o133 = some b134 := eo.symm.trans eb134
              conv => whnf
              refine ⟨_, _, rfl, kb134, rfl, j_vp (by omega) (by omega), fun x135 ex135 => ?_⟩
              have u136 := j_ub x135
              conv => whnf
              refine ⟨fun c137 => ?_, fun c137 => ?_⟩
              · have c137 : (((x126 + x129) + x132)).toInt = (x135).toInt := c137
                have t138 : (v101 + Int32.ofInt 1).toInt = v101.toInt + 1 := j_inc1 (by omega)
                exact j_use hF (ihB103 _ _ _ _ sbB103 (by (try dsimp only); omega) (by (try dsimp only); omega) (by omega) (by omega)) (And.intro rfl (And.intro rfl (And.intro rfl (And.intro rfl (And.intro rfl trivial)))))
              · have c137 : ¬ (((x126 + x129) + x132)).toInt = (x135).toInt := c137
                conv => whnf
                exact ⟨Or.inl rfl, ⟨by (try dsimp only); omega, by (try dsimp only); omega⟩, f105_0, _, rfl, Or.inl rfl⟩
        have q139 : (Int32.ofInt (0)).toInt = 0 := by decide
        exact j_use hF (L28_102 4294967296 _ _ _ _ j_Mf.rf (by (try dsimp only); omega) (by (try dsimp only); omega) (by omega) (by omega)) (And.intro rfl (And.intro rfl (And.intro rfl (And.intro rfl (And.intro rfl trivial)))))
  have q140 : (Int32.ofInt (0)).toInt = 0 := by decide
  exact j_use hF (L2_2 4294967296 _ _ _ _ j_Mf.rf (by (try dsimp only); omega) (by (try dsimp only); omega) (by omega) (by omega)) (And.intro rfl (And.intro rfl (And.intro rfl trivial)))
set_option maxHeartbeats 4000000 in
set_option maxRecDepth 20000 in
theorem c_Mo_age {ρ : Nat → Nat} {h : j_H} {m P G R Q : Nat} {a : Int32} {b : Int32} {c : Int32} {d : Int32} (w : j_MX ρ h m P G R Q)  : j_Ct 167 1 24 0 0 [j_r (some m), j_i a, j_i b, j_i c, j_i d] h (fun v h' => j_Mf ρ m h h' ∧ ∃ r, v = some (j_i r)) j_no := by
  refine j_intro km_167 (Nat.le_of_ble_eq_true rfl) ?_
  intro J hJ hF
  have wb := w.b
  refine hJ [] 400 _ _ _ _ _ _ ?_
  conv => whnf
  refine ⟨_, rfl, w.km, ?_⟩
  show j_go _ _ _ _ _ _ _ _ _ _ (j_up h m 0 (j_i (Int32.ofInt (0)))) _ _
  have st1 : j_Mf ρ m h (j_up h m 0 (j_i (Int32.ofInt (0)))) := j_Mf.fi w.km (by decide)
  generalize j_up h m 0 (j_i (Int32.ofInt (0))) = H1 at st1 ⊢
  have zG1 := congrArg Int32.toInt (st1.sz w.lG.1)
  have zR1 := congrArg Int32.toInt (st1.sz w.lR.1)
  have zQ1 := congrArg Int32.toInt (st1.sz w.lQ.1)
  have w1 := w.f st1
  have f1_0 := (j_Mf.rf : j_Mf ρ m h h).tr st1
  have q2 : (Int32.ofInt (0)).toInt = 0 := by decide
  have q3 : (Int32.ofInt (1)).toInt = 1 := by decide
  conv => whnf
  refine ⟨rfl, _, _, _, _, _, _, c_Mo_is, ⟨Nat.le_of_ble_eq_true rfl, Nat.le_of_ble_eq_true rfl, by (try dsimp only); omega, by (try dsimp only); omega⟩, fun _ _ z => False.elim z, ?_⟩
  rintro v9 h9 ⟨e9, r4, rfl, zr4, mr4⟩
  obtain rfl : H1 = h9 := e9.symm
  conv => whnf
  refine ⟨fun c5 => ?_, fun c5 => ?_⟩
  · have c5 : ¬ (r4).toInt = 0 := c5
    have q6 : (Int32.ofInt (0)).toInt = 0 := by decide
    have q7 : ((Int16.ofInt (9999)).toInt32).toInt = 9999 := by decide
    conv => whnf
    refine ⟨rfl, _, _, _, _, _, _, c_Mo_is, ⟨Nat.le_of_ble_eq_true rfl, Nat.le_of_ble_eq_true rfl, by (try dsimp only); omega, by (try dsimp only); omega⟩, fun _ _ z => False.elim z, ?_⟩
    rintro v9 h9 ⟨e9, r8, rfl, zr8, mr8⟩
    obtain rfl : H1 = h9 := e9.symm
    conv => whnf
    refine ⟨fun c9 => ?_, fun c9 => ?_⟩
    · have c9 : (r8).toInt = 0 := c9
      have q10 : (Int32.ofInt (2)).toInt = 2 := by decide
      conv => whnf
      refine ⟨w1.km, rfl, _, _, _, _, _, _, c_Mo_refuse w1, ⟨Nat.le_of_ble_eq_true rfl, Nat.le_of_ble_eq_true rfl, by (try dsimp only); omega, by (try dsimp only); omega⟩, fun _ _ z => False.elim z, ?_⟩
      rintro v9 H12 ⟨st13, r11, rfl⟩
      have zG14 := congrArg Int32.toInt (st13.sz w1.lG.1)
      have zR14 := congrArg Int32.toInt (st13.sz w1.lR.1)
      have zQ14 := congrArg Int32.toInt (st13.sz w1.lQ.1)
      have w14 := w1.f st13
      have f14_0 := f1_0.tr st13
      conv => whnf
      exact ⟨trivial, ⟨by (try dsimp only); omega, by (try dsimp only); omega⟩, f14_0, _, rfl⟩
    · have c9 : ¬ (r8).toInt = 0 := c9
      have q15 : (Int32.ofInt (0)).toInt = 0 := by decide
      have q16 : ((Int16.ofInt (9999)).toInt32).toInt = 9999 := by decide
      conv => whnf
      refine ⟨rfl, _, _, _, _, _, _, c_Mo_is, ⟨Nat.le_of_ble_eq_true rfl, Nat.le_of_ble_eq_true rfl, by (try dsimp only); omega, by (try dsimp only); omega⟩, fun _ _ z => False.elim z, ?_⟩
      rintro v9 h9 ⟨e9, r17, rfl, zr17, mr17⟩
      obtain rfl : H1 = h9 := e9.symm
      conv => whnf
      refine ⟨fun c18 => ?_, fun c18 => ?_⟩
      · have c18 : ¬ (r17).toInt = 0 := c18
        conv => whnf
        refine ⟨fun c19 => ?_, fun c19 => ?_⟩
        · have c19 : (d).toInt = 0 := c19
          conv => whnf
          refine ⟨_, rfl, w1.km, fun o20 eo => ?_⟩
          obtain rfl : o20 = some P := eo.symm.trans w1.eP
          have n21 := w1.nP
          conv => whnf
          refine ⟨_, _, rfl, w1.kP, rfl, j_vp (by omega) (by omega), fun x22 ex22 => ?_⟩
          have hx22 : x22.toInt ≠ 0 := j_nzP w1 ex22 (by omega) (by omega)
          conv => whnf
          refine ⟨rfl, _, _, _, _, _, _, c_Mo_earliest (by omega), ⟨Nat.le_of_ble_eq_true rfl, Nat.le_of_ble_eq_true rfl, by (try dsimp only); omega, by (try dsimp only); omega⟩, fun _ _ z => False.elim z, ?_⟩
          rintro v9 h9 ⟨e9, r23, rfl⟩
          obtain rfl : H1 = h9 := e9.symm
          conv => whnf
          exact ⟨trivial, ⟨by (try dsimp only); omega, by (try dsimp only); omega⟩, f1_0, _, rfl⟩
        · have c19 : ¬ (d).toInt = 0 := c19
          conv => whnf
          refine ⟨_, rfl, w1.km, fun o24 eo => ?_⟩
          obtain rfl : o24 = some P := eo.symm.trans w1.eP
          have n25 := w1.nP
          conv => whnf
          refine ⟨_, _, rfl, w1.kP, rfl, j_vp (by omega) (by omega), fun x26 ex26 => ?_⟩
          have hx26 : x26.toInt ≠ 0 := j_nzP w1 ex26 (by omega) (by omega)
          conv => whnf
          refine ⟨rfl, _, _, _, _, _, _, c_Mo_latest (by omega), ⟨Nat.le_of_ble_eq_true rfl, Nat.le_of_ble_eq_true rfl, by (try dsimp only); omega, by (try dsimp only); omega⟩, fun _ _ z => False.elim z, ?_⟩
          rintro v9 h9 ⟨e9, r27, rfl⟩
          obtain rfl : H1 = h9 := e9.symm
          conv => whnf
          exact ⟨trivial, ⟨by (try dsimp only); omega, by (try dsimp only); omega⟩, f1_0, _, rfl⟩
      · have c18 : ¬ ¬ (r17).toInt = 0 := c18
        have q28 : (Int32.ofInt (2)).toInt = 2 := by decide
        conv => whnf
        refine ⟨w1.km, rfl, _, _, _, _, _, _, c_Mo_refuse w1, ⟨Nat.le_of_ble_eq_true rfl, Nat.le_of_ble_eq_true rfl, by (try dsimp only); omega, by (try dsimp only); omega⟩, fun _ _ z => False.elim z, ?_⟩
        rintro v9 H30 ⟨st31, r29, rfl⟩
        have zG32 := congrArg Int32.toInt (st31.sz w1.lG.1)
        have zR32 := congrArg Int32.toInt (st31.sz w1.lR.1)
        have zQ32 := congrArg Int32.toInt (st31.sz w1.lQ.1)
        have w32 := w1.f st31
        have f32_0 := f1_0.tr st31
        conv => whnf
        exact ⟨trivial, ⟨by (try dsimp only); omega, by (try dsimp only); omega⟩, f32_0, _, rfl⟩
  · have c5 : ¬ ¬ (r4).toInt = 0 := c5
    have q33 : (Int32.ofInt (1)).toInt = 1 := by decide
    conv => whnf
    refine ⟨w1.km, rfl, _, _, _, _, _, _, c_Mo_refuse w1, ⟨Nat.le_of_ble_eq_true rfl, Nat.le_of_ble_eq_true rfl, by (try dsimp only); omega, by (try dsimp only); omega⟩, fun _ _ z => False.elim z, ?_⟩
    rintro v9 H35 ⟨st36, r34, rfl⟩
    have zG37 := congrArg Int32.toInt (st36.sz w1.lG.1)
    have zR37 := congrArg Int32.toInt (st36.sz w1.lR.1)
    have zQ37 := congrArg Int32.toInt (st36.sz w1.lQ.1)
    have w37 := w1.f st36
    have f37_0 := f1_0.tr st36
    conv => whnf
    exact ⟨trivial, ⟨by (try dsimp only); omega, by (try dsimp only); omega⟩, f37_0, _, rfl⟩
set_option maxHeartbeats 4000000 in
set_option maxRecDepth 20000 in
theorem c_Mo_left {ρ : Nat → Nat} {h : j_H} {m P G R Q : Nat} {a : Int32} {b : Int32} {c : Int32} (w : j_MX ρ h m P G R Q)  : j_Ct 193 1 24 0 0 [j_r (some m), j_i a, j_i b, j_i c] h (fun v h' => j_Mf ρ m h h' ∧ ∃ r, v = some (j_i r)) j_no := by
  refine j_intro km_193 (Nat.le_of_ble_eq_true rfl) ?_
  intro J hJ hF
  have wb := w.b
  refine hJ [] 400 _ _ _ _ _ _ ?_
  conv => whnf
  refine ⟨_, rfl, w.km, ?_⟩
  show j_go _ _ _ _ _ _ _ _ _ _ (j_up h m 0 (j_i (Int32.ofInt (0)))) _ _
  have st1 : j_Mf ρ m h (j_up h m 0 (j_i (Int32.ofInt (0)))) := j_Mf.fi w.km (by decide)
  generalize j_up h m 0 (j_i (Int32.ofInt (0))) = H1 at st1 ⊢
  have zG1 := congrArg Int32.toInt (st1.sz w.lG.1)
  have zR1 := congrArg Int32.toInt (st1.sz w.lR.1)
  have zQ1 := congrArg Int32.toInt (st1.sz w.lQ.1)
  have w1 := w.f st1
  have f1_0 := (j_Mf.rf : j_Mf ρ m h h).tr st1
  have q2 : (Int32.ofInt (0)).toInt = 0 := by decide
  have q3 : (Int32.ofInt (1)).toInt = 1 := by decide
  conv => whnf
  refine ⟨rfl, _, _, _, _, _, _, c_Mo_is, ⟨Nat.le_of_ble_eq_true rfl, Nat.le_of_ble_eq_true rfl, by (try dsimp only); omega, by (try dsimp only); omega⟩, fun _ _ z => False.elim z, ?_⟩
  rintro v9 h9 ⟨e9, r4, rfl, zr4, mr4⟩
  obtain rfl : H1 = h9 := e9.symm
  conv => whnf
  refine ⟨fun c5 => ?_, fun c5 => ?_⟩
  · have c5 : ¬ (r4).toInt = 0 := c5
    have q6 : (Int32.ofInt (0)).toInt = 0 := by decide
    have q7 : ((Int16.ofInt (19999)).toInt32).toInt = 19999 := by decide
    conv => whnf
    refine ⟨rfl, _, _, _, _, _, _, c_Mo_is, ⟨Nat.le_of_ble_eq_true rfl, Nat.le_of_ble_eq_true rfl, by (try dsimp only); omega, by (try dsimp only); omega⟩, fun _ _ z => False.elim z, ?_⟩
    rintro v9 h9 ⟨e9, r8, rfl, zr8, mr8⟩
    obtain rfl : H1 = h9 := e9.symm
    conv => whnf
    refine ⟨fun c9 => ?_, fun c9 => ?_⟩
    · have c9 : (r8).toInt = 0 := c9
      have q10 : (Int32.ofInt (2)).toInt = 2 := by decide
      conv => whnf
      refine ⟨w1.km, rfl, _, _, _, _, _, _, c_Mo_refuse w1, ⟨Nat.le_of_ble_eq_true rfl, Nat.le_of_ble_eq_true rfl, by (try dsimp only); omega, by (try dsimp only); omega⟩, fun _ _ z => False.elim z, ?_⟩
      rintro v9 H12 ⟨st13, r11, rfl⟩
      have zG14 := congrArg Int32.toInt (st13.sz w1.lG.1)
      have zR14 := congrArg Int32.toInt (st13.sz w1.lR.1)
      have zQ14 := congrArg Int32.toInt (st13.sz w1.lQ.1)
      have w14 := w1.f st13
      have f14_0 := f1_0.tr st13
      conv => whnf
      exact ⟨trivial, ⟨by (try dsimp only); omega, by (try dsimp only); omega⟩, f14_0, _, rfl⟩
    · have c9 : ¬ (r8).toInt = 0 := c9
      have q15 : (Int32.ofInt (0)).toInt = 0 := by decide
      have q16 : ((Int16.ofInt (3000)).toInt32).toInt = 3000 := by decide
      conv => whnf
      refine ⟨rfl, _, _, _, _, _, _, c_Mo_is, ⟨Nat.le_of_ble_eq_true rfl, Nat.le_of_ble_eq_true rfl, by (try dsimp only); omega, by (try dsimp only); omega⟩, fun _ _ z => False.elim z, ?_⟩
      rintro v9 h9 ⟨e9, r17, rfl, zr17, mr17⟩
      obtain rfl : H1 = h9 := e9.symm
      conv => whnf
      refine ⟨fun c18 => ?_, fun c18 => ?_⟩
      · have c18 : (r17).toInt = 0 := c18
        have q19 : (Int32.ofInt (2)).toInt = 2 := by decide
        conv => whnf
        refine ⟨w1.km, rfl, _, _, _, _, _, _, c_Mo_refuse w1, ⟨Nat.le_of_ble_eq_true rfl, Nat.le_of_ble_eq_true rfl, by (try dsimp only); omega, by (try dsimp only); omega⟩, fun _ _ z => False.elim z, ?_⟩
        rintro v9 H21 ⟨st22, r20, rfl⟩
        have zG23 := congrArg Int32.toInt (st22.sz w1.lG.1)
        have zR23 := congrArg Int32.toInt (st22.sz w1.lR.1)
        have zQ23 := congrArg Int32.toInt (st22.sz w1.lQ.1)
        have w23 := w1.f st22
        have f23_0 := f1_0.tr st22
        conv => whnf
        exact ⟨trivial, ⟨by (try dsimp only); omega, by (try dsimp only); omega⟩, f23_0, _, rfl⟩
      · have c18 : ¬ (r17).toInt = 0 := c18
        conv => whnf
        refine ⟨_, rfl, w1.km, fun o24 eo => ?_⟩
        obtain rfl : o24 = some P := eo.symm.trans w1.eP
        have n25 := w1.nP
        conv => whnf
        refine ⟨_, _, rfl, w1.kP, rfl, j_vp (by omega) (by omega), fun x26 ex26 => ?_⟩
        have hx26 : x26.toInt ≠ 0 := j_nzP w1 ex26 (by omega) (by omega)
        conv => whnf
        refine ⟨rfl, _, _, _, _, _, _, c_Mo_leftOf (by omega), ⟨Nat.le_of_ble_eq_true rfl, Nat.le_of_ble_eq_true rfl, by (try dsimp only); omega, by (try dsimp only); omega⟩, fun _ _ z => False.elim z, ?_⟩
        rintro v9 h9 ⟨e9, r27, rfl⟩
        obtain rfl : H1 = h9 := e9.symm
        conv => whnf
        exact ⟨trivial, ⟨by (try dsimp only); omega, by (try dsimp only); omega⟩, f1_0, _, rfl⟩
  · have c5 : ¬ ¬ (r4).toInt = 0 := c5
    have q28 : (Int32.ofInt (1)).toInt = 1 := by decide
    conv => whnf
    refine ⟨w1.km, rfl, _, _, _, _, _, _, c_Mo_refuse w1, ⟨Nat.le_of_ble_eq_true rfl, Nat.le_of_ble_eq_true rfl, by (try dsimp only); omega, by (try dsimp only); omega⟩, fun _ _ z => False.elim z, ?_⟩
    rintro v9 H30 ⟨st31, r29, rfl⟩
    have zG32 := congrArg Int32.toInt (st31.sz w1.lG.1)
    have zR32 := congrArg Int32.toInt (st31.sz w1.lR.1)
    have zQ32 := congrArg Int32.toInt (st31.sz w1.lQ.1)
    have w32 := w1.f st31
    have f32_0 := f1_0.tr st31
    conv => whnf
    exact ⟨trivial, ⟨by (try dsimp only); omega, by (try dsimp only); omega⟩, f32_0, _, rfl⟩
set_option maxHeartbeats 4000000 in
set_option maxRecDepth 20000 in
theorem c_Mo_ofPrint {ρ : Nat → Nat} {h : j_H} {m P G R Q : Nat} {a : Int32} {b : Int32} (w : j_MX ρ h m P G R Q)  : j_Ct 201 17 786 0 0 [j_r (some m), j_i a, j_i b] h (fun v h' => j_Mf ρ m h h' ∧ ∃ r, v = some (j_i r)) j_no := by
  refine j_intro km_201 (Nat.le_of_ble_eq_true rfl) ?_
  intro J hJ hF
  have wb := w.b
  refine hJ [] 400 _ _ _ _ _ _ ?_
  conv => whnf
  refine ⟨_, rfl, w.km, ?_⟩
  show j_go _ _ _ _ _ _ _ _ _ _ (j_up h m 0 (j_i (Int32.ofInt (0)))) _ _
  have st1 : j_Mf ρ m h (j_up h m 0 (j_i (Int32.ofInt (0)))) := j_Mf.fi w.km (by decide)
  generalize j_up h m 0 (j_i (Int32.ofInt (0))) = H1 at st1 ⊢
  have zG1 := congrArg Int32.toInt (st1.sz w.lG.1)
  have zR1 := congrArg Int32.toInt (st1.sz w.lR.1)
  have zQ1 := congrArg Int32.toInt (st1.sz w.lQ.1)
  have w1 := w.f st1
  have f1_0 := (j_Mf.rf : j_Mf ρ m h h).tr st1
  conv => whnf
  refine ⟨_, rfl, w1.km, fun o2 eo => ?_⟩
  obtain rfl : o2 = some Q := eo.symm.trans w1.eQ
  conv => whnf
  refine ⟨w1.lQ.1, rfl, _, _, _, _, _, _, c_AL_size (h := H1) w1.lQ j_Sc.rf j_sf_ok, ⟨Nat.le_of_ble_eq_true rfl, Nat.le_of_ble_eq_true rfl, by (try dsimp only); omega, by (try dsimp only); omega⟩, fun _ _ z => False.elim z, ?_⟩
  rintro v9 h9 ⟨e9, rfl⟩
  obtain rfl : H1 = h9 := e9.symm
  have q3 := j_sub1 (x := (j_it H1 Q 2)) (by omega)
  have q4 : (Int32.ofInt (0)).toInt = 0 := by decide
  conv => whnf
  refine ⟨rfl, _, _, _, _, _, _, c_Mo_is, ⟨Nat.le_of_ble_eq_true rfl, Nat.le_of_ble_eq_true rfl, by (try dsimp only); omega, by (try dsimp only); omega⟩, fun _ _ z => False.elim z, ?_⟩
  rintro v9 h9 ⟨e9, r5, rfl, zr5, mr5⟩
  obtain rfl : H1 = h9 := e9.symm
  conv => whnf
  refine ⟨fun c6 => ?_, fun c6 => ?_⟩
  · have c6 : ¬ (r5).toInt = 0 := c6
    have q7 : (Int32.ofInt (0)).toInt = 0 := by decide
    have q8 : (Int32.ofInt (4)).toInt = 4 := by decide
    conv => whnf
    refine ⟨rfl, _, _, _, _, _, _, c_Mo_is, ⟨Nat.le_of_ble_eq_true rfl, Nat.le_of_ble_eq_true rfl, by (try dsimp only); omega, by (try dsimp only); omega⟩, fun _ _ z => False.elim z, ?_⟩
    rintro v9 h9 ⟨e9, r9, rfl, zr9, mr9⟩
    obtain rfl : H1 = h9 := e9.symm
    conv => whnf
    refine ⟨fun c10 => ?_, fun c10 => ?_⟩
    · have c10 : (r9).toInt = 0 := c10
      have q11 : (Int32.ofInt (2)).toInt = 2 := by decide
      conv => whnf
      refine ⟨w1.km, rfl, _, _, _, _, _, _, c_Mo_refuse w1, ⟨Nat.le_of_ble_eq_true rfl, Nat.le_of_ble_eq_true rfl, by (try dsimp only); omega, by (try dsimp only); omega⟩, fun _ _ z => False.elim z, ?_⟩
      rintro v9 H13 ⟨st14, r12, rfl⟩
      have zG15 := congrArg Int32.toInt (st14.sz w1.lG.1)
      have zR15 := congrArg Int32.toInt (st14.sz w1.lR.1)
      have zQ15 := congrArg Int32.toInt (st14.sz w1.lQ.1)
      have w15 := w1.f st14
      have f15_0 := f1_0.tr st14
      conv => whnf
      exact ⟨trivial, ⟨by (try dsimp only); omega, by (try dsimp only); omega⟩, f15_0, _, rfl⟩
    · have c10 : ¬ (r9).toInt = 0 := c10
      conv => whnf
      refine ⟨w1.km, rfl, _, _, _, _, _, _, c_Mo_ofPrintNow w1 ⟨by omega, by omega⟩ ⟨by omega, by omega⟩, ⟨Nat.le_of_ble_eq_true rfl, Nat.le_of_ble_eq_true rfl, by (try dsimp only); omega, by (try dsimp only); omega⟩, fun _ _ z => False.elim z, ?_⟩
      rintro v9 h9 ⟨e9, r16, rfl⟩
      obtain rfl : H1 = h9 := e9.symm
      conv => whnf
      exact ⟨trivial, ⟨by (try dsimp only); omega, by (try dsimp only); omega⟩, f1_0, _, rfl⟩
  · have c6 : ¬ ¬ (r5).toInt = 0 := c6
    have q17 : (Int32.ofInt (1)).toInt = 1 := by decide
    conv => whnf
    refine ⟨w1.km, rfl, _, _, _, _, _, _, c_Mo_refuse w1, ⟨Nat.le_of_ble_eq_true rfl, Nat.le_of_ble_eq_true rfl, by (try dsimp only); omega, by (try dsimp only); omega⟩, fun _ _ z => False.elim z, ?_⟩
    rintro v9 H19 ⟨st20, r18, rfl⟩
    have zG21 := congrArg Int32.toInt (st20.sz w1.lG.1)
    have zR21 := congrArg Int32.toInt (st20.sz w1.lR.1)
    have zQ21 := congrArg Int32.toInt (st20.sz w1.lQ.1)
    have w21 := w1.f st20
    have f21_0 := f1_0.tr st20
    conv => whnf
    exact ⟨trivial, ⟨by (try dsimp only); omega, by (try dsimp only); omega⟩, f21_0, _, rfl⟩
set_option maxHeartbeats 4000000 in
set_option maxRecDepth 20000 in
theorem c_Mo_ofGrain {ρ : Nat → Nat} {h : j_H} {m P G R Q : Nat} {a : Int32} {b : Int32} (w : j_MX ρ h m P G R Q)  : j_Ct 199 6 134 0 0 [j_r (some m), j_i a, j_i b] h (fun v h' => j_Mf ρ m h h' ∧ ∃ r, v = some (j_i r)) j_no := by
  refine j_intro km_199 (Nat.le_of_ble_eq_true rfl) ?_
  intro J hJ hF
  have wb := w.b
  refine hJ [] 400 _ _ _ _ _ _ ?_
  conv => whnf
  refine ⟨_, rfl, w.km, ?_⟩
  show j_go _ _ _ _ _ _ _ _ _ _ (j_up h m 0 (j_i (Int32.ofInt (0)))) _ _
  have st1 : j_Mf ρ m h (j_up h m 0 (j_i (Int32.ofInt (0)))) := j_Mf.fi w.km (by decide)
  generalize j_up h m 0 (j_i (Int32.ofInt (0))) = H1 at st1 ⊢
  have zG1 := congrArg Int32.toInt (st1.sz w.lG.1)
  have zR1 := congrArg Int32.toInt (st1.sz w.lR.1)
  have zQ1 := congrArg Int32.toInt (st1.sz w.lQ.1)
  have w1 := w.f st1
  have f1_0 := (j_Mf.rf : j_Mf ρ m h h).tr st1
  conv => whnf
  refine ⟨w1.km, rfl, _, _, _, _, _, _, c_Mo_isGrain w1, ⟨Nat.le_of_ble_eq_true rfl, Nat.le_of_ble_eq_true rfl, by (try dsimp only); omega, by (try dsimp only); omega⟩, fun _ _ z => False.elim z, ?_⟩
  rintro v9 h9 ⟨e9, r2, rfl, zr2, mr2⟩
  obtain rfl : H1 = h9 := e9.symm
  conv => whnf
  refine ⟨fun c3 => ?_, fun c3 => ?_⟩
  · have c3 : ¬ (r2).toInt = 0 := c3
    have q4 : (Int32.ofInt (0)).toInt = 0 := by decide
    have q5 : ((Int8.ofInt (9)).toInt32).toInt = 9 := by decide
    conv => whnf
    refine ⟨rfl, _, _, _, _, _, _, c_Mo_is, ⟨Nat.le_of_ble_eq_true rfl, Nat.le_of_ble_eq_true rfl, by (try dsimp only); omega, by (try dsimp only); omega⟩, fun _ _ z => False.elim z, ?_⟩
    rintro v9 h9 ⟨e9, r6, rfl, zr6, mr6⟩
    obtain rfl : H1 = h9 := e9.symm
    conv => whnf
    refine ⟨fun c7 => ?_, fun c7 => ?_⟩
    · have c7 : (r6).toInt = 0 := c7
      have q8 : (Int32.ofInt (2)).toInt = 2 := by decide
      conv => whnf
      refine ⟨w1.km, rfl, _, _, _, _, _, _, c_Mo_refuse w1, ⟨Nat.le_of_ble_eq_true rfl, Nat.le_of_ble_eq_true rfl, by (try dsimp only); omega, by (try dsimp only); omega⟩, fun _ _ z => False.elim z, ?_⟩
      rintro v9 H10 ⟨st11, r9, rfl⟩
      have zG12 := congrArg Int32.toInt (st11.sz w1.lG.1)
      have zR12 := congrArg Int32.toInt (st11.sz w1.lR.1)
      have zQ12 := congrArg Int32.toInt (st11.sz w1.lQ.1)
      have w12 := w1.f st11
      have f12_0 := f1_0.tr st11
      conv => whnf
      exact ⟨trivial, ⟨by (try dsimp only); omega, by (try dsimp only); omega⟩, f12_0, _, rfl⟩
    · have c7 : ¬ (r6).toInt = 0 := c7
      conv => whnf
      refine ⟨w1.km, rfl, _, _, _, _, _, _, c_Mo_ofGrainNow w1 ⟨by omega, by omega⟩ ⟨by omega, by omega⟩, ⟨Nat.le_of_ble_eq_true rfl, Nat.le_of_ble_eq_true rfl, by (try dsimp only); omega, by (try dsimp only); omega⟩, fun _ _ z => False.elim z, ?_⟩
      rintro v9 h9 ⟨e9, r13, rfl⟩
      obtain rfl : H1 = h9 := e9.symm
      conv => whnf
      exact ⟨trivial, ⟨by (try dsimp only); omega, by (try dsimp only); omega⟩, f1_0, _, rfl⟩
  · have c3 : ¬ ¬ (r2).toInt = 0 := c3
    have q14 : (Int32.ofInt (1)).toInt = 1 := by decide
    conv => whnf
    refine ⟨w1.km, rfl, _, _, _, _, _, _, c_Mo_refuse w1, ⟨Nat.le_of_ble_eq_true rfl, Nat.le_of_ble_eq_true rfl, by (try dsimp only); omega, by (try dsimp only); omega⟩, fun _ _ z => False.elim z, ?_⟩
    rintro v9 H16 ⟨st17, r15, rfl⟩
    have zG18 := congrArg Int32.toInt (st17.sz w1.lG.1)
    have zR18 := congrArg Int32.toInt (st17.sz w1.lR.1)
    have zQ18 := congrArg Int32.toInt (st17.sz w1.lQ.1)
    have w18 := w1.f st17
    have f18_0 := f1_0.tr st17
    conv => whnf
    exact ⟨trivial, ⟨by (try dsimp only); omega, by (try dsimp only); omega⟩, f18_0, _, rfl⟩
set_option maxHeartbeats 4000000 in
set_option maxRecDepth 20000 in
theorem c_Mo_ofRun {ρ : Nat → Nat} {h : j_H} {m P G R Q : Nat} {a : Int32} {b : Int32} (w : j_MX ρ h m P G R Q)  : j_Ct 203 4 87 0 0 [j_r (some m), j_i a, j_i b] h (fun v h' => j_Mf ρ m h h' ∧ ∃ r, v = some (j_i r)) j_no := by
  refine j_intro km_203 (Nat.le_of_ble_eq_true rfl) ?_
  intro J hJ hF
  have wb := w.b
  refine hJ [] 400 _ _ _ _ _ _ ?_
  conv => whnf
  refine ⟨_, rfl, w.km, ?_⟩
  show j_go _ _ _ _ _ _ _ _ _ _ (j_up h m 0 (j_i (Int32.ofInt (0)))) _ _
  have st1 : j_Mf ρ m h (j_up h m 0 (j_i (Int32.ofInt (0)))) := j_Mf.fi w.km (by decide)
  generalize j_up h m 0 (j_i (Int32.ofInt (0))) = H1 at st1 ⊢
  have zG1 := congrArg Int32.toInt (st1.sz w.lG.1)
  have zR1 := congrArg Int32.toInt (st1.sz w.lR.1)
  have zQ1 := congrArg Int32.toInt (st1.sz w.lQ.1)
  have w1 := w.f st1
  have f1_0 := (j_Mf.rf : j_Mf ρ m h h).tr st1
  conv => whnf
  refine ⟨w1.km, rfl, _, _, _, _, _, _, c_Mo_isRun w1, ⟨Nat.le_of_ble_eq_true rfl, Nat.le_of_ble_eq_true rfl, by (try dsimp only); omega, by (try dsimp only); omega⟩, fun _ _ z => False.elim z, ?_⟩
  rintro v9 h9 ⟨e9, r2, rfl, zr2, mr2⟩
  obtain rfl : H1 = h9 := e9.symm
  conv => whnf
  refine ⟨fun c3 => ?_, fun c3 => ?_⟩
  · have c3 : ¬ (r2).toInt = 0 := c3
    have q4 : (Int32.ofInt (0)).toInt = 0 := by decide
    have q5 : ((Int8.ofInt (7)).toInt32).toInt = 7 := by decide
    conv => whnf
    refine ⟨rfl, _, _, _, _, _, _, c_Mo_is, ⟨Nat.le_of_ble_eq_true rfl, Nat.le_of_ble_eq_true rfl, by (try dsimp only); omega, by (try dsimp only); omega⟩, fun _ _ z => False.elim z, ?_⟩
    rintro v9 h9 ⟨e9, r6, rfl, zr6, mr6⟩
    obtain rfl : H1 = h9 := e9.symm
    conv => whnf
    refine ⟨fun c7 => ?_, fun c7 => ?_⟩
    · have c7 : (r6).toInt = 0 := c7
      have q8 : (Int32.ofInt (2)).toInt = 2 := by decide
      conv => whnf
      refine ⟨w1.km, rfl, _, _, _, _, _, _, c_Mo_refuse w1, ⟨Nat.le_of_ble_eq_true rfl, Nat.le_of_ble_eq_true rfl, by (try dsimp only); omega, by (try dsimp only); omega⟩, fun _ _ z => False.elim z, ?_⟩
      rintro v9 H10 ⟨st11, r9, rfl⟩
      have zG12 := congrArg Int32.toInt (st11.sz w1.lG.1)
      have zR12 := congrArg Int32.toInt (st11.sz w1.lR.1)
      have zQ12 := congrArg Int32.toInt (st11.sz w1.lQ.1)
      have w12 := w1.f st11
      have f12_0 := f1_0.tr st11
      conv => whnf
      exact ⟨trivial, ⟨by (try dsimp only); omega, by (try dsimp only); omega⟩, f12_0, _, rfl⟩
    · have c7 : ¬ (r6).toInt = 0 := c7
      conv => whnf
      refine ⟨w1.km, rfl, _, _, _, _, _, _, c_Mo_ofRunNow w1 ⟨by omega, by omega⟩ ⟨by omega, by omega⟩, ⟨Nat.le_of_ble_eq_true rfl, Nat.le_of_ble_eq_true rfl, by (try dsimp only); omega, by (try dsimp only); omega⟩, fun _ _ z => False.elim z, ?_⟩
      rintro v9 h9 ⟨e9, r13, rfl⟩
      obtain rfl : H1 = h9 := e9.symm
      conv => whnf
      exact ⟨trivial, ⟨by (try dsimp only); omega, by (try dsimp only); omega⟩, f1_0, _, rfl⟩
  · have c3 : ¬ ¬ (r2).toInt = 0 := c3
    have q14 : (Int32.ofInt (1)).toInt = 1 := by decide
    conv => whnf
    refine ⟨w1.km, rfl, _, _, _, _, _, _, c_Mo_refuse w1, ⟨Nat.le_of_ble_eq_true rfl, Nat.le_of_ble_eq_true rfl, by (try dsimp only); omega, by (try dsimp only); omega⟩, fun _ _ z => False.elim z, ?_⟩
    rintro v9 H16 ⟨st17, r15, rfl⟩
    have zG18 := congrArg Int32.toInt (st17.sz w1.lG.1)
    have zR18 := congrArg Int32.toInt (st17.sz w1.lR.1)
    have zQ18 := congrArg Int32.toInt (st17.sz w1.lQ.1)
    have w18 := w1.f st17
    have f18_0 := f1_0.tr st17
    conv => whnf
    exact ⟨trivial, ⟨by (try dsimp only); omega, by (try dsimp only); omega⟩, f18_0, _, rfl⟩
set_option maxHeartbeats 4000000 in
set_option maxRecDepth 20000 in
theorem c_Mo_span {ρ : Nat → Nat} {h : j_H} {m P G R Q : Nat} {a : Int32} {b : Int32} {c : Int32} (w : j_MX ρ h m P G R Q)  : j_Ct 213 6 136 1 40 [j_r (some m), j_i a, j_i b, j_i c] h (fun v h' => j_Mf ρ m h h' ∧ ∃ r, v = some (j_i r)) j_no := by
  refine j_intro km_213 (Nat.le_of_ble_eq_true rfl) ?_
  intro J hJ hF
  have wb := w.b
  refine hJ [] 400 _ _ _ _ _ _ ?_
  conv => whnf
  refine ⟨_, rfl, w.km, ?_⟩
  show j_go _ _ _ _ _ _ _ _ _ _ (j_up h m 0 (j_i (Int32.ofInt (0)))) _ _
  have st1 : j_Mf ρ m h (j_up h m 0 (j_i (Int32.ofInt (0)))) := j_Mf.fi w.km (by decide)
  generalize j_up h m 0 (j_i (Int32.ofInt (0))) = H1 at st1 ⊢
  have zG1 := congrArg Int32.toInt (st1.sz w.lG.1)
  have zR1 := congrArg Int32.toInt (st1.sz w.lR.1)
  have zQ1 := congrArg Int32.toInt (st1.sz w.lQ.1)
  have w1 := w.f st1
  have f1_0 := (j_Mf.rf : j_Mf ρ m h h).tr st1
  conv => whnf
  refine ⟨w1.km, rfl, _, _, _, _, _, _, c_Mo_isGrain w1, ⟨Nat.le_of_ble_eq_true rfl, Nat.le_of_ble_eq_true rfl, by (try dsimp only); omega, by (try dsimp only); omega⟩, fun _ _ z => False.elim z, ?_⟩
  rintro v9 h9 ⟨e9, r2, rfl, zr2, mr2⟩
  obtain rfl : H1 = h9 := e9.symm
  conv => whnf
  refine ⟨fun c3 => ?_, fun c3 => ?_⟩
  · have c3 : (r2).toInt = 0 := c3
    have q4 : (Int32.ofInt (1)).toInt = 1 := by decide
    conv => whnf
    refine ⟨w1.km, rfl, _, _, _, _, _, _, c_Mo_refuse w1, ⟨Nat.le_of_ble_eq_true rfl, Nat.le_of_ble_eq_true rfl, by (try dsimp only); omega, by (try dsimp only); omega⟩, fun _ _ z => False.elim z, ?_⟩
    rintro v9 H6 ⟨st7, r5, rfl⟩
    have zG8 := congrArg Int32.toInt (st7.sz w1.lG.1)
    have zR8 := congrArg Int32.toInt (st7.sz w1.lR.1)
    have zQ8 := congrArg Int32.toInt (st7.sz w1.lQ.1)
    have w8 := w1.f st7
    have f8_0 := f1_0.tr st7
    conv => whnf
    exact ⟨trivial, ⟨by (try dsimp only); omega, by (try dsimp only); omega⟩, f8_0, _, rfl⟩
  · have c3 : ¬ (r2).toInt = 0 := c3
    have q9 : (Int32.ofInt (-1)).toInt = -1 := by decide
    have q10 : (Int32.ofInt (1)).toInt = 1 := by decide
    conv => whnf
    refine ⟨rfl, _, _, _, _, _, _, c_Mo_is, ⟨Nat.le_of_ble_eq_true rfl, Nat.le_of_ble_eq_true rfl, by (try dsimp only); omega, by (try dsimp only); omega⟩, fun _ _ z => False.elim z, ?_⟩
    rintro v9 h9 ⟨e9, r11, rfl, zr11, mr11⟩
    obtain rfl : H1 = h9 := e9.symm
    conv => whnf
    refine ⟨fun c12 => ?_, fun c12 => ?_⟩
    · have c12 : ¬ (r11).toInt = 0 := c12
      have q13 : (Int32.ofInt (0)).toInt = 0 := by decide
      have q14 : (Int32.ofInt (2)).toInt = 2 := by decide
      conv => whnf
      refine ⟨rfl, _, _, _, _, _, _, c_Mo_is, ⟨Nat.le_of_ble_eq_true rfl, Nat.le_of_ble_eq_true rfl, by (try dsimp only); omega, by (try dsimp only); omega⟩, fun _ _ z => False.elim z, ?_⟩
      rintro v9 h9 ⟨e9, r15, rfl, zr15, mr15⟩
      obtain rfl : H1 = h9 := e9.symm
      conv => whnf
      refine ⟨fun c16 => ?_, fun c16 => ?_⟩
      · have c16 : ¬ (r15).toInt = 0 := c16
        conv => whnf
        refine ⟨w1.km, rfl, _, _, _, _, _, _, c_Mo_spans w1, ⟨Nat.le_of_ble_eq_true rfl, Nat.le_of_ble_eq_true rfl, by (try dsimp only); omega, by (try dsimp only); omega⟩, fun _ _ z => False.elim z, ?_⟩
        rintro v9 H18 ⟨st19, r17, rfl, kr17, nr17⟩
        have zG20 := congrArg Int32.toInt (st19.sz w1.lG.1)
        have zR20 := congrArg Int32.toInt (st19.sz w1.lR.1)
        have zQ20 := congrArg Int32.toInt (st19.sz w1.lQ.1)
        have w20 := w1.f st19
        have f20_0 := f1_0.tr st19
        conv => whnf
        refine ⟨fun c21 => ?_, fun c21 => ?_⟩
        · have c21 : ¬ (c).toInt = 0 := c21
          have q22 : (Int32.ofInt (1)).toInt = 1 := by decide
          have u23 := j_ub c
          conv => whnf
          refine ⟨fun c24 => ?_, fun c24 => ?_⟩
          · have c24 : ¬ (c).toInt = (Int32.ofInt (1)).toInt := c24
            conv => whnf
            refine ⟨w20.km, rfl, _, _, _, _, _, _, c_Mo_quarrels w20 kr17 (by omega), ⟨Nat.le_of_ble_eq_true rfl, Nat.le_of_ble_eq_true rfl, by (try dsimp only); omega, by (try dsimp only); omega⟩, fun _ _ z => False.elim z, ?_⟩
            rintro v9 h9 ⟨e9, r25, rfl, zr25⟩
            obtain rfl : H18 = h9 := e9.symm
            conv => whnf
            refine ⟨fun c26 => ?_, fun c26 => ?_⟩
            · have c26 : (r25).toInt = 0 := c26
              conv => whnf
              exact ⟨trivial, ⟨by (try dsimp only); omega, by (try dsimp only); omega⟩, f20_0, _, rfl⟩
            · have c26 : ¬ (r25).toInt = 0 := c26
              conv => whnf
              exact ⟨trivial, ⟨by (try dsimp only); omega, by (try dsimp only); omega⟩, f20_0, _, rfl⟩
          · have c24 : ¬ ¬ (c).toInt = (Int32.ofInt (1)).toInt := c24
            conv => whnf
            refine ⟨w20.km, rfl, _, _, _, _, _, _, c_Mo_lateOf w20 kr17 (by omega), ⟨Nat.le_of_ble_eq_true rfl, Nat.le_of_ble_eq_true rfl, by (try dsimp only); omega, by (try dsimp only); omega⟩, fun _ _ z => False.elim z, ?_⟩
            rintro v9 h9 ⟨e9, r27, rfl⟩
            obtain rfl : H18 = h9 := e9.symm
            conv => whnf
            exact ⟨trivial, ⟨by (try dsimp only); omega, by (try dsimp only); omega⟩, f20_0, _, rfl⟩
        · have c21 : ¬ ¬ (c).toInt = 0 := c21
          conv => whnf
          refine ⟨w20.km, rfl, _, _, _, _, _, _, c_Mo_earlyOf w20 kr17 (by omega), ⟨Nat.le_of_ble_eq_true rfl, Nat.le_of_ble_eq_true rfl, by (try dsimp only); omega, by (try dsimp only); omega⟩, fun _ _ z => False.elim z, ?_⟩
          rintro v9 h9 ⟨e9, r28, rfl⟩
          obtain rfl : H18 = h9 := e9.symm
          conv => whnf
          exact ⟨trivial, ⟨by (try dsimp only); omega, by (try dsimp only); omega⟩, f20_0, _, rfl⟩
      · have c16 : ¬ ¬ (r15).toInt = 0 := c16
        have q29 : (Int32.ofInt (2)).toInt = 2 := by decide
        conv => whnf
        refine ⟨w1.km, rfl, _, _, _, _, _, _, c_Mo_refuse w1, ⟨Nat.le_of_ble_eq_true rfl, Nat.le_of_ble_eq_true rfl, by (try dsimp only); omega, by (try dsimp only); omega⟩, fun _ _ z => False.elim z, ?_⟩
        rintro v9 H31 ⟨st32, r30, rfl⟩
        have zG33 := congrArg Int32.toInt (st32.sz w1.lG.1)
        have zR33 := congrArg Int32.toInt (st32.sz w1.lR.1)
        have zQ33 := congrArg Int32.toInt (st32.sz w1.lQ.1)
        have w33 := w1.f st32
        have f33_0 := f1_0.tr st32
        conv => whnf
        exact ⟨trivial, ⟨by (try dsimp only); omega, by (try dsimp only); omega⟩, f33_0, _, rfl⟩
    · have c12 : ¬ ¬ (r11).toInt = 0 := c12
      have q34 : (Int32.ofInt (1)).toInt = 1 := by decide
      conv => whnf
      refine ⟨w1.km, rfl, _, _, _, _, _, _, c_Mo_refuse w1, ⟨Nat.le_of_ble_eq_true rfl, Nat.le_of_ble_eq_true rfl, by (try dsimp only); omega, by (try dsimp only); omega⟩, fun _ _ z => False.elim z, ?_⟩
      rintro v9 H36 ⟨st37, r35, rfl⟩
      have zG38 := congrArg Int32.toInt (st37.sz w1.lG.1)
      have zR38 := congrArg Int32.toInt (st37.sz w1.lR.1)
      have zQ38 := congrArg Int32.toInt (st37.sz w1.lQ.1)
      have w38 := w1.f st37
      have f38_0 := f1_0.tr st37
      conv => whnf
      exact ⟨trivial, ⟨by (try dsimp only); omega, by (try dsimp only); omega⟩, f38_0, _, rfl⟩
set_option maxHeartbeats 4000000 in
set_option maxRecDepth 20000 in
theorem c_Mo_narrowed {ρ : Nat → Nat} {h : j_H} {m P G R Q : Nat} {a : Int32} {b : Int32} (w : j_MX ρ h m P G R Q)  : j_Ct 197 6 139 1 40 [j_r (some m), j_i a, j_i b] h (fun v h' => j_Mf ρ m h h' ∧ ∃ r, v = some (j_i r)) j_no := by
  refine j_intro km_197 (Nat.le_of_ble_eq_true rfl) ?_
  intro J hJ hF
  have wb := w.b
  refine hJ [] 400 _ _ _ _ _ _ ?_
  conv => whnf
  refine ⟨_, rfl, w.km, ?_⟩
  show j_go _ _ _ _ _ _ _ _ _ _ (j_up h m 0 (j_i (Int32.ofInt (0)))) _ _
  have st1 : j_Mf ρ m h (j_up h m 0 (j_i (Int32.ofInt (0)))) := j_Mf.fi w.km (by decide)
  generalize j_up h m 0 (j_i (Int32.ofInt (0))) = H1 at st1 ⊢
  have zG1 := congrArg Int32.toInt (st1.sz w.lG.1)
  have zR1 := congrArg Int32.toInt (st1.sz w.lR.1)
  have zQ1 := congrArg Int32.toInt (st1.sz w.lQ.1)
  have w1 := w.f st1
  have f1_0 := (j_Mf.rf : j_Mf ρ m h h).tr st1
  conv => whnf
  refine ⟨w1.km, rfl, _, _, _, _, _, _, c_Mo_isGrain w1, ⟨Nat.le_of_ble_eq_true rfl, Nat.le_of_ble_eq_true rfl, by (try dsimp only); omega, by (try dsimp only); omega⟩, fun _ _ z => False.elim z, ?_⟩
  rintro v9 h9 ⟨e9, r2, rfl, zr2, mr2⟩
  obtain rfl : H1 = h9 := e9.symm
  conv => whnf
  refine ⟨fun c3 => ?_, fun c3 => ?_⟩
  · have c3 : (r2).toInt = 0 := c3
    have q4 : (Int32.ofInt (1)).toInt = 1 := by decide
    conv => whnf
    refine ⟨w1.km, rfl, _, _, _, _, _, _, c_Mo_refuse w1, ⟨Nat.le_of_ble_eq_true rfl, Nat.le_of_ble_eq_true rfl, by (try dsimp only); omega, by (try dsimp only); omega⟩, fun _ _ z => False.elim z, ?_⟩
    rintro v9 H6 ⟨st7, r5, rfl⟩
    have zG8 := congrArg Int32.toInt (st7.sz w1.lG.1)
    have zR8 := congrArg Int32.toInt (st7.sz w1.lR.1)
    have zQ8 := congrArg Int32.toInt (st7.sz w1.lQ.1)
    have w8 := w1.f st7
    have f8_0 := f1_0.tr st7
    conv => whnf
    exact ⟨trivial, ⟨by (try dsimp only); omega, by (try dsimp only); omega⟩, f8_0, _, rfl⟩
  · have c3 : ¬ (r2).toInt = 0 := c3
    conv => whnf
    refine ⟨w1.km, rfl, _, _, _, _, _, _, c_Mo_spans w1, ⟨Nat.le_of_ble_eq_true rfl, Nat.le_of_ble_eq_true rfl, by (try dsimp only); omega, by (try dsimp only); omega⟩, fun _ _ z => False.elim z, ?_⟩
    rintro v9 H10 ⟨st11, r9, rfl, kr9, nr9⟩
    have zG12 := congrArg Int32.toInt (st11.sz w1.lG.1)
    have zR12 := congrArg Int32.toInt (st11.sz w1.lR.1)
    have zQ12 := congrArg Int32.toInt (st11.sz w1.lQ.1)
    have w12 := w1.f st11
    have f12_0 := f1_0.tr st11
    conv => whnf
    refine ⟨w12.km, rfl, _, _, _, _, _, _, c_Mo_narrowedNow w12 kr9 (by omega) ⟨by omega, by omega⟩, ⟨Nat.le_of_ble_eq_true rfl, Nat.le_of_ble_eq_true rfl, by (try dsimp only); omega, by (try dsimp only); omega⟩, fun _ _ z => False.elim z, ?_⟩
    rintro v9 h9 ⟨e9, r13, rfl⟩
    obtain rfl : H10 = h9 := e9.symm
    conv => whnf
    exact ⟨trivial, ⟨by (try dsimp only); omega, by (try dsimp only); omega⟩, f12_0, _, rfl⟩
set_option maxHeartbeats 4000000 in
set_option maxRecDepth 20000 in
theorem c_Mo_lab {ρ : Nat → Nat} {h : j_H} {m P G R Q : Nat} {a : Int32} (w : j_MX ρ h m P G R Q)  : j_Ct 187 18 807 3 60 [j_r (some m), j_i a] h (fun v h' => j_Mf ρ m h h' ∧ ∃ r, v = some (j_i r)) j_no := by
  refine j_intro km_187 (Nat.le_of_ble_eq_true rfl) ?_
  intro J hJ hF
  have wb := w.b
  refine hJ [] 400 _ _ _ _ _ _ ?_
  conv => whnf
  refine ⟨_, rfl, w.km, ?_⟩
  show j_go _ _ _ _ _ _ _ _ _ _ (j_up h m 0 (j_i (Int32.ofInt (0)))) _ _
  have st1 : j_Mf ρ m h (j_up h m 0 (j_i (Int32.ofInt (0)))) := j_Mf.fi w.km (by decide)
  generalize j_up h m 0 (j_i (Int32.ofInt (0))) = H1 at st1 ⊢
  have zG1 := congrArg Int32.toInt (st1.sz w.lG.1)
  have zR1 := congrArg Int32.toInt (st1.sz w.lR.1)
  have zQ1 := congrArg Int32.toInt (st1.sz w.lQ.1)
  have w1 := w.f st1
  have f1_0 := (j_Mf.rf : j_Mf ρ m h h).tr st1
  have q2 : (Int32.ofInt (0)).toInt = 0 := by decide
  have q3 : ((Int8.ofInt (10)).toInt32).toInt = 10 := by decide
  conv => whnf
  refine ⟨rfl, _, _, _, _, _, _, c_Mo_is, ⟨Nat.le_of_ble_eq_true rfl, Nat.le_of_ble_eq_true rfl, by (try dsimp only); omega, by (try dsimp only); omega⟩, fun _ _ z => False.elim z, ?_⟩
  rintro v9 h9 ⟨e9, r4, rfl, zr4, mr4⟩
  obtain rfl : H1 = h9 := e9.symm
  conv => whnf
  refine ⟨fun c5 => ?_, fun c5 => ?_⟩
  · have c5 : (r4).toInt = 0 := c5
    have q6 : (Int32.ofInt (1)).toInt = 1 := by decide
    conv => whnf
    refine ⟨w1.km, rfl, _, _, _, _, _, _, c_Mo_refuse w1, ⟨Nat.le_of_ble_eq_true rfl, Nat.le_of_ble_eq_true rfl, by (try dsimp only); omega, by (try dsimp only); omega⟩, fun _ _ z => False.elim z, ?_⟩
    rintro v9 H8 ⟨st9, r7, rfl⟩
    have zG10 := congrArg Int32.toInt (st9.sz w1.lG.1)
    have zR10 := congrArg Int32.toInt (st9.sz w1.lR.1)
    have zQ10 := congrArg Int32.toInt (st9.sz w1.lQ.1)
    have w10 := w1.f st9
    have f10_0 := f1_0.tr st9
    conv => whnf
    exact ⟨trivial, ⟨by (try dsimp only); omega, by (try dsimp only); omega⟩, f10_0, _, rfl⟩
  · have c5 : ¬ (r4).toInt = 0 := c5
    conv => whnf
    refine ⟨w1.km, rfl, _, _, _, _, _, _, c_Mo_spans w1, ⟨Nat.le_of_ble_eq_true rfl, Nat.le_of_ble_eq_true rfl, by (try dsimp only); omega, by (try dsimp only); omega⟩, fun _ _ z => False.elim z, ?_⟩
    rintro v9 H12 ⟨st13, r11, rfl, kr11, nr11⟩
    have zG14 := congrArg Int32.toInt (st13.sz w1.lG.1)
    have zR14 := congrArg Int32.toInt (st13.sz w1.lR.1)
    have zQ14 := congrArg Int32.toInt (st13.sz w1.lQ.1)
    have w14 := w1.f st13
    have f14_0 := f1_0.tr st13
    conv => whnf
    refine ⟨w14.km, rfl, _, _, _, _, _, _, c_Mo_labNow w14 kr11 (by omega) ⟨by omega, by omega⟩, ⟨Nat.le_of_ble_eq_true rfl, Nat.le_of_ble_eq_true rfl, by (try dsimp only); omega, by (try dsimp only); omega⟩, fun _ _ z => False.elim z, ?_⟩
    rintro v9 H16 ⟨st17, r15, rfl⟩
    have zG18 := congrArg Int32.toInt (st17.sz w14.lG.1)
    have zR18 := congrArg Int32.toInt (st17.sz w14.lR.1)
    have zQ18 := congrArg Int32.toInt (st17.sz w14.lQ.1)
    have w18 := w14.f st17
    have f18_0 := f14_0.tr st17
    conv => whnf
    exact ⟨trivial, ⟨by (try dsimp only); omega, by (try dsimp only); omega⟩, f18_0, _, rfl⟩
set_option maxHeartbeats 4000000 in
set_option maxRecDepth 20000 in
theorem c_Mo_fewest {ρ : Nat → Nat} {h : j_H} {m P G R Q : Nat}  (w : j_MX ρ h m P G R Q)  : j_Ct 178 6 138 3 60 [j_r (some m)] h (fun v h' => j_Mf ρ m h h' ∧ ∃ r, v = some (j_i r)) j_no := by
  refine j_intro km_178 (Nat.le_of_ble_eq_true rfl) ?_
  intro J hJ hF
  have wb := w.b
  refine hJ [] 400 _ _ _ _ _ _ ?_
  conv => whnf
  refine ⟨_, rfl, w.km, ?_⟩
  show j_go _ _ _ _ _ _ _ _ _ _ (j_up h m 0 (j_i (Int32.ofInt (0)))) _ _
  have st1 : j_Mf ρ m h (j_up h m 0 (j_i (Int32.ofInt (0)))) := j_Mf.fi w.km (by decide)
  generalize j_up h m 0 (j_i (Int32.ofInt (0))) = H1 at st1 ⊢
  have zG1 := congrArg Int32.toInt (st1.sz w.lG.1)
  have zR1 := congrArg Int32.toInt (st1.sz w.lR.1)
  have zQ1 := congrArg Int32.toInt (st1.sz w.lQ.1)
  have w1 := w.f st1
  have f1_0 := (j_Mf.rf : j_Mf ρ m h h).tr st1
  conv => whnf
  refine ⟨w1.km, rfl, _, _, _, _, _, _, c_Mo_spans w1, ⟨Nat.le_of_ble_eq_true rfl, Nat.le_of_ble_eq_true rfl, by (try dsimp only); omega, by (try dsimp only); omega⟩, fun _ _ z => False.elim z, ?_⟩
  rintro v9 H3 ⟨st4, r2, rfl, kr2, nr2⟩
  have zG5 := congrArg Int32.toInt (st4.sz w1.lG.1)
  have zR5 := congrArg Int32.toInt (st4.sz w1.lR.1)
  have zQ5 := congrArg Int32.toInt (st4.sz w1.lQ.1)
  have w5 := w1.f st4
  have f5_0 := f1_0.tr st4
  conv => whnf
  refine ⟨w5.km, rfl, _, _, _, _, _, _, c_Mo_fewestNow w5 kr2 (by omega), ⟨Nat.le_of_ble_eq_true rfl, Nat.le_of_ble_eq_true rfl, by (try dsimp only); omega, by (try dsimp only); omega⟩, fun _ _ z => False.elim z, ?_⟩
  rintro v9 H7 ⟨st8, r6, rfl⟩
  have zG9 := congrArg Int32.toInt (st8.sz w5.lG.1)
  have zR9 := congrArg Int32.toInt (st8.sz w5.lR.1)
  have zQ9 := congrArg Int32.toInt (st8.sz w5.lQ.1)
  have w9 := w5.f st8
  have f9_0 := f5_0.tr st8
  conv => whnf
  exact ⟨trivial, ⟨by (try dsimp only); omega, by (try dsimp only); omega⟩, f9_0, _, rfl⟩
set_option maxHeartbeats 4000000 in
set_option maxRecDepth 20000 in
theorem c_Mo_bestSwap {ρ : Nat → Nat} {h : j_H} {m P G R Q : Nat} {a : Int32} (w : j_MX ρ h m P G R Q)  : j_Ct 169 5 116 1 40 [j_r (some m), j_i a] h (fun v h' => j_Mf ρ m h h' ∧ ∃ r, v = some (j_i r)) j_no := by
  refine j_intro km_169 (Nat.le_of_ble_eq_true rfl) ?_
  intro J hJ hF
  have wb := w.b
  refine hJ [] 400 _ _ _ _ _ _ ?_
  conv => whnf
  refine ⟨_, rfl, w.km, ?_⟩
  show j_go _ _ _ _ _ _ _ _ _ _ (j_up h m 0 (j_i (Int32.ofInt (0)))) _ _
  have st1 : j_Mf ρ m h (j_up h m 0 (j_i (Int32.ofInt (0)))) := j_Mf.fi w.km (by decide)
  generalize j_up h m 0 (j_i (Int32.ofInt (0))) = H1 at st1 ⊢
  have zG1 := congrArg Int32.toInt (st1.sz w.lG.1)
  have zR1 := congrArg Int32.toInt (st1.sz w.lR.1)
  have zQ1 := congrArg Int32.toInt (st1.sz w.lQ.1)
  have w1 := w.f st1
  have f1_0 := (j_Mf.rf : j_Mf ρ m h h).tr st1
  conv => whnf
  refine ⟨w1.km, rfl, _, _, _, _, _, _, c_Mo_spans w1, ⟨Nat.le_of_ble_eq_true rfl, Nat.le_of_ble_eq_true rfl, by (try dsimp only); omega, by (try dsimp only); omega⟩, fun _ _ z => False.elim z, ?_⟩
  rintro v9 H3 ⟨st4, r2, rfl, kr2, nr2⟩
  have zG5 := congrArg Int32.toInt (st4.sz w1.lG.1)
  have zR5 := congrArg Int32.toInt (st4.sz w1.lR.1)
  have zQ5 := congrArg Int32.toInt (st4.sz w1.lQ.1)
  have w5 := w1.f st4
  have f5_0 := f1_0.tr st4
  conv => whnf
  refine ⟨w5.km, rfl, _, _, _, _, _, _, c_Mo_swapNow w5 kr2 (by omega), ⟨Nat.le_of_ble_eq_true rfl, Nat.le_of_ble_eq_true rfl, by (try dsimp only); omega, by (try dsimp only); omega⟩, fun _ _ z => False.elim z, ?_⟩
  rintro v9 H7 ⟨st8, r6, rfl⟩
  have zG9 := congrArg Int32.toInt (st8.sz w5.lG.1)
  have zR9 := congrArg Int32.toInt (st8.sz w5.lR.1)
  have zQ9 := congrArg Int32.toInt (st8.sz w5.lQ.1)
  have w9 := w5.f st8
  have f9_0 := f5_0.tr st8
  have q10 : (Int32.ofInt (-1)).toInt = -1 := by decide
  have u11 := j_ub r6
  conv => whnf
  refine ⟨fun c12 => ?_, fun c12 => ?_⟩
  · have c12 : ¬ (r6).toInt = (Int32.ofInt (-1)).toInt := c12
    conv => whnf
    refine ⟨fun c13 => ?_, fun c13 => ?_⟩
    · have c13 : (a).toInt = 0 := c13
      conv => whnf
      refine ⟨by decide, ?_⟩
      conv => whnf
      exact ⟨trivial, ⟨by (try dsimp only); omega, by (try dsimp only); omega⟩, f9_0, _, rfl⟩
    · have c13 : ¬ (a).toInt = 0 := c13
      conv => whnf
      refine ⟨by decide, ?_⟩
      conv => whnf
      exact ⟨trivial, ⟨by (try dsimp only); omega, by (try dsimp only); omega⟩, f9_0, _, rfl⟩
  · have c12 : ¬ ¬ (r6).toInt = (Int32.ofInt (-1)).toInt := c12
    conv => whnf
    exact ⟨trivial, ⟨by (try dsimp only); omega, by (try dsimp only); omega⟩, f9_0, _, rfl⟩
set_option maxHeartbeats 4000000 in
set_option maxRecDepth 20000 in
theorem c_Mo_wider {ρ : Nat → Nat} {h : j_H} {m P G R Q : Nat} {a : Int32} {b : Int32} (w : j_MX ρ h m P G R Q)  : j_Ct 225 6 135 2 80 [j_r (some m), j_i a, j_i b] h (fun v h' => j_Mf ρ m h h' ∧ ∃ r, v = some (j_i r)) j_no := by
  refine j_intro km_225 (Nat.le_of_ble_eq_true rfl) ?_
  intro J hJ hF
  have wb := w.b
  refine hJ [] 400 _ _ _ _ _ _ ?_
  conv => whnf
  refine ⟨_, rfl, w.km, ?_⟩
  show j_go _ _ _ _ _ _ _ _ _ _ (j_up h m 0 (j_i (Int32.ofInt (0)))) _ _
  have st1 : j_Mf ρ m h (j_up h m 0 (j_i (Int32.ofInt (0)))) := j_Mf.fi w.km (by decide)
  generalize j_up h m 0 (j_i (Int32.ofInt (0))) = H1 at st1 ⊢
  have zG1 := congrArg Int32.toInt (st1.sz w.lG.1)
  have zR1 := congrArg Int32.toInt (st1.sz w.lR.1)
  have zQ1 := congrArg Int32.toInt (st1.sz w.lQ.1)
  have w1 := w.f st1
  have f1_0 := (j_Mf.rf : j_Mf ρ m h h).tr st1
  conv => whnf
  refine ⟨w1.km, rfl, _, _, _, _, _, _, c_Mo_isGrain w1, ⟨Nat.le_of_ble_eq_true rfl, Nat.le_of_ble_eq_true rfl, by (try dsimp only); omega, by (try dsimp only); omega⟩, fun _ _ z => False.elim z, ?_⟩
  rintro v9 h9 ⟨e9, r2, rfl, zr2, mr2⟩
  obtain rfl : H1 = h9 := e9.symm
  conv => whnf
  refine ⟨fun c3 => ?_, fun c3 => ?_⟩
  · have c3 : (r2).toInt = 0 := c3
    have q4 : (Int32.ofInt (1)).toInt = 1 := by decide
    conv => whnf
    refine ⟨w1.km, rfl, _, _, _, _, _, _, c_Mo_refuse w1, ⟨Nat.le_of_ble_eq_true rfl, Nat.le_of_ble_eq_true rfl, by (try dsimp only); omega, by (try dsimp only); omega⟩, fun _ _ z => False.elim z, ?_⟩
    rintro v9 H6 ⟨st7, r5, rfl⟩
    have zG8 := congrArg Int32.toInt (st7.sz w1.lG.1)
    have zR8 := congrArg Int32.toInt (st7.sz w1.lR.1)
    have zQ8 := congrArg Int32.toInt (st7.sz w1.lQ.1)
    have w8 := w1.f st7
    have f8_0 := f1_0.tr st7
    conv => whnf
    exact ⟨trivial, ⟨by (try dsimp only); omega, by (try dsimp only); omega⟩, f8_0, _, rfl⟩
  · have c3 : ¬ (r2).toInt = 0 := c3
    conv => whnf
    refine ⟨w1.km, rfl, _, _, _, _, _, _, c_Mo_isRun w1, ⟨Nat.le_of_ble_eq_true rfl, Nat.le_of_ble_eq_true rfl, by (try dsimp only); omega, by (try dsimp only); omega⟩, fun _ _ z => False.elim z, ?_⟩
    rintro v9 h9 ⟨e9, r9, rfl, zr9, mr9⟩
    obtain rfl : H1 = h9 := e9.symm
    conv => whnf
    refine ⟨fun c10 => ?_, fun c10 => ?_⟩
    · have c10 : ¬ (r9).toInt = 0 := c10
      conv => whnf
      refine ⟨_, rfl, w1.km, fun o11 eo => ?_⟩
      obtain rfl : o11 = some R := eo.symm.trans w1.eR
      conv => whnf
      refine ⟨w1.lR.1, rfl, _, _, _, _, _, _, c_AL_get (h := H1) w1.lR j_Sc.rf j_sf_ok (by omega) (by omega), ⟨Nat.le_of_ble_eq_true rfl, Nat.le_of_ble_eq_true rfl, by (try dsimp only); omega, by (try dsimp only); omega⟩, fun _ _ z => False.elim z, ?_⟩
      rintro v9 h9 ⟨e9, g12, rfl, kg12, xg12⟩
      obtain rfl : H1 = h9 := e9.symm
      have feg12 := w1.aR.get (by omega) (by omega) xg12
      have zg12 := z_ml_get xg12
      have rg12 : ρ g12 = 2000 + b.toNatClampNeg := by rw [← zg12]; exact (w1.r (by rw [j_clamp (by omega)]; omega)).2.1
      conv => whnf
      refine ⟨Or.inr ⟨_, rfl, kg12⟩, ?_⟩
      conv => whnf
      refine ⟨_, rfl, kg12, fun x13 ex13 => ?_⟩
      conv => whnf
      refine ⟨fun c14 => ?_, fun c14 => ?_⟩
      · have c14 : (x13).toInt = 0 := c14
        conv => whnf
        refine ⟨w1.km, rfl, _, _, _, _, _, _, c_Mo_width w1 ⟨by omega, by omega⟩, ⟨Nat.le_of_ble_eq_true rfl, Nat.le_of_ble_eq_true rfl, by (try dsimp only); omega, by (try dsimp only); omega⟩, fun _ _ z => False.elim z, ?_⟩
        rintro v9 H16 ⟨st17, r15, rfl⟩
        have zG18 := congrArg Int32.toInt (st17.sz w1.lG.1)
        have zR18 := congrArg Int32.toInt (st17.sz w1.lR.1)
        have zQ18 := congrArg Int32.toInt (st17.sz w1.lQ.1)
        have fe18_g12 := st17.rA kg12 feg12
        have k18_g12 := st17.kd kg12
        have w18 := w1.f st17
        have f18_0 := f1_0.tr st17
        conv => whnf
        refine ⟨Or.inr rfl, ?_⟩
        conv => whnf
        refine ⟨_, rfl, k18_g12, ?_⟩
        show j_go _ _ _ _ _ _ _ _ _ _ (j_up H16 g12 6 (j_i (Int32.ofInt (1)))) _ _
        have v16 : j_it H16 g12 6 = Int32.ofInt 0 := by
          rw [(st17.ob kg12 (Or.inr rfl) (by omega) 6).1, ex13]
          exact Int32.toInt_inj.mp (c14.trans (by decide))
        obtain ⟨H19, eH19⟩ : ∃ q, q = j_up H16 g12 6 (j_i (Int32.ofInt (1))) := ⟨_, rfl⟩
        rw [← eH19]
        have w19 : j_MX ρ H19 m P G R Q := by
          rw [eH19]
          show j_MX ρ (j_wi H16 (j_u (j_it H16) g12 6 (Int32.ofInt 1))) m P G R Q
          exact w18.wr (it := j_u (j_it H16) g12 6 (Int32.ofInt 1)) (fun q f hq hn => by rw [j_uq, if_neg (fun y => hn ⟨by rw [y.1]; exact k18_g12, by omega⟩)])
        have zG19 : (j_it H19 G 2).toInt = (j_it H16 G 2).toInt := by rw [eH19, j_upk (show 2 ≠ 6 by decide)]
        have zR19 : (j_it H19 R 2).toInt = (j_it H16 R 2).toInt := by rw [eH19, j_upk (show 2 ≠ 6 by decide)]
        have zQ19 : (j_it H19 Q 2).toInt = (j_it H16 Q 2).toInt := by rw [eH19, j_upk (show 2 ≠ 6 by decide)]
        have k19_g12 : j_kd H19 g12 = some (.inl 11) := by rw [eH19]; exact k18_g12
        conv => whnf
        refine ⟨w19.km, rfl, _, _, _, _, _, _, c_Mo_width w19 ⟨by omega, by omega⟩, ⟨Nat.le_of_ble_eq_true rfl, Nat.le_of_ble_eq_true rfl, by (try dsimp only); omega, by (try dsimp only); omega⟩, fun _ _ z => False.elim z, ?_⟩
        rintro v9 H21 ⟨st22, r20, rfl⟩
        have zG23 := congrArg Int32.toInt (st22.sz w19.lG.1)
        have zR23 := congrArg Int32.toInt (st22.sz w19.lR.1)
        have zQ23 := congrArg Int32.toInt (st22.sz w19.lQ.1)
        have k23_g12 := st22.kd k19_g12
        have w23 := w19.f st22
        conv => whnf
        refine ⟨Or.inl rfl, ?_⟩
        conv => whnf
        refine ⟨_, rfl, k23_g12, ?_⟩
        show j_go _ _ _ _ _ _ _ _ _ _ (j_up H21 g12 6 (j_i (Int32.ofInt (0)))) _ _
        have st24 : j_Mf ρ m H16 (j_up H21 g12 6 (j_i (Int32.ofInt (0)))) := by
          rw [eH19] at st22
          exact j_Mf.back w18.km st22 k18_g12 (by decide) v16
        generalize j_up H21 g12 6 (j_i (Int32.ofInt (0))) = H24 at st24 ⊢
        have f24_0 := f18_0.tr st24
        conv => whnf
        exact ⟨trivial, ⟨by (try dsimp only); omega, by (try dsimp only); omega⟩, f24_0, _, rfl⟩
      · have c14 : ¬ (x13).toInt = 0 := c14
        have q25 : (Int32.ofInt (2)).toInt = 2 := by decide
        conv => whnf
        refine ⟨w1.km, rfl, _, _, _, _, _, _, c_Mo_refuse w1, ⟨Nat.le_of_ble_eq_true rfl, Nat.le_of_ble_eq_true rfl, by (try dsimp only); omega, by (try dsimp only); omega⟩, fun _ _ z => False.elim z, ?_⟩
        rintro v9 H27 ⟨st28, r26, rfl⟩
        have zG29 := congrArg Int32.toInt (st28.sz w1.lG.1)
        have zR29 := congrArg Int32.toInt (st28.sz w1.lR.1)
        have zQ29 := congrArg Int32.toInt (st28.sz w1.lQ.1)
        have fe29_g12 := st28.rA kg12 feg12
        have k29_g12 := st28.kd kg12
        have w29 := w1.f st28
        have f29_0 := f1_0.tr st28
        conv => whnf
        exact ⟨trivial, ⟨by (try dsimp only); omega, by (try dsimp only); omega⟩, f29_0, _, rfl⟩
    · have c10 : ¬ ¬ (r9).toInt = 0 := c10
      have q30 : (Int32.ofInt (1)).toInt = 1 := by decide
      conv => whnf
      refine ⟨w1.km, rfl, _, _, _, _, _, _, c_Mo_refuse w1, ⟨Nat.le_of_ble_eq_true rfl, Nat.le_of_ble_eq_true rfl, by (try dsimp only); omega, by (try dsimp only); omega⟩, fun _ _ z => False.elim z, ?_⟩
      rintro v9 H32 ⟨st33, r31, rfl⟩
      have zG34 := congrArg Int32.toInt (st33.sz w1.lG.1)
      have zR34 := congrArg Int32.toInt (st33.sz w1.lR.1)
      have zQ34 := congrArg Int32.toInt (st33.sz w1.lQ.1)
      have w34 := w1.f st33
      have f34_0 := f1_0.tr st33
      conv => whnf
      exact ⟨trivial, ⟨by (try dsimp only); omega, by (try dsimp only); omega⟩, f34_0, _, rfl⟩
set_option maxHeartbeats 4000000 in
set_option maxRecDepth 20000 in
theorem c_Mo_isSound {ρ : Nat → Nat} {h : j_H} {m P G R Q : Nat}  (w : j_MX ρ h m P G R Q)  : j_Ct 185 17 788 3 60 [j_r (some m)] h (fun v h' => j_Mf ρ m h h' ∧ ∃ r, v = some (j_i r) ∧ (r = 0 ∨ r = 1)) j_no := by
  refine j_intro km_185 (Nat.le_of_ble_eq_true rfl) ?_
  intro J hJ hF
  have wb := w.b
  refine hJ [] 400 _ _ _ _ _ _ ?_
  conv => whnf
  refine ⟨_, rfl, w.km, ?_⟩
  show j_go _ _ _ _ _ _ _ _ _ _ (j_up h m 0 (j_i (Int32.ofInt (0)))) _ _
  have st1 : j_Mf ρ m h (j_up h m 0 (j_i (Int32.ofInt (0)))) := j_Mf.fi w.km (by decide)
  generalize j_up h m 0 (j_i (Int32.ofInt (0))) = H1 at st1 ⊢
  have zG1 := congrArg Int32.toInt (st1.sz w.lG.1)
  have zR1 := congrArg Int32.toInt (st1.sz w.lR.1)
  have zQ1 := congrArg Int32.toInt (st1.sz w.lQ.1)
  have w1 := w.f st1
  have f1_0 := (j_Mf.rf : j_Mf ρ m h h).tr st1
  conv => whnf
  refine ⟨w1.km, rfl, _, _, _, _, _, _, c_Mo_spans w1, ⟨Nat.le_of_ble_eq_true rfl, Nat.le_of_ble_eq_true rfl, by (try dsimp only); omega, by (try dsimp only); omega⟩, fun _ _ z => False.elim z, ?_⟩
  rintro v9 H3 ⟨st4, r2, rfl, kr2, nr2⟩
  have zG5 := congrArg Int32.toInt (st4.sz w1.lG.1)
  have zR5 := congrArg Int32.toInt (st4.sz w1.lR.1)
  have zQ5 := congrArg Int32.toInt (st4.sz w1.lQ.1)
  have w5 := w1.f st4
  have f5_0 := f1_0.tr st4
  conv => whnf
  refine ⟨w5.km, rfl, _, _, _, _, _, _, c_Mo_isSoundNow w5 kr2 (by omega), ⟨Nat.le_of_ble_eq_true rfl, Nat.le_of_ble_eq_true rfl, by (try dsimp only); omega, by (try dsimp only); omega⟩, fun _ _ z => False.elim z, ?_⟩
  rintro v9 H7 ⟨st8, r6, rfl, zr6⟩
  have zG9 := congrArg Int32.toInt (st8.sz w5.lG.1)
  have zR9 := congrArg Int32.toInt (st8.sz w5.lR.1)
  have zQ9 := congrArg Int32.toInt (st8.sz w5.lQ.1)
  have w9 := w5.f st8
  have f9_0 := f5_0.tr st8
  conv => whnf
  exact ⟨zr6, ⟨by (try dsimp only); omega, by (try dsimp only); omega⟩, f9_0, _, rfl, zr6⟩
