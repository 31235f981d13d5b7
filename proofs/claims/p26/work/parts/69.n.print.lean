/-! the model: print, state for state -/
theorem q_print_c {A B : j_Z} {a b : Int32} (e : z_eq A B) (P : ∀ k, z_lt A 2 k → z_lt A 1 (A.2.2.2.2 k 0).toNatClampNeg ∧ ((A.2.2.2.2 k 2).toInt < 0 ∨ (A.2.2.2.2 k 2).toNatClampNeg < k)) : q_print A a b = q_print B a b := by
  by_cases o : z_okp A a b
  · have o' := (z_okp_c e).mp o
    by_cases q : z_okq A a b
    · exact ((j_cqp o).trans (j_cqp q)).trans ((j_cqp o').trans (j_cqp ((z_okq_c e P o).mp q))).symm
    · exact ((j_cqp o).trans (j_cqn q)).trans ((j_cqp o').trans (j_cqn (fun z => q ((z_okq_c e P o).mpr z)))).symm
  · exact (j_cqn o).trans (j_cqn (fun z => o ((z_okp_c e).mpr z))).symm
theorem j_MX.Pp {ρ : Nat → Nat} {h : j_H} {m P G R Q : Nat} (w : j_MX ρ h m P G R Q) : ∀ k, z_lt (z_d h m P G R Q) 2 k → z_lt (z_d h m P G R Q) 1 ((z_d h m P G R Q).2.2.2.2 k 0).toNatClampNeg ∧ (((z_d h m P G R Q).2.2.2.2 k 2).toInt < 0 ∨ ((z_d h m P G R Q).2.2.2.2 k 2).toNatClampNeg < k) := fun k hk => by
  have hk : (k : Int) < (j_it h Q 2).toInt := hk
  obtain ⟨-, g1, g2, g3, g4, g5⟩ := w.p hk
  refine ⟨?_, ?_⟩
  · show ((j_it h (z_ml h Q k) 0).toNatClampNeg : Int) < (j_it h R 2).toInt
    rw [j_clamp g3]; exact g4
  · show (j_it h (z_ml h Q k) 2).toInt < 0 ∨ (j_it h (z_ml h Q k) 2).toNatClampNeg < k
    rcases g5 with q | ⟨q1, q2⟩
    · exact Or.inl (by omega)
    · have := j_clamp q1
      exact Or.inr (by omega)
set_option maxRecDepth 20000 in
theorem c_Mo_isRunx {ρ : Nat → Nat} {h : j_H} {m P G R Q : Nat} {a : Int32} (w : j_MX ρ h m P G R Q) : j_Ct 184 1 22 0 0 [j_r (some m), j_i a] h (fun v h' => h' = h ∧ ∃ r, v = some (j_i r) ∧ (((0 ≤ a.toInt ∧ a.toInt < (j_it h R 2).toInt) ∧ r = Int32.ofInt 1) ∨ (¬ (0 ≤ a.toInt ∧ a.toInt < (j_it h R 2).toInt) ∧ r = Int32.ofInt 0))) j_no := by
  refine j_intro km_184 (Nat.le_of_ble_eq_true rfl) ?_
  intro J hJ hF
  have wb := w.b
  have z0 : (Int32.ofInt 0).toInt = 0 := by decide
  have zs := j_sub1 (x := j_it h R 2) (by omega)
  refine hJ [] 400 _ _ _ _ _ _ ?_
  conv => whnf
  refine ⟨_, rfl, w.km, fun o eo => ?_⟩
  obtain rfl : o = some R := eo.symm.trans w.eR
  conv => whnf
  refine ⟨w.lR.1, rfl, _, _, _, _, _, _, c_AL_size (h := h) w.lR j_Sc.rf j_sf_ok, ⟨Nat.le_of_ble_eq_true rfl, Nat.le_of_ble_eq_true rfl, Nat.le_of_ble_eq_true rfl, Nat.le_of_ble_eq_true rfl⟩, fun _ _ z => False.elim z, ?_⟩
  rintro v9 h9 ⟨e9, rfl⟩
  obtain rfl : h = h9 := e9.symm
  conv => whnf
  refine ⟨rfl, _, _, _, _, _, _, c_Mo_isx, ⟨Nat.le_of_ble_eq_true rfl, Nat.le_of_ble_eq_true rfl, Nat.le_of_ble_eq_true rfl, Nat.le_of_ble_eq_true rfl⟩, fun _ _ z => False.elim z, ?_⟩
  rintro v9 h9 ⟨e9, r, rfl, zr⟩
  obtain rfl : h = h9 := e9.symm
  conv => whnf
  refine ⟨j_zw zr, ⟨Nat.le_of_ble_eq_true rfl, Nat.le_of_ble_eq_true rfl⟩, rfl, r, rfl, ?_⟩
  rcases zr with ⟨q1, q2, q3⟩ | ⟨q1, q2⟩
  · exact Or.inl ⟨⟨by omega, by omega⟩, q3⟩
  · exact Or.inr ⟨by omega, q2⟩
set_option maxHeartbeats 4000000 in
set_option maxRecDepth 20000 in
theorem c_Mo_printz {ρ : Nat → Nat} {h : j_H} {m P G R Q : Nat} {a : Int32} {b : Int32} (w : j_MX ρ h m P G R Q)  : j_Ct 207 16 763 2 50 [j_r (some m), j_i a, j_i b] h (z_MQ m P G R Q h (q_print (z_d h m P G R Q) a b) (j_it h Q 2) (n_print (z_d h m P G R Q) a b)) j_no := by
  refine j_intro km_207 (Nat.le_of_ble_eq_true rfl) ?_
  intro J hJ hF
  have wb := w.b
  refine hJ [] 400 _ _ _ _ _ _ ?_
  conv => whnf
  refine ⟨_, rfl, w.km, ?_⟩
  show j_go _ _ _ _ _ _ _ _ _ _ (j_up h m 0 (j_i (Int32.ofInt (0)))) _ _
  have st1 : j_Mf ρ m h (j_up h m 0 (j_i (Int32.ofInt (0)))) := j_Mf.fi w.km (by decide)
  have tH1 : j_it (j_up h m 0 (j_i (Int32.ofInt (0)))) m 0 = Int32.ofInt 0 := j_upi
  generalize j_up h m 0 (j_i (Int32.ofInt (0))) = H1 at st1 tH1 ⊢
  have zG1 := congrArg Int32.toInt (st1.sz w.lG.1)
  have zR1 := congrArg Int32.toInt (st1.sz w.lR.1)
  have zQ1 := congrArg Int32.toInt (st1.sz w.lQ.1)
  have w1 := w.f st1
  have f1_0 := (j_Mf.rf : j_Mf ρ m h h).tr st1
  have QP : q_print (z_d h m P G R Q) a b = q_print (z_d H1 m P G R Q) a b := q_print_c (z_mfd w st1).sy w.Pp
  conv => whnf
  refine ⟨w1.km, rfl, _, _, _, _, _, _, c_Mo_isRunx w1, ⟨Nat.le_of_ble_eq_true rfl, Nat.le_of_ble_eq_true rfl, Nat.le_of_ble_eq_true rfl, Nat.le_of_ble_eq_true rfl⟩, fun _ _ z => False.elim z, ?_⟩
  rintro v9 h9 ⟨e9, r2, rfl, zr2⟩
  have mr2 := j_zy zr2
  obtain rfl : H1 = h9 := e9.symm
  conv => whnf
  refine ⟨fun c3 => ?_, fun c3 => ?_⟩
  · have c3 : (r2).toInt = 0 := c3
    have q4 : (Int32.ofInt (1)).toInt = 1 := by decide
    conv => whnf
    refine ⟨w1.km, rfl, _, _, _, _, _, _, c_Mo_refusex w1.km, ⟨Nat.le_of_ble_eq_true rfl, Nat.le_of_ble_eq_true rfl, Nat.le_of_ble_eq_true rfl, Nat.le_of_ble_eq_true rfl⟩, fun _ _ z => False.elim z, ?_⟩
    rintro v9 H6 ⟨rfl, eH6⟩
    have st7 : j_Mf ρ m H1 H6 := by rw [eH6]; exact j_Mf.fi w1.km (by decide)
    have tH6 : j_it H6 m 0 = Int32.ofInt 1 := by rw [eH6]; exact j_upi
    have zG8 := congrArg Int32.toInt (st7.sz w1.lG.1)
    have zR8 := congrArg Int32.toInt (st7.sz w1.lR.1)
    have zQ8 := congrArg Int32.toInt (st7.sz w1.lQ.1)
    have w8 := w1.f st7
    have f8_0 := f1_0.tr st7
    conv => whnf
    exact ⟨trivial, ⟨Nat.le_of_ble_eq_true rfl, Nat.le_of_ble_eq_true rfl⟩, z_MQ.no w f8_0 tH6 (QP.trans (j_cqn (fun z => by have z1 : a.toInt < (j_it H1 R 2).toInt := z.1.2; have z0 := z.1.1; omega))) (by decide)⟩
  · have c3 : ¬ (r2).toInt = 0 := c3
    conv => whnf
    refine ⟨_, rfl, w1.km, fun o9 eo => ?_⟩
    obtain rfl : o9 = some Q := eo.symm.trans w1.eQ
    conv => whnf
    refine ⟨w1.lQ.1, rfl, _, _, _, _, _, _, c_AL_size (h := H1) w1.lQ j_Sc.rf j_sf_ok, ⟨Nat.le_of_ble_eq_true rfl, Nat.le_of_ble_eq_true rfl, Nat.le_of_ble_eq_true rfl, Nat.le_of_ble_eq_true rfl⟩, fun _ _ z => False.elim z, ?_⟩
    rintro v9 h9 ⟨e9, rfl⟩
    obtain rfl : H1 = h9 := e9.symm
    have q10 := j_sub1 (x := (j_it H1 Q 2)) (by omega)
    have q11 : (Int32.ofInt (-1)).toInt = -1 := by decide
    conv => whnf
    refine ⟨rfl, _, _, _, _, _, _, c_Mo_isx, ⟨Nat.le_of_ble_eq_true rfl, Nat.le_of_ble_eq_true rfl, Nat.le_of_ble_eq_true rfl, Nat.le_of_ble_eq_true rfl⟩, fun _ _ z => False.elim z, ?_⟩
    rintro v9 h9 ⟨e9, r12, rfl, zr12⟩
    have mr12 := j_zx zr12
    obtain rfl : H1 = h9 := e9.symm
    conv => whnf
    refine ⟨fun c13 => ?_, fun c13 => ?_⟩
    · have c13 : ¬ (r12).toInt = 0 := c13
      have OKP : z_okp (z_d H1 m P G R Q) a b := by
        refine ⟨⟨by omega, show a.toInt < (j_it H1 R 2).toInt by omega⟩, ?_⟩
        show b.toInt = -1 ∨ (0 ≤ b.toInt ∧ b.toInt < (j_it H1 Q 2).toInt)
        omega
      have la : (a.toNatClampNeg : Int) < (j_it H1 R 2).toInt := by rw [j_clamp (by omega)]; omega
      have la0 : z_lt (z_d H1 m P G R Q) 1 a.toNatClampNeg := la
      conv => whnf
      refine ⟨_, rfl, w1.km, fun o14 eo => ?_⟩
      obtain rfl : o14 = some Q := eo.symm.trans w1.eQ
      conv => whnf
      refine ⟨w1.lQ.1, rfl, _, _, _, _, _, _, c_AL_size (h := H1) w1.lQ j_Sc.rf j_sf_ok, ⟨Nat.le_of_ble_eq_true rfl, Nat.le_of_ble_eq_true rfl, Nat.le_of_ble_eq_true rfl, Nat.le_of_ble_eq_true rfl⟩, fun _ _ z => False.elim z, ?_⟩
      rintro v9 h9 ⟨e9, rfl⟩
      obtain rfl : H1 = h9 := e9.symm
      have q15 : ((Int8.ofInt (10)).toInt32).toInt = 10 := by decide
      conv => whnf
      refine ⟨fun c16 => ?_, fun c16 => ?_⟩
      · have c16 : ((j_it H1 Q 2)).toInt = ((Int8.ofInt (10)).toInt32).toInt := c16
        have q17 : (Int32.ofInt (2)).toInt = 2 := by decide
        conv => whnf
        refine ⟨w1.km, rfl, _, _, _, _, _, _, c_Mo_refusex w1.km, ⟨Nat.le_of_ble_eq_true rfl, Nat.le_of_ble_eq_true rfl, Nat.le_of_ble_eq_true rfl, Nat.le_of_ble_eq_true rfl⟩, fun _ _ z => False.elim z, ?_⟩
        rintro v9 H19 ⟨rfl, eH19⟩
        have st20 : j_Mf ρ m H1 H19 := by rw [eH19]; exact j_Mf.fi w1.km (by decide)
        have tH19 : j_it H19 m 0 = Int32.ofInt 2 := by rw [eH19]; exact j_upi
        have zG21 := congrArg Int32.toInt (st20.sz w1.lG.1)
        have zR21 := congrArg Int32.toInt (st20.sz w1.lR.1)
        have zQ21 := congrArg Int32.toInt (st20.sz w1.lQ.1)
        have w21 := w1.f st20
        have f21_0 := f1_0.tr st20
        conv => whnf
        exact ⟨trivial, ⟨Nat.le_of_ble_eq_true rfl, Nat.le_of_ble_eq_true rfl⟩, z_MQ.no w f21_0 tH19 (QP.trans ((j_cqp OKP).trans (j_cqn (fun z => by have z1 : (j_it H1 Q 2).toInt < 10 := z.1; omega)))) (by decide)⟩
      · have c16 : ¬ ((j_it H1 Q 2)).toInt = ((Int8.ofInt (10)).toInt32).toInt := c16
        conv => whnf
        refine ⟨_, rfl, w1.km, fun o22 eo => ?_⟩
        obtain rfl : o22 = some R := eo.symm.trans w1.eR
        conv => whnf
        refine ⟨w1.lR.1, rfl, _, _, _, _, _, _, c_AL_get (h := H1) w1.lR j_Sc.rf j_sf_ok (by omega) (by omega), ⟨Nat.le_of_ble_eq_true rfl, Nat.le_of_ble_eq_true rfl, Nat.le_of_ble_eq_true rfl, Nat.le_of_ble_eq_true rfl⟩, fun _ _ z => False.elim z, ?_⟩
        rintro v9 h9 ⟨e9, g23, rfl, kg23, xg23⟩
        obtain rfl : H1 = h9 := e9.symm
        have zg23 := z_ml_get xg23
        conv => whnf
        refine ⟨Or.inr ⟨_, rfl, kg23⟩, ?_⟩
        conv => whnf
        refine ⟨_, rfl, kg23, fun x24 ex24 => ?_⟩
        have r6 : (z_d H1 m P G R Q).2.2.2.1 a.toNatClampNeg 6 = if x24.toInt = 0 then Int32.ofInt 1 else Int32.ofInt 0 := by
          rw [← ex24, ← zg23]
          rfl
        conv => whnf
        refine ⟨fun c25 => ?_, fun c25 => ?_⟩
        · have c25 : ¬ (x24).toInt = 0 := c25
          have q26 : (Int32.ofInt (2)).toInt = 2 := by decide
          conv => whnf
          refine ⟨w1.km, rfl, _, _, _, _, _, _, c_Mo_refusex w1.km, ⟨Nat.le_of_ble_eq_true rfl, Nat.le_of_ble_eq_true rfl, Nat.le_of_ble_eq_true rfl, Nat.le_of_ble_eq_true rfl⟩, fun _ _ z => False.elim z, ?_⟩
          rintro v9 H28 ⟨rfl, eH28⟩
          have st29 : j_Mf ρ m H1 H28 := by rw [eH28]; exact j_Mf.fi w1.km (by decide)
          have tH28 : j_it H28 m 0 = Int32.ofInt 2 := by rw [eH28]; exact j_upi
          have zG30 := congrArg Int32.toInt (st29.sz w1.lG.1)
          have zR30 := congrArg Int32.toInt (st29.sz w1.lR.1)
          have zQ30 := congrArg Int32.toInt (st29.sz w1.lQ.1)
          have w30 := w1.f st29
          have f30_0 := f1_0.tr st29
          conv => whnf
          exact ⟨trivial, ⟨Nat.le_of_ble_eq_true rfl, Nat.le_of_ble_eq_true rfl⟩, z_MQ.no w f30_0 tH28 (QP.trans ((j_cqp OKP).trans (j_cqn (fun z => z.2.1 (by rw [r6, if_neg c25]; decide))))) (by decide)⟩
        · have c25 : ¬ ¬ (x24).toInt = 0 := c25
          have q31 : (Int32.ofInt (-1)).toInt = -1 := by decide
          have u32 := j_ub b
          conv => whnf
          refine ⟨fun c33 => ?_, fun c33 => ?_⟩
          · have c33 : (b).toInt = (Int32.ofInt (-1)).toInt := c33
            conv => whnf
            refine ⟨_, rfl, w1.km, fun o34 eo => ?_⟩
            obtain rfl : o34 = some Q := eo.symm.trans w1.eQ
            have q35 : (Int32.ofInt (3)).toInt = 3 := by decide
            conv => whnf
            have clb36 := j_clamp (i := Int32.ofInt (3)) (by omega)
            refine ⟨⟨fun z => absurd (j_l0.mp z) (by omega), by omega⟩, ⟨Nat.le_of_ble_eq_true rfl, Nat.le_of_ble_eq_true rfl⟩, fun b36 hbb36 => ?_⟩
            show j_go _ _ _ _ _ _ _ _ _ _ (j_nw H1 b36 (.inr 0) (Int32.ofInt (3)).toNatClampNeg) _ _
            have st37 : j_Mf ρ m H1 (j_nw H1 b36 (.inr 0) (Int32.ofInt (3)).toNatClampNeg) := j_Mf.nw w1.km hbb36 (fun _ z => nomatch z)
            have kb36 : j_kd (j_nw H1 b36 (.inr 0) (Int32.ofInt (3)).toNatClampNeg) b36 = some (.inr 0) := if_pos rfl
            have nb36 : j_ln (j_nw H1 b36 (.inr 0) (Int32.ofInt (3)).toNatClampNeg) b36 = (Int32.ofInt (3)).toNatClampNeg := if_pos rfl
            have rb36 := w1.rz b36 hbb36
            have tH37 : j_it (j_nw H1 b36 (.inr 0) (Int32.ofInt (3)).toNatClampNeg) m 0 = Int32.ofInt 0 := (if_neg (fun z => by have := w1.km; rw [z, hbb36] at this; cases this)).trans tH1
            generalize j_nw H1 b36 (.inr 0) (Int32.ofInt (3)).toNatClampNeg = H37 at st37 kb36 nb36 tH37 ⊢
            have zG38 := congrArg Int32.toInt (st37.sz w1.lG.1)
            have zR38 := congrArg Int32.toInt (st37.sz w1.lR.1)
            have zQ38 := congrArg Int32.toInt (st37.sz w1.lQ.1)
            have w38 := w1.f st37
            have f38_0 := f1_0.tr st37
            have q39 : (Int32.ofInt (0)).toInt = 0 := by decide
            conv => whnf
            refine ⟨_, rfl, kb36, j_vp (by omega) (by omega), ?_⟩
            have ct40 : j_it (j_ui H37 b36 (Int32.ofInt (0)).toNatClampNeg a) b36 0 = a := by rw [show (Int32.ofInt (0)).toNatClampNeg = 0 by decide]; exact (show j_u (j_it H37) b36 0 a b36 0 = _ from j_u_at)
            show j_go _ _ _ _ _ _ _ _ _ _ (j_ui H37 b36 (Int32.ofInt (0)).toNatClampNeg a) _ _
            have st41 : j_Mf ρ m H37 (j_ui H37 b36 (Int32.ofInt (0)).toNatClampNeg a) := j_Mf.ar w38.km kb36 (⟨by omega, fun z => absurd z (by omega)⟩)
            have tH41 : j_it (j_ui H37 b36 (Int32.ofInt (0)).toNatClampNeg a) m 0 = Int32.ofInt 0 := (j_t0i w38.km kb36 (by decide)).trans tH37
            generalize j_ui H37 b36 (Int32.ofInt (0)).toNatClampNeg a = H41 at st41 ct40 tH41 ⊢
            have zG41 := congrArg Int32.toInt (st41.sz w38.lG.1)
            have zR41 := congrArg Int32.toInt (st41.sz w38.lR.1)
            have zQ41 := congrArg Int32.toInt (st41.sz w38.lQ.1)
            have n41_b36 := st41.ln kb36
            have k41_b36 := st41.kd kb36
            have w41 := w38.f st41
            have f41_0 := f38_0.tr st41
            conv => whnf
            refine ⟨_, rfl, w41.km, fun o42 eo => ?_⟩
            obtain rfl : o42 = some P := eo.symm.trans w41.eP
            conv => whnf
            refine ⟨_, rfl, w41.km, fun o43 eo => ?_⟩
            obtain rfl : o43 = some R := eo.symm.trans w41.eR
            conv => whnf
            refine ⟨w41.lR.1, rfl, _, _, _, _, _, _, c_AL_get (h := H41) w41.lR j_Sc.rf j_sf_ok (by omega) (by omega), ⟨Nat.le_of_ble_eq_true rfl, Nat.le_of_ble_eq_true rfl, Nat.le_of_ble_eq_true rfl, Nat.le_of_ble_eq_true rfl⟩, fun _ _ z => False.elim z, ?_⟩
            rintro v9 h9 ⟨e9, g44, rfl, kg44, xg44⟩
            obtain rfl : H41 = h9 := e9.symm
            have feg44 := w41.aR.get (by omega) (by omega) xg44
            conv => whnf
            refine ⟨Or.inr ⟨_, rfl, kg44⟩, ?_⟩
            conv => whnf
            refine ⟨_, rfl, kg44, fun x45 ex45 => ?_⟩
            have hx45 : 0 ≤ x45.toInt ∧ x45.toInt ≤ 1 := by rw [← ex45]; exact feg44
            have n46 := w41.nP
            conv => whnf
            refine ⟨_, _, rfl, w41.kP, rfl, j_vp (by omega) (by omega), fun x47 ex47 => ?_⟩
            have hx47 : x47.toInt ≠ 0 := j_nzP w41 ex47 (by omega) (by omega)
            have vx47 : x47 = (z_d h m P G R Q).1 (j_pf ((z_d h m P G R Q).2.2.2.1 a.toNatClampNeg 1)) := by
              have e41 := z_mfd w f41_0
              have la9 : z_lt (z_d H41 m P G R Q) 1 a.toNatClampNeg := by
                show (a.toNatClampNeg : Int) < (j_it H41 R 2).toInt
                rw [j_clamp (by omega)]; omega
              rw [← e41.2.2.2.1 a.toNatClampNeg 1 la9 (by decide), ← z_pc_c e41]
              have e45 : (z_d H41 m P G R Q).2.2.2.1 a.toNatClampNeg 1 = x45 := by
                rw [← ex45, ← z_ml_get xg44]
                rfl
              rw [e45]
              rcases j_pf34' x45 with ⟨q1, q2⟩ | ⟨q1, q2⟩
              · rw [q2, ← ex47, show x45.toNatClampNeg = 0 by have := j_clamp (i := x45) (by omega); omega]
                rfl
              · rw [q2, ← ex47, show x45.toNatClampNeg = 1 by have := j_clamp (i := x45) (by omega); omega]
                rfl
            have q48 : (Int32.ofInt (1)).toInt = 1 := by decide
            conv => whnf
            refine ⟨_, rfl, k41_b36, j_vp (by omega) (by omega), ?_⟩
            have ct49 : j_it (j_ui H41 b36 (Int32.ofInt (1)).toNatClampNeg x47) b36 0 = a := by rw [show (Int32.ofInt (1)).toNatClampNeg = 1 by decide]; exact (show j_u (j_it H41) b36 1 x47 b36 0 = j_it H41 b36 0 from j_u_nk (by decide)).trans ct40
            have ct50 : j_it (j_ui H41 b36 (Int32.ofInt (1)).toNatClampNeg x47) b36 1 = x47 := by rw [show (Int32.ofInt (1)).toNatClampNeg = 1 by decide]; exact (show j_u (j_it H41) b36 1 x47 b36 1 = _ from j_u_at)
            show j_go _ _ _ _ _ _ _ _ _ _ (j_ui H41 b36 (Int32.ofInt (1)).toNatClampNeg x47) _ _
            have st51 : j_Mf ρ m H41 (j_ui H41 b36 (Int32.ofInt (1)).toNatClampNeg x47) := j_Mf.ar w41.km k41_b36 (⟨by omega, fun z => absurd z (by omega)⟩)
            have tH51 : j_it (j_ui H41 b36 (Int32.ofInt (1)).toNatClampNeg x47) m 0 = Int32.ofInt 0 := (j_t0i w41.km k41_b36 (by decide)).trans tH41
            generalize j_ui H41 b36 (Int32.ofInt (1)).toNatClampNeg x47 = H51 at st51 ct49 ct50 tH51 ⊢
            have zG51 := congrArg Int32.toInt (st51.sz w41.lG.1)
            have zR51 := congrArg Int32.toInt (st51.sz w41.lR.1)
            have zQ51 := congrArg Int32.toInt (st51.sz w41.lQ.1)
            have n51_b36 := st51.ln k41_b36
            have k51_b36 := st51.kd k41_b36
            have w51 := w41.f st51
            have f51_0 := f41_0.tr st51
            have q52 : (Int32.ofInt (2)).toInt = 2 := by decide
            conv => whnf
            refine ⟨_, rfl, k51_b36, j_vp (by omega) (by omega), ?_⟩
            have ct53 : j_it (j_ui H51 b36 (Int32.ofInt (2)).toNatClampNeg b) b36 0 = a := by rw [show (Int32.ofInt (2)).toNatClampNeg = 2 by decide]; exact (show j_u (j_it H51) b36 2 b b36 0 = j_it H51 b36 0 from j_u_nk (by decide)).trans ct49
            have ct54 : j_it (j_ui H51 b36 (Int32.ofInt (2)).toNatClampNeg b) b36 1 = x47 := by rw [show (Int32.ofInt (2)).toNatClampNeg = 2 by decide]; exact (show j_u (j_it H51) b36 2 b b36 1 = j_it H51 b36 1 from j_u_nk (by decide)).trans ct50
            have ct55 : j_it (j_ui H51 b36 (Int32.ofInt (2)).toNatClampNeg b) b36 2 = b := by rw [show (Int32.ofInt (2)).toNatClampNeg = 2 by decide]; exact (show j_u (j_it H51) b36 2 b b36 2 = _ from j_u_at)
            show j_go _ _ _ _ _ _ _ _ _ _ (j_ui H51 b36 (Int32.ofInt (2)).toNatClampNeg b) _ _
            have st56 : j_Mf ρ m H51 (j_ui H51 b36 (Int32.ofInt (2)).toNatClampNeg b) := j_Mf.ar w51.km k51_b36 (⟨by omega, fun z => absurd z (by omega)⟩)
            have tH56 : j_it (j_ui H51 b36 (Int32.ofInt (2)).toNatClampNeg b) m 0 = Int32.ofInt 0 := (j_t0i w51.km k51_b36 (by decide)).trans tH51
            generalize j_ui H51 b36 (Int32.ofInt (2)).toNatClampNeg b = H56 at st56 ct53 ct54 ct55 tH56 ⊢
            have zG56 := congrArg Int32.toInt (st56.sz w51.lG.1)
            have zR56 := congrArg Int32.toInt (st56.sz w51.lR.1)
            have zQ56 := congrArg Int32.toInt (st56.sz w51.lQ.1)
            have n56_b36 := st56.ln k51_b36
            have k56_b36 := st56.kd k51_b36
            have w56 := w51.f st56
            have f56_0 := f51_0.tr st56
            have zb := w56.b
            obtain ⟨ρ1, w1, ga⟩ := w56.roleQ k56_b36 rb36
            obtain ⟨kL, z0, z1, arr, t, e1, e2, e3, e4, e5, e6⟩ := id w1.lQ
            conv => whnf
            refine ⟨kL, rfl, _, _, _, _, _, _, c_AL_add_53 kL e1 e2 e3 e5.2 z0 e4 (by omega) e5.1 (fun j hj => by obtain ⟨y, y1, y2⟩ := e6 j hj; exact ⟨y, y1, Or.inr y2⟩) (Or.inr k56_b36), ⟨Nat.le_of_ble_eq_true rfl, Nat.le_of_ble_eq_true rfl, Nat.le_of_ble_eq_true rfl, Nat.le_of_ble_eq_true rfl⟩, fun _ _ z => False.elim z, ?_⟩
            rintro v9 H57 ⟨⟨rr9, rfl⟩, ad⟩
            have wz := w1.adQ e1 ad (by omega) k56_b36 ⟨ga, by omega, by rw [ct53]; omega, by rw [ct53]; omega, by rw [ct55, j_clamp (by omega)]; omega⟩
            have zz := wz.b
            have iG := (ad.li kL e1 e2 w1.ap.2.1.sy w1.lG).2.1 1
            have iR := (ad.li kL e1 e2 w1.ap.2.2.sy w1.lR).2.1 1
            have mg : j_Mg m G R Q h H57 := j_Mg.ad w f56_0 ad (Or.inr (Or.inr rfl)) e1 e2 e3 (fun L9 q n => by
              rcases q with rfl | rfl | rfl
              · exact iG.2
              · exact iR.2
              · exact absurd rfl n)
            conv => whnf
            refine ⟨_, rfl, wz.km, fun o58 eo => ?_⟩
            obtain rfl : o58 = some Q := eo.symm.trans wz.eQ
            conv => whnf
            refine ⟨wz.lQ.1, rfl, _, _, _, _, _, _, c_AL_size (h := H57) wz.lQ j_Sc.rf j_sf_ok, ⟨Nat.le_of_ble_eq_true rfl, Nat.le_of_ble_eq_true rfl, Nat.le_of_ble_eq_true rfl, Nat.le_of_ble_eq_true rfl⟩, fun _ _ z => False.elim z, ?_⟩
            rintro v9 h9 ⟨e9, rfl⟩
            obtain rfl : H57 = h9 := e9.symm
            have q59 := j_sub1 (x := (j_it H57 Q 2)) (by omega)
            conv => whnf
            have zq : z_eq (z_d H57 m P G R Q) (n_print (z_d h m P G R Q) a b) := (z_addQ w1 e1 ad).tr (n_addQ_c (z_mfd w f56_0) (show (j_it H56 Q 2).toInt < 100 by omega) (fun f hf => by
              rw [((ad.st kL e2 e3 k56_b36 (Or.inl rfl)).2.2 f).1]
              match f, hf with
              | 0, _ => exact ct53
              | 1, _ => exact ct54.trans vx47
              | 2, _ => exact ct55
              | n + 3, hf => omega))
            have OKQ : z_okq (z_d H1 m P G R Q) a b := by
              refine ⟨show (j_it H1 Q 2).toInt < 10 by omega, by rw [r6, if_pos (Classical.not_not.mp c25)]; decide, ?_⟩
              rw [if_pos (by omega)]
            have tH57 : j_it H57 m 0 = Int32.ofInt 0 := ((ad.st kL e2 e3 w1.km (Or.inr ⟨_, rfl, by decide⟩)).2.2 0).1.trans tH56
            exact ⟨trivial, ⟨Nat.le_of_ble_eq_true rfl, Nat.le_of_ble_eq_true rfl⟩, z_MQ.ok ⟨_, wz⟩ mg tH57 (QP.trans ((j_cqp OKP).trans (j_cqp OKQ))) zq (by rw [show j_it H57 Q 2 = j_it h Q 2 + Int32.ofInt 1 from zq.1 2 (by decide)]; exact Int32.add_sub_cancel _ _)⟩
          · have c33 : ¬ (b).toInt = (Int32.ofInt (-1)).toInt := c33
            conv => whnf
            refine ⟨w1.km, rfl, _, _, _, _, _, _, c_Mo_standsx w1 ⟨by omega, by omega⟩, ⟨Nat.le_of_ble_eq_true rfl, Nat.le_of_ble_eq_true rfl, Nat.le_of_ble_eq_true rfl, Nat.le_of_ble_eq_true rfl⟩, fun _ _ z => False.elim z, ?_⟩
            rintro v9 h9 ⟨e9, rfl⟩
            obtain rfl : H1 = h9 := e9.symm
            conv => whnf
            refine ⟨fun c61 => ?_, fun c61 => ?_⟩
            · have c61 : ¬ (z_b (z_st (z_d H1 m P G R Q) b.toNatClampNeg)).toInt = 0 := c61
              conv => whnf
              refine ⟨_, rfl, w1.km, fun o62 eo => ?_⟩
              obtain rfl : o62 = some Q := eo.symm.trans w1.eQ
              have q63 : (Int32.ofInt (3)).toInt = 3 := by decide
              conv => whnf
              have clb64 := j_clamp (i := Int32.ofInt (3)) (by omega)
              refine ⟨⟨fun z => absurd (j_l0.mp z) (by omega), by omega⟩, ⟨Nat.le_of_ble_eq_true rfl, Nat.le_of_ble_eq_true rfl⟩, fun b64 hbb64 => ?_⟩
              show j_go _ _ _ _ _ _ _ _ _ _ (j_nw H1 b64 (.inr 0) (Int32.ofInt (3)).toNatClampNeg) _ _
              have st65 : j_Mf ρ m H1 (j_nw H1 b64 (.inr 0) (Int32.ofInt (3)).toNatClampNeg) := j_Mf.nw w1.km hbb64 (fun _ z => nomatch z)
              have kb64 : j_kd (j_nw H1 b64 (.inr 0) (Int32.ofInt (3)).toNatClampNeg) b64 = some (.inr 0) := if_pos rfl
              have nb64 : j_ln (j_nw H1 b64 (.inr 0) (Int32.ofInt (3)).toNatClampNeg) b64 = (Int32.ofInt (3)).toNatClampNeg := if_pos rfl
              have rb64 := w1.rz b64 hbb64
              have tH65 : j_it (j_nw H1 b64 (.inr 0) (Int32.ofInt (3)).toNatClampNeg) m 0 = Int32.ofInt 0 := (if_neg (fun z => by have := w1.km; rw [z, hbb64] at this; cases this)).trans tH1
              generalize j_nw H1 b64 (.inr 0) (Int32.ofInt (3)).toNatClampNeg = H65 at st65 kb64 nb64 tH65 ⊢
              have zG66 := congrArg Int32.toInt (st65.sz w1.lG.1)
              have zR66 := congrArg Int32.toInt (st65.sz w1.lR.1)
              have zQ66 := congrArg Int32.toInt (st65.sz w1.lQ.1)
              have w66 := w1.f st65
              have f66_0 := f1_0.tr st65
              have q67 : (Int32.ofInt (0)).toInt = 0 := by decide
              conv => whnf
              refine ⟨_, rfl, kb64, j_vp (by omega) (by omega), ?_⟩
              have ct68 : j_it (j_ui H65 b64 (Int32.ofInt (0)).toNatClampNeg a) b64 0 = a := by rw [show (Int32.ofInt (0)).toNatClampNeg = 0 by decide]; exact (show j_u (j_it H65) b64 0 a b64 0 = _ from j_u_at)
              show j_go _ _ _ _ _ _ _ _ _ _ (j_ui H65 b64 (Int32.ofInt (0)).toNatClampNeg a) _ _
              have st69 : j_Mf ρ m H65 (j_ui H65 b64 (Int32.ofInt (0)).toNatClampNeg a) := j_Mf.ar w66.km kb64 (⟨by omega, fun z => absurd z (by omega)⟩)
              have tH69 : j_it (j_ui H65 b64 (Int32.ofInt (0)).toNatClampNeg a) m 0 = Int32.ofInt 0 := (j_t0i w66.km kb64 (by decide)).trans tH65
              generalize j_ui H65 b64 (Int32.ofInt (0)).toNatClampNeg a = H69 at st69 ct68 tH69 ⊢
              have zG69 := congrArg Int32.toInt (st69.sz w66.lG.1)
              have zR69 := congrArg Int32.toInt (st69.sz w66.lR.1)
              have zQ69 := congrArg Int32.toInt (st69.sz w66.lQ.1)
              have n69_b64 := st69.ln kb64
              have k69_b64 := st69.kd kb64
              have w69 := w66.f st69
              have f69_0 := f66_0.tr st69
              conv => whnf
              refine ⟨_, rfl, w69.km, fun o70 eo => ?_⟩
              obtain rfl : o70 = some P := eo.symm.trans w69.eP
              conv => whnf
              refine ⟨_, rfl, w69.km, fun o71 eo => ?_⟩
              obtain rfl : o71 = some R := eo.symm.trans w69.eR
              conv => whnf
              refine ⟨w69.lR.1, rfl, _, _, _, _, _, _, c_AL_get (h := H69) w69.lR j_Sc.rf j_sf_ok (by omega) (by omega), ⟨Nat.le_of_ble_eq_true rfl, Nat.le_of_ble_eq_true rfl, Nat.le_of_ble_eq_true rfl, Nat.le_of_ble_eq_true rfl⟩, fun _ _ z => False.elim z, ?_⟩
              rintro v9 h9 ⟨e9, g72, rfl, kg72, xg72⟩
              obtain rfl : H69 = h9 := e9.symm
              have feg72 := w69.aR.get (by omega) (by omega) xg72
              conv => whnf
              refine ⟨Or.inr ⟨_, rfl, kg72⟩, ?_⟩
              conv => whnf
              refine ⟨_, rfl, kg72, fun x73 ex73 => ?_⟩
              have hx73 : 0 ≤ x73.toInt ∧ x73.toInt ≤ 1 := by rw [← ex73]; exact feg72
              have n74 := w69.nP
              conv => whnf
              refine ⟨_, _, rfl, w69.kP, rfl, j_vp (by omega) (by omega), fun x75 ex75 => ?_⟩
              have hx75 : x75.toInt ≠ 0 := j_nzP w69 ex75 (by omega) (by omega)
              have vx75 : x75 = (z_d h m P G R Q).1 (j_pf ((z_d h m P G R Q).2.2.2.1 a.toNatClampNeg 1)) := by
                have e41 := z_mfd w f69_0
                have la9 : z_lt (z_d H69 m P G R Q) 1 a.toNatClampNeg := by
                  show (a.toNatClampNeg : Int) < (j_it H69 R 2).toInt
                  rw [j_clamp (by omega)]; omega
                rw [← e41.2.2.2.1 a.toNatClampNeg 1 la9 (by decide), ← z_pc_c e41]
                have e45 : (z_d H69 m P G R Q).2.2.2.1 a.toNatClampNeg 1 = x73 := by
                  rw [← ex73, ← z_ml_get xg72]
                  rfl
                rw [e45]
                rcases j_pf34' x73 with ⟨q1, q2⟩ | ⟨q1, q2⟩
                · rw [q2, ← ex75, show x73.toNatClampNeg = 0 by have := j_clamp (i := x73) (by omega); omega]
                  rfl
                · rw [q2, ← ex75, show x73.toNatClampNeg = 1 by have := j_clamp (i := x73) (by omega); omega]
                  rfl
              have q76 : (Int32.ofInt (1)).toInt = 1 := by decide
              conv => whnf
              refine ⟨_, rfl, k69_b64, j_vp (by omega) (by omega), ?_⟩
              have ct77 : j_it (j_ui H69 b64 (Int32.ofInt (1)).toNatClampNeg x75) b64 0 = a := by rw [show (Int32.ofInt (1)).toNatClampNeg = 1 by decide]; exact (show j_u (j_it H69) b64 1 x75 b64 0 = j_it H69 b64 0 from j_u_nk (by decide)).trans ct68
              have ct78 : j_it (j_ui H69 b64 (Int32.ofInt (1)).toNatClampNeg x75) b64 1 = x75 := by rw [show (Int32.ofInt (1)).toNatClampNeg = 1 by decide]; exact (show j_u (j_it H69) b64 1 x75 b64 1 = _ from j_u_at)
              show j_go _ _ _ _ _ _ _ _ _ _ (j_ui H69 b64 (Int32.ofInt (1)).toNatClampNeg x75) _ _
              have st79 : j_Mf ρ m H69 (j_ui H69 b64 (Int32.ofInt (1)).toNatClampNeg x75) := j_Mf.ar w69.km k69_b64 (⟨by omega, fun z => absurd z (by omega)⟩)
              have tH79 : j_it (j_ui H69 b64 (Int32.ofInt (1)).toNatClampNeg x75) m 0 = Int32.ofInt 0 := (j_t0i w69.km k69_b64 (by decide)).trans tH69
              generalize j_ui H69 b64 (Int32.ofInt (1)).toNatClampNeg x75 = H79 at st79 ct77 ct78 tH79 ⊢
              have zG79 := congrArg Int32.toInt (st79.sz w69.lG.1)
              have zR79 := congrArg Int32.toInt (st79.sz w69.lR.1)
              have zQ79 := congrArg Int32.toInt (st79.sz w69.lQ.1)
              have n79_b64 := st79.ln k69_b64
              have k79_b64 := st79.kd k69_b64
              have w79 := w69.f st79
              have f79_0 := f69_0.tr st79
              have q80 : (Int32.ofInt (2)).toInt = 2 := by decide
              conv => whnf
              refine ⟨_, rfl, k79_b64, j_vp (by omega) (by omega), ?_⟩
              have ct81 : j_it (j_ui H79 b64 (Int32.ofInt (2)).toNatClampNeg b) b64 0 = a := by rw [show (Int32.ofInt (2)).toNatClampNeg = 2 by decide]; exact (show j_u (j_it H79) b64 2 b b64 0 = j_it H79 b64 0 from j_u_nk (by decide)).trans ct77
              have ct82 : j_it (j_ui H79 b64 (Int32.ofInt (2)).toNatClampNeg b) b64 1 = x75 := by rw [show (Int32.ofInt (2)).toNatClampNeg = 2 by decide]; exact (show j_u (j_it H79) b64 2 b b64 1 = j_it H79 b64 1 from j_u_nk (by decide)).trans ct78
              have ct83 : j_it (j_ui H79 b64 (Int32.ofInt (2)).toNatClampNeg b) b64 2 = b := by rw [show (Int32.ofInt (2)).toNatClampNeg = 2 by decide]; exact (show j_u (j_it H79) b64 2 b b64 2 = _ from j_u_at)
              show j_go _ _ _ _ _ _ _ _ _ _ (j_ui H79 b64 (Int32.ofInt (2)).toNatClampNeg b) _ _
              have st84 : j_Mf ρ m H79 (j_ui H79 b64 (Int32.ofInt (2)).toNatClampNeg b) := j_Mf.ar w79.km k79_b64 (⟨by omega, fun z => absurd z (by omega)⟩)
              have tH84 : j_it (j_ui H79 b64 (Int32.ofInt (2)).toNatClampNeg b) m 0 = Int32.ofInt 0 := (j_t0i w79.km k79_b64 (by decide)).trans tH79
              generalize j_ui H79 b64 (Int32.ofInt (2)).toNatClampNeg b = H84 at st84 ct81 ct82 ct83 tH84 ⊢
              have zG84 := congrArg Int32.toInt (st84.sz w79.lG.1)
              have zR84 := congrArg Int32.toInt (st84.sz w79.lR.1)
              have zQ84 := congrArg Int32.toInt (st84.sz w79.lQ.1)
              have n84_b64 := st84.ln k79_b64
              have k84_b64 := st84.kd k79_b64
              have w84 := w79.f st84
              have f84_0 := f79_0.tr st84
              have zb := w84.b
              obtain ⟨ρ1, w1, ga⟩ := w84.roleQ k84_b64 rb64
              obtain ⟨kL, z0, z1, arr, t, e1, e2, e3, e4, e5, e6⟩ := id w1.lQ
              conv => whnf
              refine ⟨kL, rfl, _, _, _, _, _, _, c_AL_add_53 kL e1 e2 e3 e5.2 z0 e4 (by omega) e5.1 (fun j hj => by obtain ⟨y, y1, y2⟩ := e6 j hj; exact ⟨y, y1, Or.inr y2⟩) (Or.inr k84_b64), ⟨Nat.le_of_ble_eq_true rfl, Nat.le_of_ble_eq_true rfl, Nat.le_of_ble_eq_true rfl, Nat.le_of_ble_eq_true rfl⟩, fun _ _ z => False.elim z, ?_⟩
              rintro v9 H85 ⟨⟨rr9, rfl⟩, ad⟩
              have wz := w1.adQ e1 ad (by omega) k84_b64 ⟨ga, by omega, by rw [ct81]; omega, by rw [ct81]; omega, by rw [ct83, j_clamp (by omega)]; omega⟩
              have zz := wz.b
              have iG := (ad.li kL e1 e2 w1.ap.2.1.sy w1.lG).2.1 1
              have iR := (ad.li kL e1 e2 w1.ap.2.2.sy w1.lR).2.1 1
              have mg : j_Mg m G R Q h H85 := j_Mg.ad w f84_0 ad (Or.inr (Or.inr rfl)) e1 e2 e3 (fun L9 q n => by
                rcases q with rfl | rfl | rfl
                · exact iG.2
                · exact iR.2
                · exact absurd rfl n)
              conv => whnf
              refine ⟨_, rfl, wz.km, fun o86 eo => ?_⟩
              obtain rfl : o86 = some Q := eo.symm.trans wz.eQ
              conv => whnf
              refine ⟨wz.lQ.1, rfl, _, _, _, _, _, _, c_AL_size (h := H85) wz.lQ j_Sc.rf j_sf_ok, ⟨Nat.le_of_ble_eq_true rfl, Nat.le_of_ble_eq_true rfl, Nat.le_of_ble_eq_true rfl, Nat.le_of_ble_eq_true rfl⟩, fun _ _ z => False.elim z, ?_⟩
              rintro v9 h9 ⟨e9, rfl⟩
              obtain rfl : H85 = h9 := e9.symm
              have q87 := j_sub1 (x := (j_it H85 Q 2)) (by omega)
              conv => whnf
              have zq : z_eq (z_d H85 m P G R Q) (n_print (z_d h m P G R Q) a b) := (z_addQ w1 e1 ad).tr (n_addQ_c (z_mfd w f84_0) (show (j_it H84 Q 2).toInt < 100 by omega) (fun f hf => by
                rw [((ad.st kL e2 e3 k84_b64 (Or.inl rfl)).2.2 f).1]
                match f, hf with
                | 0, _ => exact ct81
                | 1, _ => exact ct82.trans vx75
                | 2, _ => exact ct83
                | n + 3, hf => omega))
              have OKQ : z_okq (z_d H1 m P G R Q) a b := by
                refine ⟨show (j_it H1 Q 2).toInt < 10 by omega, by rw [r6, if_pos (Classical.not_not.mp c25)]; decide, ?_⟩
                rw [if_neg (by omega)]; exact z_bn c61
              have tH85 : j_it H85 m 0 = Int32.ofInt 0 := ((ad.st kL e2 e3 w1.km (Or.inr ⟨_, rfl, by decide⟩)).2.2 0).1.trans tH84
              exact ⟨trivial, ⟨Nat.le_of_ble_eq_true rfl, Nat.le_of_ble_eq_true rfl⟩, z_MQ.ok ⟨_, wz⟩ mg tH85 (QP.trans ((j_cqp OKP).trans (j_cqp OKQ))) zq (by rw [show j_it H85 Q 2 = j_it h Q 2 + Int32.ofInt 1 from zq.1 2 (by decide)]; exact Int32.add_sub_cancel _ _)⟩
            · have c61 : ¬ ¬ (z_b (z_st (z_d H1 m P G R Q) b.toNatClampNeg)).toInt = 0 := c61
              have q88 : (Int32.ofInt (2)).toInt = 2 := by decide
              conv => whnf
              refine ⟨w1.km, rfl, _, _, _, _, _, _, c_Mo_refusex w1.km, ⟨Nat.le_of_ble_eq_true rfl, Nat.le_of_ble_eq_true rfl, Nat.le_of_ble_eq_true rfl, Nat.le_of_ble_eq_true rfl⟩, fun _ _ z => False.elim z, ?_⟩
              rintro v9 H90 ⟨rfl, eH90⟩
              have st91 : j_Mf ρ m H1 H90 := by rw [eH90]; exact j_Mf.fi w1.km (by decide)
              have tH90 : j_it H90 m 0 = Int32.ofInt 2 := by rw [eH90]; exact j_upi
              have zG92 := congrArg Int32.toInt (st91.sz w1.lG.1)
              have zR92 := congrArg Int32.toInt (st91.sz w1.lR.1)
              have zQ92 := congrArg Int32.toInt (st91.sz w1.lQ.1)
              have w92 := w1.f st91
              have f92_0 := f1_0.tr st91
              conv => whnf
              exact ⟨trivial, ⟨Nat.le_of_ble_eq_true rfl, Nat.le_of_ble_eq_true rfl⟩, z_MQ.no w f92_0 tH90 (QP.trans ((j_cqp OKP).trans (j_cqn (fun z => by have z1 := z.2.2; rw [if_neg (by omega), z_b0.mp (Classical.not_not.mp c61)] at z1; cases z1)) )) (by decide)⟩
    · have c13 : ¬ ¬ (r12).toInt = 0 := c13
      have q93 : (Int32.ofInt (1)).toInt = 1 := by decide
      conv => whnf
      refine ⟨w1.km, rfl, _, _, _, _, _, _, c_Mo_refusex w1.km, ⟨Nat.le_of_ble_eq_true rfl, Nat.le_of_ble_eq_true rfl, Nat.le_of_ble_eq_true rfl, Nat.le_of_ble_eq_true rfl⟩, fun _ _ z => False.elim z, ?_⟩
      rintro v9 H95 ⟨rfl, eH95⟩
      have st96 : j_Mf ρ m H1 H95 := by rw [eH95]; exact j_Mf.fi w1.km (by decide)
      have tH95 : j_it H95 m 0 = Int32.ofInt 1 := by rw [eH95]; exact j_upi
      have zG97 := congrArg Int32.toInt (st96.sz w1.lG.1)
      have zR97 := congrArg Int32.toInt (st96.sz w1.lR.1)
      have zQ97 := congrArg Int32.toInt (st96.sz w1.lQ.1)
      have w97 := w1.f st96
      have f97_0 := f1_0.tr st96
      conv => whnf
      exact ⟨trivial, ⟨Nat.le_of_ble_eq_true rfl, Nat.le_of_ble_eq_true rfl⟩, z_MQ.no w f97_0 tH95 (QP.trans (j_cqn (fun z => by have z1 : b.toInt = -1 ∨ (0 ≤ b.toInt ∧ b.toInt < (j_it H1 Q 2).toInt) := z.2; omega))) (by decide)⟩
