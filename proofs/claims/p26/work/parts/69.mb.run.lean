/-! the model: run, state for state -/
set_option maxHeartbeats 4000000 in
set_option maxRecDepth 20000 in
theorem c_Mo_runz {ρ : Nat → Nat} {h : j_H} {m P G R Q : Nat} {a : Int32} {b : Int32} {c : Int32} {d : Int32} (w : j_MX ρ h m P G R Q)  : j_Ct 211 7 157 2 50 [j_r (some m), j_i a, j_i b, j_i c, j_i d] h (z_MQ m P G R Q h (q_run (j_am h m P G R) a b c d) (j_am h m P G R 1) (n_runF (z_d h m P G R Q) a b c d)) j_no := by
  refine j_intro km_211 (Nat.le_of_ble_eq_true rfl) ?_
  intro J hJ hF
  have wb := w.b
  refine hJ [] 400 _ _ _ _ _ _ ?_
  conv => whnf
  refine ⟨_, rfl, w.km, ?_⟩
  show j_go _ _ _ _ _ _ _ _ _ _ (j_up h m 0 (j_i (Int32.ofInt (0)))) _ _
  have st1 : j_Mf ρ m h (j_up h m 0 (j_i (Int32.ofInt (0)))) := j_Mf.fi w.km (by decide)
  have tH1 : j_it (j_up h m 0 (j_i (Int32.ofInt (0)))) m 0 = Int32.ofInt 0 := j_upi
  generalize j_up h m 0 (j_i (Int32.ofInt (0))) = H1 at st1 tH1 ⊢
  have zG1 := congrArg Int32.toInt (st1.sz w.lG.1)
  have zR1 := congrArg Int32.toInt (st1.sz w.lR.1)
  have zQ1 := congrArg Int32.toInt (st1.sz w.lQ.1)
  have w1 := w.f st1
  have f1_0 := (j_Mf.rf : j_Mf ρ m h h).tr st1
  conv => whnf
  refine ⟨w1.km, rfl, _, _, _, _, _, _, c_Mo_isGrainx w1, ⟨Nat.le_of_ble_eq_true rfl, Nat.le_of_ble_eq_true rfl, Nat.le_of_ble_eq_true rfl, Nat.le_of_ble_eq_true rfl⟩, fun _ _ z => False.elim z, ?_⟩
  rintro v9 h9 ⟨e9, r2, rfl, zr2⟩
  have mr2 := j_zy zr2
  obtain rfl : H1 = h9 := e9.symm
  conv => whnf
  refine ⟨fun c3 => ?_, fun c3 => ?_⟩
  · have c3 : (r2).toInt = 0 := c3
    have q4 : (Int32.ofInt (1)).toInt = 1 := by decide
    conv => whnf
    refine ⟨w1.km, rfl, _, _, _, _, _, _, c_Mo_refusex w1.km, ⟨Nat.le_of_ble_eq_true rfl, Nat.le_of_ble_eq_true rfl, Nat.le_of_ble_eq_true rfl, Nat.le_of_ble_eq_true rfl⟩, fun _ _ z => False.elim z, ?_⟩
    rintro v9 H6 ⟨rfl, eH6⟩
    have st7 : j_Mf ρ m H1 H6 := by rw [eH6]; exact j_Mf.fi w1.km (by decide)
    have tH6 : j_it H6 m 0 = Int32.ofInt 1 := by rw [eH6]; exact j_upi
    have zG8 := congrArg Int32.toInt (st7.sz w1.lG.1)
    have zR8 := congrArg Int32.toInt (st7.sz w1.lR.1)
    have zQ8 := congrArg Int32.toInt (st7.sz w1.lQ.1)
    have w8 := w1.f st7
    have f8_0 := f1_0.tr st7
    conv => whnf
    exact ⟨trivial, ⟨Nat.le_of_ble_eq_true rfl, Nat.le_of_ble_eq_true rfl⟩, z_MQ.no w f8_0 tH6 (j_cqn (fun z => by obtain ⟨⟨z1, z2⟩, z3⟩ := z; have z2 : a.toInt < (j_it h G 2).toInt := z2; omega)) (by decide)⟩
  · have c3 : ¬ (r2).toInt = 0 := c3
    have q9 : (Int32.ofInt (0)).toInt = 0 := by decide
    have q10 : (Int32.ofInt (1)).toInt = 1 := by decide
    conv => whnf
    refine ⟨rfl, _, _, _, _, _, _, c_Mo_isx, ⟨Nat.le_of_ble_eq_true rfl, Nat.le_of_ble_eq_true rfl, Nat.le_of_ble_eq_true rfl, Nat.le_of_ble_eq_true rfl⟩, fun _ _ z => False.elim z, ?_⟩
    rintro v9 h9 ⟨e9, r11, rfl, zr11⟩
    have mr11 := j_zx zr11
    obtain rfl : H1 = h9 := e9.symm
    conv => whnf
    refine ⟨fun c12 => ?_, fun c12 => ?_⟩
    · have c12 : ¬ (r11).toInt = 0 := c12
      conv => whnf
      refine ⟨_, rfl, w1.km, fun x13 ex13 => ?_⟩
      obtain rfl : x13 = j_am h m P G R 5 := ex13.symm.trans (st1.am w 5 rfl)
      conv => whnf
      refine ⟨_, rfl, w1.km, fun x14 ex14 => ?_⟩
      obtain rfl : x14 = j_am h m P G R 5 := ex14.symm.trans (st1.am w 5 rfl)
      conv => whnf
      refine ⟨rfl, _, _, _, _, _, _, c_Mo_isx, ⟨Nat.le_of_ble_eq_true rfl, Nat.le_of_ble_eq_true rfl, Nat.le_of_ble_eq_true rfl, Nat.le_of_ble_eq_true rfl⟩, fun _ _ z => False.elim z, ?_⟩
      rintro v9 h9 ⟨e9, r15, rfl, zr15⟩
      have mr15 := j_zx zr15
      obtain rfl : H1 = h9 := e9.symm
      conv => whnf
      refine ⟨fun c16 => ?_, fun c16 => ?_⟩
      · have c16 : (r15).toInt = 0 := c16
        have q17 : (Int32.ofInt (2)).toInt = 2 := by decide
        conv => whnf
        refine ⟨w1.km, rfl, _, _, _, _, _, _, c_Mo_refusex w1.km, ⟨Nat.le_of_ble_eq_true rfl, Nat.le_of_ble_eq_true rfl, Nat.le_of_ble_eq_true rfl, Nat.le_of_ble_eq_true rfl⟩, fun _ _ z => False.elim z, ?_⟩
        rintro v9 H19 ⟨rfl, eH19⟩
        have st20 : j_Mf ρ m H1 H19 := by rw [eH19]; exact j_Mf.fi w1.km (by decide)
        have tH19 : j_it H19 m 0 = Int32.ofInt 2 := by rw [eH19]; exact j_upi
        have zG21 := congrArg Int32.toInt (st20.sz w1.lG.1)
        have zR21 := congrArg Int32.toInt (st20.sz w1.lR.1)
        have zQ21 := congrArg Int32.toInt (st20.sz w1.lQ.1)
        have w21 := w1.f st20
        have f21_0 := f1_0.tr st20
        conv => whnf
        exact ⟨trivial, ⟨Nat.le_of_ble_eq_true rfl, Nat.le_of_ble_eq_true rfl⟩, z_MQ.no w f21_0 tH19 ((j_cqp ⟨⟨by omega, show a.toInt < (j_it h G 2).toInt by omega⟩, by omega⟩).trans (j_cqn (fun z => by obtain ⟨⟨z1, z2⟩, z3, z4⟩ := z; omega))) (by decide)⟩
      · have c16 : ¬ (r15).toInt = 0 := c16
        conv => whnf
        refine ⟨_, rfl, w1.km, fun x22 ex22 => ?_⟩
        obtain rfl : x22 = j_am h m P G R 5 := ex22.symm.trans (st1.am w 5 rfl)
        conv => whnf
        refine ⟨_, rfl, w1.km, fun x23 ex23 => ?_⟩
        obtain rfl : x23 = j_am h m P G R 5 := ex23.symm.trans (st1.am w 5 rfl)
        conv => whnf
        refine ⟨rfl, _, _, _, _, _, _, c_Mo_isx, ⟨Nat.le_of_ble_eq_true rfl, Nat.le_of_ble_eq_true rfl, Nat.le_of_ble_eq_true rfl, Nat.le_of_ble_eq_true rfl⟩, fun _ _ z => False.elim z, ?_⟩
        rintro v9 h9 ⟨e9, r24, rfl, zr24⟩
        have mr24 := j_zx zr24
        obtain rfl : H1 = h9 := e9.symm
        conv => whnf
        refine ⟨fun c25 => ?_, fun c25 => ?_⟩
        · have c25 : ¬ (r24).toInt = 0 := c25
          conv => whnf
          refine ⟨_, rfl, w1.km, fun o26 eo => ?_⟩
          obtain rfl : o26 = some R := eo.symm.trans w1.eR
          conv => whnf
          refine ⟨w1.lR.1, rfl, _, _, _, _, _, _, c_AL_size (h := H1) w1.lR j_Sc.rf j_sf_ok, ⟨Nat.le_of_ble_eq_true rfl, Nat.le_of_ble_eq_true rfl, Nat.le_of_ble_eq_true rfl, Nat.le_of_ble_eq_true rfl⟩, fun _ _ z => False.elim z, ?_⟩
          rintro v9 h9 ⟨e9, rfl⟩
          obtain rfl : H1 = h9 := e9.symm
          have q27 : ((Int8.ofInt (20)).toInt32).toInt = 20 := by decide
          conv => whnf
          refine ⟨fun c28 => ?_, fun c28 => ?_⟩
          · have c28 : ¬ ((j_it H1 R 2)).toInt = ((Int8.ofInt (20)).toInt32).toInt := c28
            conv => whnf
            refine ⟨⟨Nat.le_of_ble_eq_true rfl, Nat.le_of_ble_eq_true rfl⟩, fun e29 he29 => ?_⟩
            conv => whnf
            refine ⟨trivial, rfl, _, _, _, _, _, _, c_MRun_init, ⟨Nat.le_of_ble_eq_true rfl, Nat.le_of_ble_eq_true rfl, Nat.le_of_ble_eq_true rfl, Nat.le_of_ble_eq_true rfl⟩, fun _ _ z => False.elim z, ?_⟩
            rintro v9 h9 ⟨rfl, e9⟩
            have e9 : h9 = j_nw H1 e29 (.inl 11) 0 := e9
            have st30 : j_Mf ρ m H1 h9 := by rw [e9]; exact j_Mf.nw w1.km he29 (fun c z => by cases z; decide)
            have ke29 : j_kd h9 e29 = some (.inl 11) := by rw [e9]; exact if_pos rfl
            have fee29 : j_rA h9 e29 := by rw [e9]; unfold j_rA; rw [show j_it (j_nw H1 e29 (.inl 11) 0) e29 1 = 0 from if_pos rfl]; decide
            have tH30 : j_it h9 m 0 = Int32.ofInt 0 := by
              rw [e9]
              exact (if_neg (fun z => by have := w1.km; rw [z, he29] at this; cases this)).trans tH1
            have rn : ∀ f, j_it h9 e29 f = 0 := fun f => by rw [e9]; exact if_pos rfl
            have re29 : ρ e29 = 0 := w1.rz e29 he29
            clear e9
            obtain ⟨H30, eh30⟩ : ∃ q, q = h9 := ⟨_, rfl⟩
            rw [← eh30] at st30 ke29 fee29 tH30 rn ⊢
            have w31 := w1.f st30
            have f31_0 := f1_0.tr st30
            have ea := w31.km
            have lk : (a.toNatClampNeg : Int) < (j_it H30 G 2).toInt := by
              have := congrArg Int32.toInt (f31_0.sz w.lG.1)
              rw [j_clamp (by omega)]; omega
            have lk0 : z_lt (z_d H30 m P G R Q) 0 a.toNatClampNeg := lk
            obtain ⟨kg, rg, -⟩ := w31.g lk
            obtain ⟨d0, f0, kd0, nd0, rd0, vd0⟩ := w31.ga lk (show 0 < 4 by decide)
            obtain ⟨d1, f1, kd1, nd1, rd1, vd1⟩ := w31.ga lk (show 1 < 4 by decide)
            have eg : z_ck b = b.toNatClampNeg := by
              unfold z_ck
              have := j_clamp (i := b) (by omega)
              by_cases z : b.toInt = 0
              · rw [if_pos z]; omega
              · rw [if_neg z]; omega
            have hb2 : b.toNatClampNeg < 2 := by have := j_clamp (i := b) (by omega); omega
            have vi0 : vp_in b (j_ln H30 d0) := by rw [nd0]; exact j_vp (by omega) (by omega)
            have vi1 : vp_in b (j_ln H30 d1) := by rw [nd1]; exact j_vp (by omega) (by omega)
            have nd : ∀ q, j_kd H30 q = some (.inr 0) → q ≠ e29 := fun q kq z => by rw [z, ke29] at kq; cases kq
            have nm : m ≠ e29 := fun z => by rw [z, ke29] at ea; cases ea
            have fr : ∀ it : Nat → Nat → Int32, (∀ q f, q ≠ e29 → it q f = j_it H30 q f) → (0 ≤ (it e29 1).toInt ∧ (it e29 1).toInt ≤ 1) → j_Mf ρ m H30 (j_wi H30 it) := fun it ho h1 => j_Mf.wi0 ea (fun q f hq => by
              by_cases z : q = e29
              · rw [z]; exact Or.inr ⟨re29, Or.inr (Or.inr ⟨ke29, fun _ => h1⟩)⟩
              · exact Or.inl (ho q f z))
            conv => whnf
            refine ⟨_, rfl, ke29, ?_⟩
            conv => whnf
            refine ⟨_, rfl, ke29, ?_⟩
            show j_go _ _ _ _ _ _ _ _ _ _ (j_wi H30 (j_u (j_u (j_it H30) e29 0 a) e29 1 b)) _ _
            generalize eA : j_u (j_u (j_it H30) e29 0 a) e29 1 b = itA
            have OA : ∀ q f, q ≠ e29 → itA q f = j_it H30 q f := fun q f hq => by rw [← eA, j_u_ne hq, j_u_ne hq]
            have A1 : itA e29 1 = b := by rw [← eA, j_uq, if_pos ⟨rfl, rfl⟩]
            have F33 := fr itA OA (by rw [A1]; exact ⟨by omega, by omega⟩)
            have w33 := w31.f F33
            have zG33 := congrArg Int32.toInt (F33.sz w31.lG.1)
            have zG30 := congrArg Int32.toInt (f31_0.sz w.lG.1)
            conv => whnf
            refine ⟨_, rfl, w33.km, fun o34 eo => ?_⟩
            obtain rfl : o34 = some G := eo.symm.trans w33.eG
            conv => whnf
            refine ⟨w33.lG.1, rfl, _, _, _, _, _, _, c_AL_get (h := j_wi H30 itA) w33.lG j_Sc.rf j_sf_ok (by omega) (by omega), ⟨Nat.le_of_ble_eq_true rfl, Nat.le_of_ble_eq_true rfl, Nat.le_of_ble_eq_true rfl, Nat.le_of_ble_eq_true rfl⟩, fun _ _ z => False.elim z, ?_⟩
            rintro v9 h9 ⟨e9, g35, rfl, kg35, xg35⟩
            obtain rfl : j_wi H30 itA = h9 := e9.symm
            have z35 : z_ml H30 G a.toNatClampNeg = g35 := z_ml_get xg35
            rw [z35] at f0 f1 kg
            conv => whnf
            refine ⟨Or.inr ⟨_, rfl, kg⟩, ?_⟩
            conv => whnf
            refine ⟨_, rfl, kg, fun o36 eo => ?_⟩
            obtain rfl : o36 = some d0 := eo.symm.trans f0
            conv => whnf
            refine ⟨_, _, rfl, kd0, rfl, vi0, fun x38 ex38 => ?_⟩
            have vx38 : x38 = (z_d h m P G R Q).2.1 a.toNatClampNeg (z_ck b) 0 := by
              have q : itA d0 b.toNatClampNeg = x38 := ex38
              rw [OA _ _ (nd d0 kd0), ← vd0] at q
              rw [eg]
              exact q.symm.trans ((z_mfd w f31_0).2.1 a.toNatClampNeg b.toNatClampNeg 0 lk0 hb2 (by decide))
            clear ex38
            conv => whnf
            refine ⟨⟨Nat.le_of_ble_eq_true rfl, Nat.le_of_ble_eq_true rfl, Nat.le_of_ble_eq_true rfl, Nat.le_of_ble_eq_true rfl⟩, ?_⟩
            conv => whnf
            refine ⟨_, rfl, ke29, ?_⟩
            show j_go _ _ _ _ _ _ _ _ _ _ (j_up (j_wi H30 itA) e29 2 (j_i (if Int32.ofInt (0) < (x38 + c) then (x38 + c) else Int32.ofInt (0)))) _ _
            generalize hp2 : (if Int32.ofInt (0) < (x38 + c) then (x38 + c) else Int32.ofInt (0)) = p2
            have hp2 : z_p0 (x38 + c) = p2 := hp2
            show j_go _ _ _ _ _ _ _ _ _ _ (j_wi H30 (j_u itA e29 2 p2)) _ _
            generalize eB : j_u itA e29 2 p2 = itB
            have OB : ∀ q f, q ≠ e29 → itB q f = j_it H30 q f := fun q f hq => by rw [← eB, j_u_ne hq, OA q f hq]
            have B1 : itB e29 1 = b := by rw [← eB, j_uq, if_neg (fun z => absurd z.2 (by decide)), A1]
            have F39 := fr itB OB (by rw [B1]; exact ⟨by omega, by omega⟩)
            have w39 := w31.f F39
            have zG39 := congrArg Int32.toInt (F39.sz w31.lG.1)
            conv => whnf
            refine ⟨_, rfl, w39.km, fun o40 eo => ?_⟩
            obtain rfl : o40 = some G := eo.symm.trans w39.eG
            conv => whnf
            refine ⟨w39.lG.1, rfl, _, _, _, _, _, _, c_AL_get (h := j_wi H30 itB) w39.lG j_Sc.rf j_sf_ok (by omega) (by omega), ⟨Nat.le_of_ble_eq_true rfl, Nat.le_of_ble_eq_true rfl, Nat.le_of_ble_eq_true rfl, Nat.le_of_ble_eq_true rfl⟩, fun _ _ z => False.elim z, ?_⟩
            rintro v9 h9 ⟨e9, g41, rfl, kg41, xg41⟩
            obtain rfl : j_wi H30 itB = h9 := e9.symm
            have z41 : z_ml H30 G a.toNatClampNeg = g41 := z_ml_get xg41
            obtain rfl : g35 = g41 := z35.symm.trans z41
            conv => whnf
            refine ⟨Or.inr ⟨_, rfl, kg⟩, ?_⟩
            conv => whnf
            refine ⟨_, rfl, kg, fun o42 eo => ?_⟩
            obtain rfl : o42 = some d1 := eo.symm.trans f1
            conv => whnf
            refine ⟨_, _, rfl, kd1, rfl, vi1, fun x44 ex44 => ?_⟩
            have vx44 : x44 = (z_d h m P G R Q).2.1 a.toNatClampNeg (z_ck b) 1 := by
              have q : itB d1 b.toNatClampNeg = x44 := ex44
              rw [OB _ _ (nd d1 kd1), ← vd1] at q
              rw [eg]
              exact q.symm.trans ((z_mfd w f31_0).2.1 a.toNatClampNeg b.toNatClampNeg 1 lk0 hb2 (by decide))
            clear ex44
            conv => whnf
            refine ⟨⟨Nat.le_of_ble_eq_true rfl, Nat.le_of_ble_eq_true rfl, Nat.le_of_ble_eq_true rfl, Nat.le_of_ble_eq_true rfl⟩, ?_⟩
            conv => whnf
            refine ⟨_, rfl, ke29, ?_⟩
            show j_go _ _ _ _ _ _ _ _ _ _ (j_up (j_wi H30 itB) e29 3 (j_i (if Int32.ofInt (0) < (x44 + d) then (x44 + d) else Int32.ofInt (0)))) _ _
            generalize hp3 : (if Int32.ofInt (0) < (x44 + d) then (x44 + d) else Int32.ofInt (0)) = p3
            have hp3 : z_p0 (x44 + d) = p3 := hp3
            conv => whnf
            refine ⟨_, rfl, ea, fun x46 ex46 => ?_⟩
            have vx46 : x46 = (z_d h m P G R Q).1 5 := by
              have q : j_u itB e29 3 p3 m 3 = x46 := ex46
              rw [j_u_ne nm, OB _ _ nm] at q
              exact q.symm.trans (f31_0.2.1.2 3 (Or.inr rfl))
            clear ex46
            conv => whnf
            refine ⟨_, rfl, ke29, ?_⟩
            conv => whnf
            refine ⟨_, rfl, ea, fun x48 ex48 => ?_⟩
            have vx48 : x48 = (z_d h m P G R Q).1 6 := by
              have q : j_u (j_u itB e29 3 p3) e29 4 x46 m 2 = x48 := ex48
              rw [j_u_ne nm, j_u_ne nm, OB _ _ nm] at q
              exact q.symm.trans (f31_0.2.1.2 2 (Or.inl rfl))
            clear ex48
            conv => whnf
            refine ⟨_, rfl, ke29, ?_⟩
            show j_go _ _ _ _ _ _ _ _ _ _ (j_wi H30 (j_u (j_u (j_u itB e29 3 p3) e29 4 x46) e29 5 x48)) _ _
            generalize eit : j_u (j_u (j_u itB e29 3 p3) e29 4 x46) e29 5 x48 = it
            have X : ∀ q f, it q f = if q = e29 ∧ f = 5 then x48 else if q = e29 ∧ f = 4 then x46 else if q = e29 ∧ f = 3 then p3 else if q = e29 ∧ f = 2 then p2 else if q = e29 ∧ f = 1 then b else if q = e29 ∧ f = 0 then a else j_it H30 q f := fun q f => by
              rw [← eit, j_uq, j_uq, j_uq, ← eB, j_uq, ← eA, j_uq, j_uq]
            have O : ∀ q f, q ≠ e29 → it q f = j_it H30 q f := fun q f h1 => by
              rw [X, if_neg (fun z => h1 z.1), if_neg (fun z => h1 z.1), if_neg (fun z => h1 z.1), if_neg (fun z => h1 z.1), if_neg (fun z => h1 z.1), if_neg (fun z => h1 z.1)]
            clear eit eB eA
            have X1 : it e29 1 = b := by
              rw [X, if_neg (fun z => absurd z.2 (by decide)), if_neg (fun z => absurd z.2 (by decide)), if_neg (fun z => absurd z.2 (by decide)), if_neg (fun z => absurd z.2 (by decide)), if_pos ⟨rfl, rfl⟩]
            have F49 := fr it O (by rw [X1]; exact ⟨by omega, by omega⟩)
            have f49_0 := f31_0.tr F49
            have w49 := w31.f F49
            have tH49 : j_it (j_wi H30 it) m 0 = Int32.ofInt 0 := (O m 0 nm).trans tH30
            have W0 : it e29 0 = a := by
              rw [X, if_neg (fun z => absurd z.2 (by decide)), if_neg (fun z => absurd z.2 (by decide)), if_neg (fun z => absurd z.2 (by decide)), if_neg (fun z => absurd z.2 (by decide)), if_neg (fun z => absurd z.2 (by decide)), if_pos ⟨rfl, rfl⟩]
            have W2 : it e29 2 = z_p0 ((z_d h m P G R Q).2.1 a.toNatClampNeg (z_ck b) 0 + c) := by
              rw [X, if_neg (fun z => absurd z.2 (by decide)), if_neg (fun z => absurd z.2 (by decide)), if_neg (fun z => absurd z.2 (by decide)), if_pos ⟨rfl, rfl⟩, ← hp2, vx38]
            have W3 : it e29 3 = z_p0 ((z_d h m P G R Q).2.1 a.toNatClampNeg (z_ck b) 1 + d) := by
              rw [X, if_neg (fun z => absurd z.2 (by decide)), if_neg (fun z => absurd z.2 (by decide)), if_pos ⟨rfl, rfl⟩, ← hp3, vx44]
            have W4 : it e29 4 = (z_d h m P G R Q).1 5 := by
              rw [X, if_neg (fun z => absurd z.2 (by decide)), if_pos ⟨rfl, rfl⟩, vx46]
            have W5 : it e29 5 = (z_d h m P G R Q).1 6 := by
              rw [X, if_pos ⟨rfl, rfl⟩, vx48]
            have W6 : (it e29 6).toInt = 0 := by
              rw [X, if_neg (fun z => absurd z.2 (by decide)), if_neg (fun z => absurd z.2 (by decide)), if_neg (fun z => absurd z.2 (by decide)), if_neg (fun z => absurd z.2 (by decide)), if_neg (fun z => absurd z.2 (by decide)), if_neg (fun z => absurd z.2 (by decide)), rn 6]
              decide
            clear X
            obtain ⟨H49, eH49⟩ : ∃ q, q = j_wi H30 it := ⟨_, rfl⟩
            have k49 : j_kd H49 e29 = some (.inl 11) := by rw [eH49]; exact ke29
            have it49 : ∀ q f, j_it H49 q f = it q f := fun q f => by rw [eH49]
            rw [← eH49] at f49_0 w49 tH49 ⊢
            have zR49 := congrArg Int32.toInt (f49_0.sz w.lR.1)
            have zb := w49.b
            obtain ⟨ρ1, eρ⟩ : ∃ r : Nat → Nat, ∀ q, r q = if q = e29 then 2000 + (j_it H49 R 2).toNatClampNeg else ρ q := ⟨_, fun _ => rfl⟩
            have w1 : j_MX ρ1 H49 m P G R Q := w49.role (fun q => by
              rw [eρ]
              by_cases z : q = e29
              · rw [z]; exact Or.inr ⟨re29, j_nn k49⟩
              · rw [if_neg z]; exact Or.inl rfl)
            have re : ρ1 e29 = 2000 + (j_it H49 R 2).toNatClampNeg := by rw [eρ, if_pos rfl]
            have fe49 : j_rA H49 e29 := by
              unfold j_rA
              rw [it49, X1]
              exact ⟨by omega, by omega⟩
            conv => whnf
            refine ⟨_, rfl, w49.km, fun o50 eo => ?_⟩
            obtain rfl : o50 = some R := eo.symm.trans w49.eR
            obtain ⟨kL, z0, z1, arr, t, e1, e2, e3, e4, e5, e6⟩ := id w1.lR
            conv => whnf
            refine ⟨kL, rfl, _, _, _, _, _, _, c_AL_add_53 kL e1 e2 e3 e5.2 z0 e4 (by omega) e5.1 (fun j hj => by obtain ⟨y, y1, y2⟩ := e6 j hj; exact ⟨y, y1, Or.inl ⟨_, y2⟩⟩) (Or.inl ⟨_, k49⟩), ⟨Nat.le_of_ble_eq_true rfl, Nat.le_of_ble_eq_true rfl, Nat.le_of_ble_eq_true rfl, Nat.le_of_ble_eq_true rfl⟩, fun _ _ z => False.elim z, ?_⟩
            rintro v9 H51 ⟨⟨rr9, rfl⟩, ad⟩
            have wz := w1.adR re e1 ad (by omega) k49 fe49
            have zz := wz.b
            have iG := (ad.li kL e1 e2 w1.ap.1.sy w1.lG).2.1 1
            have iQ := (ad.li kL e1 e2 w1.ap.2.2 w1.lQ).2.1 1
            have mg : j_Mg m G R Q h H51 := j_Mg.ad w f49_0 ad (Or.inr (Or.inl rfl)) e1 e2 e3 (fun L9 q n => by
              rcases q with rfl | rfl | rfl
              · exact iG.2
              · exact absurd rfl n
              · exact iQ.2)
            have sE := ad.st kL e2 e3 k49 (Or.inr ⟨_, rfl, by decide⟩)
            have fE : ∀ f, f ≠ 6 → z_drE H51 e29 f = it e29 f := fun f hf => by
              unfold z_drE
              rw [if_neg hf, (sE.2.2 f).1, it49]
            have f6 : z_drE H51 e29 6 = Int32.ofInt 1 := by
              unfold z_drE
              rw [if_pos rfl, (sE.2.2 6).1, it49, if_pos W6]
            have zq : z_eq (z_d H51 m P G R Q) (n_runF (z_d h m P G R Q) a b c d) := (z_addR w1 e1 ad).tr (n_addR_run (z_mfd w f49_0) (show (j_it H49 R 2).toInt < 100 by omega) ((fE 0 (by decide)).trans W0) ((fE 1 (by decide)).trans X1) ((fE 2 (by decide)).trans W2) ((fE 3 (by decide)).trans W3) ((fE 4 (by decide)).trans W4) ((fE 5 (by decide)).trans W5) f6)
            conv => whnf
            refine ⟨_, rfl, wz.km, fun o52 eo => ?_⟩
            obtain rfl : o52 = some R := eo.symm.trans wz.eR
            conv => whnf
            refine ⟨wz.lR.1, rfl, _, _, _, _, _, _, c_AL_size (h := H51) wz.lR j_Sc.rf j_sf_ok, ⟨Nat.le_of_ble_eq_true rfl, Nat.le_of_ble_eq_true rfl, Nat.le_of_ble_eq_true rfl, Nat.le_of_ble_eq_true rfl⟩, fun _ _ z => False.elim z, ?_⟩
            rintro v9 h9 ⟨e9, rfl⟩
            obtain rfl : H51 = h9 := e9.symm
            have tH51 : j_it H51 m 0 = Int32.ofInt 0 := ((ad.st kL e2 e3 w1.km (Or.inr ⟨_, rfl, by decide⟩)).2.2 0).1.trans tH49
            conv => whnf
            exact ⟨trivial, ⟨Nat.le_of_ble_eq_true rfl, Nat.le_of_ble_eq_true rfl⟩, z_MQ.ok ⟨_, wz⟩ mg tH51 ((j_cqp ⟨⟨by omega, show a.toInt < (j_it h G 2).toInt by omega⟩, by omega⟩).trans ((j_cqp ⟨⟨by omega, by omega⟩, by omega, by omega⟩).trans (j_cqp (show (j_it h R 2).toInt < 20 by omega)))) zq (by rw [show j_it H51 R 2 = j_am h m P G R 1 + Int32.ofInt 1 from zq.1 1 (by decide)]; exact Int32.add_sub_cancel _ _)⟩
          · have c28 : ¬ ¬ ((j_it H1 R 2)).toInt = ((Int8.ofInt (20)).toInt32).toInt := c28
            have q54 : (Int32.ofInt (3)).toInt = 3 := by decide
            conv => whnf
            refine ⟨w1.km, rfl, _, _, _, _, _, _, c_Mo_refusex w1.km, ⟨Nat.le_of_ble_eq_true rfl, Nat.le_of_ble_eq_true rfl, Nat.le_of_ble_eq_true rfl, Nat.le_of_ble_eq_true rfl⟩, fun _ _ z => False.elim z, ?_⟩
            rintro v9 H56 ⟨rfl, eH56⟩
            have st57 : j_Mf ρ m H1 H56 := by rw [eH56]; exact j_Mf.fi w1.km (by decide)
            have tH56 : j_it H56 m 0 = Int32.ofInt 3 := by rw [eH56]; exact j_upi
            have zG58 := congrArg Int32.toInt (st57.sz w1.lG.1)
            have zR58 := congrArg Int32.toInt (st57.sz w1.lR.1)
            have zQ58 := congrArg Int32.toInt (st57.sz w1.lQ.1)
            have w58 := w1.f st57
            have f58_0 := f1_0.tr st57
            conv => whnf
            exact ⟨trivial, ⟨Nat.le_of_ble_eq_true rfl, Nat.le_of_ble_eq_true rfl⟩, z_MQ.no w f58_0 tH56 ((j_cqp ⟨⟨by omega, show a.toInt < (j_it h G 2).toInt by omega⟩, by omega⟩).trans ((j_cqp ⟨⟨by omega, by omega⟩, by omega, by omega⟩).trans (j_cqn (show ¬ (j_it h R 2).toInt < 20 by omega)))) (by decide)⟩
        · have c25 : ¬ ¬ (r24).toInt = 0 := c25
          have q59 : (Int32.ofInt (2)).toInt = 2 := by decide
          conv => whnf
          refine ⟨w1.km, rfl, _, _, _, _, _, _, c_Mo_refusex w1.km, ⟨Nat.le_of_ble_eq_true rfl, Nat.le_of_ble_eq_true rfl, Nat.le_of_ble_eq_true rfl, Nat.le_of_ble_eq_true rfl⟩, fun _ _ z => False.elim z, ?_⟩
          rintro v9 H61 ⟨rfl, eH61⟩
          have st62 : j_Mf ρ m H1 H61 := by rw [eH61]; exact j_Mf.fi w1.km (by decide)
          have tH61 : j_it H61 m 0 = Int32.ofInt 2 := by rw [eH61]; exact j_upi
          have zG63 := congrArg Int32.toInt (st62.sz w1.lG.1)
          have zR63 := congrArg Int32.toInt (st62.sz w1.lR.1)
          have zQ63 := congrArg Int32.toInt (st62.sz w1.lQ.1)
          have w63 := w1.f st62
          have f63_0 := f1_0.tr st62
          conv => whnf
          exact ⟨trivial, ⟨Nat.le_of_ble_eq_true rfl, Nat.le_of_ble_eq_true rfl⟩, z_MQ.no w f63_0 tH61 ((j_cqp ⟨⟨by omega, show a.toInt < (j_it h G 2).toInt by omega⟩, by omega⟩).trans (j_cqn (fun z => by obtain ⟨⟨z1, z2⟩, z3, z4⟩ := z; omega))) (by decide)⟩
    · have c12 : ¬ ¬ (r11).toInt = 0 := c12
      have q64 : (Int32.ofInt (1)).toInt = 1 := by decide
      conv => whnf
      refine ⟨w1.km, rfl, _, _, _, _, _, _, c_Mo_refusex w1.km, ⟨Nat.le_of_ble_eq_true rfl, Nat.le_of_ble_eq_true rfl, Nat.le_of_ble_eq_true rfl, Nat.le_of_ble_eq_true rfl⟩, fun _ _ z => False.elim z, ?_⟩
      rintro v9 H66 ⟨rfl, eH66⟩
      have st67 : j_Mf ρ m H1 H66 := by rw [eH66]; exact j_Mf.fi w1.km (by decide)
      have tH66 : j_it H66 m 0 = Int32.ofInt 1 := by rw [eH66]; exact j_upi
      have zG68 := congrArg Int32.toInt (st67.sz w1.lG.1)
      have zR68 := congrArg Int32.toInt (st67.sz w1.lR.1)
      have zQ68 := congrArg Int32.toInt (st67.sz w1.lQ.1)
      have w68 := w1.f st67
      have f68_0 := f1_0.tr st67
      conv => whnf
      exact ⟨trivial, ⟨Nat.le_of_ble_eq_true rfl, Nat.le_of_ble_eq_true rfl⟩, z_MQ.no w f68_0 tH66 (j_cqn (fun z => by obtain ⟨⟨z1, z2⟩, z3⟩ := z; have z2 : a.toInt < (j_it h G 2).toInt := z2; omega)) (by decide)⟩
