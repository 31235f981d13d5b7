/-! isSound: the model, always true -/
theorem z_or0 {a v w : Int32} (h0 : 0 ≤ v.toInt) (h1 : v.toInt ≤ 31) (g0 : 0 ≤ w.toInt) (g1 : w.toInt ≤ 31) (h : (((a >>> (v &&& 31)) ||| (a >>> (w &&& 31))) &&& Int32.ofInt 1).toInt = 0) : z_bq a v.toNatClampNeg = false ∧ z_bq a w.toNatClampNeg = false := by
  have b := z_bq0.mp h 0
  have x := z_bq_sr (a := a) h0 h1 (k := 0)
  have y := z_bq_sr (a := a) g0 g1 (k := 0)
  rw [z_bq_and, z_bq_or] at b
  rw [z_bq_and, decide_eq_true (rfl : 0 = 0), Bool.true_and] at x y
  rw [← x, ← y]
  cases p : z_bq (a >>> (v &&& 31)) 0 <;> cases q : z_bq (a >>> (w &&& 31)) 0 <;> cases o : z_bq (Int32.ofInt 1) 0 <;> rw [p, q, o] at b <;> first | exact ⟨rfl, rfl⟩ | cases b
set_option maxHeartbeats 4000000 in
set_option maxRecDepth 20000 in
theorem c_Mo_isSoundNowx {ρ : Nat → Nat} {h : j_H} {m P G R Q : Nat} {s : Nat} (w : j_MX ρ h m P G R Q) (ks : j_kd h s = some (.inr 0)) (ns : (j_ln h s : Int) = 2 * (j_it h R 2).toInt) (B : z_B (z_d h m P G R Q)) (hs : ∀ k : Nat, (k : Int) < (j_it h R 2).toInt → j_it h s (2 * k) = z_er (z_d h m P G R Q) k ∧ j_it h s (2 * k + 1) = z_lr (z_d h m P G R Q) k) : j_Ct 186 16 763 2 16 [j_r (some m), j_r (some s)] h (fun v h' => (j_Mf ρ m h h' ∧ z_th m h h' ∧ ∀ q j, j_kd h q = some (.inr 0) → j_it h' q j = j_it h q j) ∧ v = some (j_i (Int32.ofInt 1))) j_no := by
  refine j_intro km_186 (Nat.le_of_ble_eq_true rfl) ?_
  intro J hJ hF
  have wb := w.b
  have g0 : 0 ≤ ((z_d h m P G R Q).1 0).toInt := w.b.1.1
  have g8 : ((z_d h m P G R Q).1 0).toInt ≤ 8 := w.b.1.2
  have h1 : 0 ≤ ((z_d h m P G R Q).1 1).toInt := w.b.2.1.1
  have nN : (z_n0 (z_d h m P G R Q) : Int) = (j_it h G 2).toInt := j_clamp w.b.1.1
  have ag := z_ag_ff (z := z_d h m P G R Q) g0 g8 (z_al ((z_d h m P G R Q).1 0)).toNatClampNeg
  refine hJ [2, 28, 125, 139, 248] 400 _ _ _ _ _ _ ?_
  have L2_2 : ∀ (k : Nat) (v1 : Int32) (cn sn : Nat), cn ≤ 0 → sn ≤ 0 → 0 ≤ v1.toInt → (2147483647 - v1.toInt) < (k : Int) → J 2 [some (j_r (some m)), some (j_r (some s)), some (j_i v1), none, none, none] [] h cn sn := by
    intro k
    induction k with
    | zero => intro v1 cn sn hcn hsn hn hm; exact absurd hm (by have := j_ub v1; omega)
    | succ k ihB3 =>
      intro v1 cn sn hcn hsn hn hmv1
      have sbB3 : j_Mf ρ m h h := j_Mf.rf
      have clv1 := j_clamp hn
      have uv1 := j_ub v1; have lv1 := j_lb v1
      have zG5 := congrArg Int32.toInt (sbB3.sz w.lG.1)
      have zR5 := congrArg Int32.toInt (sbB3.sz w.lR.1)
      have zQ5 := congrArg Int32.toInt (sbB3.sz w.lQ.1)
      have n5_s := sbB3.ln ks
      have k5_s := sbB3.kd ks
      have w5 := w.f sbB3
      have f5_0 := (j_Mf.rf : j_Mf ρ m h h).tr sbB3
      refine hJ [2, 28, 125, 139, 248] 400 _ _ _ _ _ _ ?_
      conv => whnf
      refine ⟨_, rfl, w5.km, fun o6 eo => ?_⟩
      obtain rfl : o6 = some G := eo.symm.trans w5.eG
      conv => whnf
      refine ⟨w5.lG.1, rfl, _, _, _, _, _, _, c_AL_size (h := h) w5.lG j_Sc.rf j_sf_ok, ⟨Nat.le_of_ble_eq_true rfl, Nat.le_of_ble_eq_true rfl, by (try dsimp only); omega, by (try dsimp only); omega⟩, fun _ _ z => False.elim z, ?_⟩
      rintro v9 h9 ⟨e9, rfl⟩
      obtain rfl : h = h9 := e9.symm
      have u7 := j_ub v1
      conv => whnf
      refine ⟨fun c8 => ?_, fun c8 => ?_⟩
      · have c8 : ((j_it h G 2)).toInt ≤ (v1).toInt := c8
        conv => whnf
        refine ⟨w5.km, rfl, _, _, _, _, _, _, c_Mo_fewestNowx w5 k5_s (by omega) z_eq.rf hs, ⟨Nat.le_of_ble_eq_true rfl, Nat.le_of_ble_eq_true rfl, by (try dsimp only); omega, by (try dsimp only); omega⟩, fun _ _ z => False.elim z, ?_⟩
        rintro o9 H10 ⟨⟨st11, tH10, aK⟩, er9⟩
        obtain ⟨r9, hr9⟩ : ∃ r, r = z_fw (z_d h m P G R Q) := ⟨_, rfl⟩
        obtain rfl : o9 = some (j_i r9) := er9.trans (congrArg (fun r => some (j_i r)) hr9.symm)
        have e10 : z_eq (z_d H10 m P G R Q) (z_d h m P G R Q) := z_mfd w st11
        have hs10 : ∀ k : Nat, (k : Int) < (j_it H10 R 2).toInt → j_it H10 s (2 * k) = z_er (z_d h m P G R Q) k ∧ j_it H10 s (2 * k + 1) = z_lr (z_d h m P G R Q) k := fun k hk => by
          have z := congrArg Int32.toInt (st11.sz w.lR.1)
          rw [aK s _ ks, aK s _ ks]
          exact hs k (by omega)
        have agF : ∀ i j : Nat, (i : Int) < (j_it h G 2).toInt → (j : Int) < (j_it h G 2).toInt → z_bq r9 i = false → z_bq r9 j = false → z_cx (z_d h m P G R Q) (z_n0 (z_d h m P G R Q)) i j = false := fun i j hi hj bi bj => ag i j (by omega) (by omega) (by rw [hr9] at bi; exact bi) (by rw [hr9] at bj; exact bj)
        have bed : ∀ (v : Int32) (g : Nat), 0 ≤ v.toInt → v.toInt < (j_it H10 G 2).toInt → z_ml H10 G v.toNatClampNeg = g → (z_d h m P G R Q).2.2.1 v.toNatClampNeg 0 = j_it H10 g 5 := by
          intro v g q0 q1 hg
          have lt : z_lt (z_d H10 m P G R Q) 0 v.toNatClampNeg := by
            show (v.toNatClampNeg : Int) < (j_it H10 G 2).toInt
            rw [j_clamp q0]
            exact q1
          rw [← e10.2.2.1 _ 0 lt (by decide), ← hg]
          rfl
        have zG12 := congrArg Int32.toInt (st11.sz w5.lG.1)
        have zR12 := congrArg Int32.toInt (st11.sz w5.lR.1)
        have zQ12 := congrArg Int32.toInt (st11.sz w5.lQ.1)
        have n12_s := st11.ln k5_s
        have k12_s := st11.kd k5_s
        have w12 := w5.f st11
        have f12_0 := f5_0.tr st11
        have f12_B3 := sbB3.tr st11
        have L125_14 : ∀ (k : Nat) (v13 : Int32) (cn sn : Nat), cn ≤ 2 → sn ≤ 16 → 0 ≤ v13.toInt → (2147483647 - v13.toInt) < (k : Int) → J 125 [some (j_r (some m)), some (j_r (some s)), some (j_i r9), some (j_i v13), none, none] [] H10 cn sn := by
          intro k
          induction k with
          | zero => intro v13 cn sn hcn hsn hn hm; exact absurd hm (by have := j_ub v13; omega)
          | succ k ihB15 =>
            intro v13 cn sn hcn hsn hn13 hmv13
            have sbB15 : j_Mf ρ m H10 H10 := j_Mf.rf
            have clv13 := j_clamp hn13
            have uv13 := j_ub v13; have lv13 := j_lb v13
            have zG17 := congrArg Int32.toInt (sbB15.sz w12.lG.1)
            have zR17 := congrArg Int32.toInt (sbB15.sz w12.lR.1)
            have zQ17 := congrArg Int32.toInt (sbB15.sz w12.lQ.1)
            have n17_s := sbB15.ln k12_s
            have k17_s := sbB15.kd k12_s
            have w17 := w12.f sbB15
            have f17_0 := f12_0.tr sbB15
            have f17_B3 := f12_B3.tr sbB15
            refine hJ [2, 28, 125, 139, 248] 400 _ _ _ _ _ _ ?_
            conv => whnf
            refine ⟨_, rfl, w17.km, fun o18 eo => ?_⟩
            obtain rfl : o18 = some G := eo.symm.trans w17.eG
            conv => whnf
            refine ⟨w17.lG.1, rfl, _, _, _, _, _, _, c_AL_size (h := H10) w17.lG j_Sc.rf j_sf_ok, ⟨Nat.le_of_ble_eq_true rfl, Nat.le_of_ble_eq_true rfl, by (try dsimp only); omega, by (try dsimp only); omega⟩, fun _ _ z => False.elim z, ?_⟩
            rintro v9 h9 ⟨e9, rfl⟩
            obtain rfl : H10 = h9 := e9.symm
            have u19 := j_ub v13
            conv => whnf
            refine ⟨fun c20 => ?_, fun c20 => ?_⟩
            · have c20 : ((j_it H10 G 2)).toInt ≤ (v13).toInt := c20
              have L248_22 : ∀ (k : Nat) (v21 : Int32) (cn sn : Nat), cn ≤ 2 → sn ≤ 16 → 0 ≤ v21.toInt → (2147483647 - v21.toInt) < (k : Int) → J 248 [some (j_r (some m)), some (j_r (some s)), some (j_i r9), some (j_i v21), none, none] [] H10 cn sn := by
                intro k
                induction k with
                | zero => intro v21 cn sn hcn hsn hn hm; exact absurd hm (by have := j_ub v21; omega)
                | succ k ihB23 =>
                  intro v21 cn sn hcn hsn hn21 hmv21
                  have sbB23 : j_Mf ρ m H10 H10 := j_Mf.rf
                  have clv21 := j_clamp hn21
                  have uv21 := j_ub v21; have lv21 := j_lb v21
                  have zG25 := congrArg Int32.toInt (sbB23.sz w17.lG.1)
                  have zR25 := congrArg Int32.toInt (sbB23.sz w17.lR.1)
                  have zQ25 := congrArg Int32.toInt (sbB23.sz w17.lQ.1)
                  have n25_s := sbB23.ln k17_s
                  have k25_s := sbB23.kd k17_s
                  have w25 := w17.f sbB23
                  have f25_0 := f17_0.tr sbB23
                  have f25_B3 := f17_B3.tr sbB23
                  have f25_B15 := sbB15.tr sbB23
                  refine hJ [2, 28, 125, 139, 248] 400 _ _ _ _ _ _ ?_
                  conv => whnf
                  refine ⟨_, rfl, w25.km, fun o26 eo => ?_⟩
                  obtain rfl : o26 = some Q := eo.symm.trans w25.eQ
                  conv => whnf
                  refine ⟨w25.lQ.1, rfl, _, _, _, _, _, _, c_AL_size (h := H10) w25.lQ j_Sc.rf j_sf_ok, ⟨Nat.le_of_ble_eq_true rfl, Nat.le_of_ble_eq_true rfl, by (try dsimp only); omega, by (try dsimp only); omega⟩, fun _ _ z => False.elim z, ?_⟩
                  rintro v9 h9 ⟨e9, rfl⟩
                  obtain rfl : H10 = h9 := e9.symm
                  have u27 := j_ub v21
                  conv => whnf
                  refine ⟨fun c28 => ?_, fun c28 => ?_⟩
                  · have c28 : ((j_it H10 Q 2)).toInt ≤ (v21).toInt := c28
                    conv => whnf
                    exact ⟨Or.inr rfl, ⟨by (try dsimp only); omega, by (try dsimp only); omega⟩, ⟨st11, tH10, aK⟩, rfl⟩
                  · have c28 : ¬ ((j_it H10 Q 2)).toInt ≤ (v21).toInt := c28
                    conv => whnf
                    refine ⟨_, rfl, w25.km, fun o29 eo => ?_⟩
                    obtain rfl : o29 = some Q := eo.symm.trans w25.eQ
                    conv => whnf
                    refine ⟨w25.lQ.1, rfl, _, _, _, _, _, _, c_AL_get (h := H10) w25.lQ j_Sc.rf j_sf_ok (by omega) (by omega), ⟨Nat.le_of_ble_eq_true rfl, Nat.le_of_ble_eq_true rfl, by (try dsimp only); omega, by (try dsimp only); omega⟩, fun _ _ z => False.elim z, ?_⟩
                    rintro v9 h9 ⟨e9, g30, rfl, kg30, xg30⟩
                    obtain rfl : H10 = h9 := e9.symm
                    have y30 := z_ml_get xg30
                    have feg30 := w25.aQ.get (by omega) (by omega) xg30
                    have ng30 : j_ln H10 g30 = 3 := feg30.2.1
                    conv => whnf
                    refine ⟨Or.inr ⟨_, rfl, kg30⟩, ?_⟩
                    conv => whnf
                    refine ⟨w25.km, rfl, _, _, _, _, _, _, c_Mo_standsx w25 ⟨by omega, by omega⟩, ⟨Nat.le_of_ble_eq_true rfl, Nat.le_of_ble_eq_true rfl, by (try dsimp only); omega, by (try dsimp only); omega⟩, fun _ _ z => False.elim z, ?_⟩
                    rintro o9 h9 ⟨e9, er⟩
                    obtain ⟨r31, hr31⟩ : ∃ r, r = z_b (z_st (z_d H10 m P G R Q) v21.toNatClampNeg) := ⟨_, rfl⟩
                    obtain rfl : o9 = some (j_i r31) := er.trans (congrArg (fun r => some (j_i r)) (by rw [hr31]; skip))
                    obtain rfl : H10 = h9 := e9.symm
                    conv => whnf
                    refine ⟨fun c32 => ?_, fun c32 => ?_⟩
                    · have c32 : (r31).toInt = 0 := c32
                      have t33 : (v21 + Int32.ofInt 1).toInt = v21.toInt + 1 := j_inc1 (by omega)
                      exact j_use hF (ihB23 _ _ _ (by (try dsimp only); omega) (by (try dsimp only); omega) (by omega) (by omega)) (And.intro rfl (And.intro rfl (And.intro rfl (And.intro rfl trivial))))
                    · have c32 : ¬ (r31).toInt = 0 := c32
                      have st31 := z_bn (show ¬ (z_b (z_st (z_d H10 m P G R Q) v21.toNatClampNeg)).toInt = 0 by rw [← hr31]; exact c32)
                      rw [z_st_e] at st31
                      obtain ⟨s1, s2⟩ := (Bool.and_eq_true _ _).mp st31
                      conv => whnf
                      refine ⟨_, rfl, w25.km, fun o34 eo => ?_⟩
                      obtain rfl : o34 = some R := eo.symm.trans w25.eR
                      have q35 : (Int32.ofInt (0)).toInt = 0 := by decide
                      conv => whnf
                      refine ⟨_, _, rfl, kg30, rfl, j_vp (by omega) (by omega), fun x36 ex36 => ?_⟩
                      have vx36 : (z_d H10 m P G R Q).2.2.2.2 v21.toNatClampNeg 0 = x36 := by rw [← ex36, ← y30]; rfl
                      have hx36 : 0 ≤ x36.toInt ∧ x36.toInt < (j_it H10 R 2).toInt := by rw [← ex36]; exact ⟨feg30.2.2.1, feg30.2.2.2.1⟩
                      conv => whnf
                      refine ⟨w25.lR.1, rfl, _, _, _, _, _, _, c_AL_get (h := H10) w25.lR j_Sc.rf j_sf_ok (by omega) (by omega), ⟨Nat.le_of_ble_eq_true rfl, Nat.le_of_ble_eq_true rfl, by (try dsimp only); omega, by (try dsimp only); omega⟩, fun _ _ z => False.elim z, ?_⟩
                      rintro v9 h9 ⟨e9, g37, rfl, kg37, xg37⟩
                      obtain rfl : H10 = h9 := e9.symm
                      have y37 := z_ml_get xg37
                      have feg37 := w25.aR.get (by omega) (by omega) xg37
                      conv => whnf
                      refine ⟨Or.inr ⟨_, rfl, kg37⟩, ?_⟩
                      conv => whnf
                      refine ⟨_, rfl, kg37, fun x38 ex38 => ?_⟩
                      conv => whnf
                      refine ⟨fun c39 => ?_, fun c39 => ?_⟩
                      · have c39 : ¬ (x38).toInt = 0 := c39
                        unfold z_one at s1
                        have s1 := of_decide_eq_true ((Bool.and_eq_true _ _).mp s1).1
                        rw [vx36] at s1
                        refine absurd ?_ s1
                        have r6 : (z_d H10 m P G R Q).2.2.2.1 x36.toNatClampNeg 6 = if x38.toInt = 0 then Int32.ofInt 1 else Int32.ofInt 0 := by rw [← ex38, ← y37]; rfl
                        rw [r6, if_neg c39]
                        decide
                      · have c39 : ¬ ¬ (x38).toInt = 0 := c39
                        have q40 : (Int32.ofInt (2)).toInt = 2 := by decide
                        conv => whnf
                        refine ⟨_, _, rfl, kg30, rfl, j_vp (by omega) (by omega), fun x41 ex41 => ?_⟩
                        have vx41 : (z_d H10 m P G R Q).2.2.2.2 v21.toNatClampNeg 2 = x41 := by rw [← ex41, ← y30]; rfl
                        have hx41 : x41.toInt = -1 ∨ (0 ≤ x41.toInt ∧ x41.toInt < (v21).toInt) := by have y := feg30.2.2.2.2; rw [j_clamp (by omega)] at y; rw [← ex41]; exact y
                        have q42 : (Int32.ofInt (-1)).toInt = -1 := by decide
                        have u43 := j_ub x41
                        conv => whnf
                        refine ⟨fun c44 => ?_, fun c44 => ?_⟩
                        · have c44 : (x41).toInt = (Int32.ofInt (-1)).toInt := c44
                          have t45 : (v21 + Int32.ofInt 1).toInt = v21.toInt + 1 := j_inc1 (by omega)
                          exact j_use hF (ihB23 _ _ _ (by (try dsimp only); omega) (by (try dsimp only); omega) (by omega) (by omega)) (And.intro rfl (And.intro rfl (And.intro rfl (And.intro rfl trivial))))
                        · have c44 : ¬ (x41).toInt = (Int32.ofInt (-1)).toInt := c44
                          have q46 : (Int32.ofInt (2)).toInt = 2 := by decide
                          conv => whnf
                          refine ⟨_, _, rfl, kg30, rfl, j_vp (by omega) (by omega), fun x47 ex47 => ?_⟩
                          have hx47 : x47.toInt = -1 ∨ (0 ≤ x47.toInt ∧ x47.toInt < (v21).toInt) := by have y := feg30.2.2.2.2; rw [j_clamp (by omega)] at y; rw [← ex47]; exact y
                          have s48 := congrArg Int32.toInt (ex47.symm.trans ex41)
                          conv => whnf
                          refine ⟨w25.km, rfl, _, _, _, _, _, _, c_Mo_standsx w25 ⟨by omega, by omega⟩, ⟨Nat.le_of_ble_eq_true rfl, Nat.le_of_ble_eq_true rfl, by (try dsimp only); omega, by (try dsimp only); omega⟩, fun _ _ z => False.elim z, ?_⟩
                          rintro o9 h9 ⟨e9, er⟩
                          obtain ⟨r49, hr49⟩ : ∃ r, r = z_b (z_st (z_d H10 m P G R Q) x47.toNatClampNeg) := ⟨_, rfl⟩
                          obtain rfl : o9 = some (j_i r49) := er.trans (congrArg (fun r => some (j_i r)) (by rw [hr49]; skip))
                          obtain rfl : H10 = h9 := e9.symm
                          conv => whnf
                          refine ⟨fun c50 => ?_, fun c50 => ?_⟩
                          · have c50 : ¬ (r49).toInt = 0 := c50
                            have t51 : (v21 + Int32.ofInt 1).toInt = v21.toInt + 1 := j_inc1 (by omega)
                            exact j_use hF (ihB23 _ _ _ (by (try dsimp only); omega) (by (try dsimp only); omega) (by omega) (by omega)) (And.intro rfl (And.intro rfl (And.intro rfl (And.intro rfl trivial))))
                          · have c50 : ¬ ¬ (r49).toInt = 0 := c50
                            have e47 : x47 = x41 := ex47.symm.trans ex41
                            have cl47 := j_clamp (i := x47) (by omega)
                            rw [vx41, if_neg (show ¬ x41.toInt < 0 by omega), ← e47, z_tb_f _ _ (show x47.toNatClampNeg < v21.toNatClampNeg by omega)] at s2
                            rw [hr49, s2] at c50
                            exact absurd (show ¬ (z_b true).toInt = 0 by decide) c50
              have q52 : (Int32.ofInt (0)).toInt = 0 := by decide
              exact j_use hF (L248_22 4294967296 _ _ _ (by (try dsimp only); omega) (by (try dsimp only); omega) (by omega) (by omega)) (And.intro rfl (And.intro rfl (And.intro rfl (And.intro rfl trivial))))
            · have c20 : ¬ ((j_it H10 G 2)).toInt ≤ (v13).toInt := c20
              have L139_54 : ∀ (k : Nat) (v53 : Int32) (cn sn : Nat), cn ≤ 2 → sn ≤ 16 → 0 ≤ v53.toInt → (2147483647 - v53.toInt) < (k : Int) → J 139 [some (j_r (some m)), some (j_r (some s)), some (j_i r9), some (j_i v13), some (j_i v53), none] [] H10 cn sn := by
                intro k
                induction k with
                | zero => intro v53 cn sn hcn hsn hn hm; exact absurd hm (by have := j_ub v53; omega)
                | succ k ihB55 =>
                  intro v53 cn sn hcn hsn hn53 hmv53
                  have sbB55 : j_Mf ρ m H10 H10 := j_Mf.rf
                  have clv53 := j_clamp hn53
                  have uv53 := j_ub v53; have lv53 := j_lb v53
                  have zG57 := congrArg Int32.toInt (sbB55.sz w17.lG.1)
                  have zR57 := congrArg Int32.toInt (sbB55.sz w17.lR.1)
                  have zQ57 := congrArg Int32.toInt (sbB55.sz w17.lQ.1)
                  have n57_s := sbB55.ln k17_s
                  have k57_s := sbB55.kd k17_s
                  have w57 := w17.f sbB55
                  have f57_0 := f17_0.tr sbB55
                  have f57_B3 := f17_B3.tr sbB55
                  have f57_B15 := sbB15.tr sbB55
                  refine hJ [2, 28, 125, 139, 248] 400 _ _ _ _ _ _ ?_
                  conv => whnf
                  refine ⟨_, rfl, w57.km, fun o58 eo => ?_⟩
                  obtain rfl : o58 = some G := eo.symm.trans w57.eG
                  conv => whnf
                  refine ⟨w57.lG.1, rfl, _, _, _, _, _, _, c_AL_size (h := H10) w57.lG j_Sc.rf j_sf_ok, ⟨Nat.le_of_ble_eq_true rfl, Nat.le_of_ble_eq_true rfl, by (try dsimp only); omega, by (try dsimp only); omega⟩, fun _ _ z => False.elim z, ?_⟩
                  rintro v9 h9 ⟨e9, rfl⟩
                  obtain rfl : H10 = h9 := e9.symm
                  have u59 := j_ub v53
                  conv => whnf
                  refine ⟨fun c60 => ?_, fun c60 => ?_⟩
                  · have c60 : ((j_it H10 G 2)).toInt ≤ (v53).toInt := c60
                    have t61 : (v13 + Int32.ofInt 1).toInt = v13.toInt + 1 := j_inc1 (by omega)
                    exact j_use hF (ihB15 _ _ _ (by (try dsimp only); omega) (by (try dsimp only); omega) (by omega) (by omega)) (And.intro rfl (And.intro rfl (And.intro rfl (And.intro rfl trivial))))
                  · have c60 : ¬ ((j_it H10 G 2)).toInt ≤ (v53).toInt := c60
                    have u62 := j_ub v53
                    have u63 := j_ub v13
                    conv => whnf
                    refine ⟨fun c64 => ?_, fun c64 => ?_⟩
                    · have c64 : (v13).toInt = (v53).toInt := c64
                      conv => whnf
                      refine ⟨fun c65 => ?_, fun c65 => ?_⟩
                      · have c65 : ¬ ((((r9 >>> (v13 &&& 31)) ||| (r9 >>> (v53 &&& 31))) &&& Int32.ofInt (1))).toInt = 0 := c65
                        have t66 : (v53 + Int32.ofInt 1).toInt = v53.toInt + 1 := j_inc1 (by omega)
                        exact j_use hF (ihB55 _ _ _ (by (try dsimp only); omega) (by (try dsimp only); omega) (by omega) (by omega)) (And.intro rfl (And.intro rfl (And.intro rfl (And.intro rfl (And.intro rfl trivial)))))
                      · have c65 : ¬ ¬ ((((r9 >>> (v13 &&& 31)) ||| (r9 >>> (v53 &&& 31))) &&& Int32.ofInt (1))).toInt = 0 := c65
                        conv => whnf
                        refine ⟨fun c => absurd (show (Int32.ofInt (1)).toInt = 0 from c) (by decide), fun _ => ?_⟩
                        have q67 : (Int32.ofInt (-1)).toInt = -1 := by decide
                        conv => whnf
                        refine ⟨w57.km, rfl, _, _, _, _, _, _, c_Mo_earlyOfx w57 k57_s (by omega) clv13.symm e10 (fun k hk => (hs10 k hk).1), ⟨Nat.le_of_ble_eq_true rfl, Nat.le_of_ble_eq_true rfl, by (try dsimp only); omega, by (try dsimp only); omega⟩, fun _ _ z => False.elim z, ?_⟩
                        rintro o9 h9 ⟨e9, er⟩
                        obtain ⟨r68, hr68⟩ : ∃ r, r = z_gE (z_d h m P G R Q) v13.toNatClampNeg := ⟨_, rfl⟩
                        obtain rfl : o9 = some (j_i r68) := er.trans (congrArg (fun r => some (j_i r)) (by rw [hr68]; rfl))
                        obtain rfl : H10 = h9 := e9.symm
                        have q69 : (Int32.ofInt (-1)).toInt = -1 := by decide
                        conv => whnf
                        refine ⟨w57.km, rfl, _, _, _, _, _, _, c_Mo_lateOfx w57 k57_s (by omega) clv53.symm e10 (fun k hk => (hs10 k hk).2), ⟨Nat.le_of_ble_eq_true rfl, Nat.le_of_ble_eq_true rfl, by (try dsimp only); omega, by (try dsimp only); omega⟩, fun _ _ z => False.elim z, ?_⟩
                        rintro o9 h9 ⟨e9, er⟩
                        obtain ⟨r70, hr70⟩ : ∃ r, r = z_gL (z_d h m P G R Q) v53.toNatClampNeg := ⟨_, rfl⟩
                        obtain rfl : o9 = some (j_i r70) := er.trans (congrArg (fun r => some (j_i r)) (by rw [hr70]; rfl))
                        obtain rfl : H10 = h9 := e9.symm
                        have u71 := j_ub r70
                        have u72 := j_ub r68
                        conv => whnf
                        refine ⟨fun c73 => ?_, fun c73 => ?_⟩
                        · have c73 : (r68).toInt ≤ (r70).toInt := c73
                          have t74 : (v53 + Int32.ofInt 1).toInt = v53.toInt + 1 := j_inc1 (by omega)
                          exact j_use hF (ihB55 _ _ _ (by (try dsimp only); omega) (by (try dsimp only); omega) (by omega) (by omega)) (And.intro rfl (And.intro rfl (And.intro rfl (And.intro rfl (And.intro rfl trivial)))))
                        · have c73 : ¬ (r68).toInt ≤ (r70).toInt := c73
                          obtain ⟨bi, bj⟩ := z_or0 (a := r9) hn13 (by omega) hn53 (by omega) (Decidable.not_not.mp c65)
                          have f := agF v13.toNatClampNeg v53.toNatClampNeg (by omega) (by omega) bi bj
                          rw [z_cxS (by omega) (by rw [← hr68, ← hr70]; omega)] at f
                          cases f
                    · have c64 : ¬ (v13).toInt = (v53).toInt := c64
                      conv => whnf
                      refine ⟨_, rfl, w57.km, fun o75 eo => ?_⟩
                      obtain rfl : o75 = some G := eo.symm.trans w57.eG
                      conv => whnf
                      refine ⟨w57.lG.1, rfl, _, _, _, _, _, _, c_AL_get (h := H10) w57.lG j_Sc.rf j_sf_ok (by omega) (by omega), ⟨Nat.le_of_ble_eq_true rfl, Nat.le_of_ble_eq_true rfl, by (try dsimp only); omega, by (try dsimp only); omega⟩, fun _ _ z => False.elim z, ?_⟩
                      rintro v9 h9 ⟨e9, g76, rfl, kg76, xg76⟩
                      obtain rfl : H10 = h9 := e9.symm
                      have feg76 := w57.aG.get (by omega) (by omega) xg76
                      conv => whnf
                      refine ⟨Or.inr ⟨_, rfl, kg76⟩, ?_⟩
                      conv => whnf
                      refine ⟨_, rfl, kg76, fun x77 ex77 => ?_⟩
                      conv => whnf
                      refine ⟨_, rfl, w57.km, fun o78 eo => ?_⟩
                      obtain rfl : o78 = some G := eo.symm.trans w57.eG
                      conv => whnf
                      refine ⟨w57.lG.1, rfl, _, _, _, _, _, _, c_AL_get (h := H10) w57.lG j_Sc.rf j_sf_ok (by omega) (by omega), ⟨Nat.le_of_ble_eq_true rfl, Nat.le_of_ble_eq_true rfl, by (try dsimp only); omega, by (try dsimp only); omega⟩, fun _ _ z => False.elim z, ?_⟩
                      rintro v9 h9 ⟨e9, g79, rfl, kg79, xg79⟩
                      obtain rfl : H10 = h9 := e9.symm
                      have feg79 := w57.aG.get (by omega) (by omega) xg79
                      conv => whnf
                      refine ⟨Or.inr ⟨_, rfl, kg79⟩, ?_⟩
                      conv => whnf
                      refine ⟨_, rfl, kg79, fun x80 ex80 => ?_⟩
                      have hx77 : x77 = (z_d h m P G R Q).2.2.1 v13.toNatClampNeg 0 := by rw [bed _ g76 (by omega) (by omega) (z_ml_get xg76)]; exact ex77.symm
                      have hx80 : x80 = (z_d h m P G R Q).2.2.1 v53.toNatClampNeg 0 := by rw [bed _ g79 (by omega) (by omega) (z_ml_get xg79)]; exact ex80.symm
                      have u81 := j_ub x80
                      have u82 := j_ub x77
                      conv => whnf
                      refine ⟨fun c83 => ?_, fun c83 => ?_⟩
                      · have c83 : (x77).toInt ≤ (x80).toInt := c83
                        conv => whnf
                        refine ⟨fun c84 => ?_, fun c84 => ?_⟩
                        · have c84 : ¬ ((((r9 >>> (v13 &&& 31)) ||| (r9 >>> (v53 &&& 31))) &&& Int32.ofInt (1))).toInt = 0 := c84
                          have t85 : (v53 + Int32.ofInt 1).toInt = v53.toInt + 1 := j_inc1 (by omega)
                          exact j_use hF (ihB55 _ _ _ (by (try dsimp only); omega) (by (try dsimp only); omega) (by omega) (by omega)) (And.intro rfl (And.intro rfl (And.intro rfl (And.intro rfl (And.intro rfl trivial)))))
                        · have c84 : ¬ ¬ ((((r9 >>> (v13 &&& 31)) ||| (r9 >>> (v53 &&& 31))) &&& Int32.ofInt (1))).toInt = 0 := c84
                          conv => whnf
                          refine ⟨fun _ => ?_, fun c => absurd (show (Int32.ofInt (0)).toInt = 0 by decide) (show ¬ (Int32.ofInt (0)).toInt = 0 from c)⟩
                          have t86 : (v53 + Int32.ofInt 1).toInt = v53.toInt + 1 := j_inc1 (by omega)
                          exact j_use hF (ihB55 _ _ _ (by (try dsimp only); omega) (by (try dsimp only); omega) (by omega) (by omega)) (And.intro rfl (And.intro rfl (And.intro rfl (And.intro rfl (And.intro rfl trivial)))))
                      · have c83 : ¬ (x77).toInt ≤ (x80).toInt := c83
                        conv => whnf
                        refine ⟨fun c87 => ?_, fun c87 => ?_⟩
                        · have c87 : ¬ ((((r9 >>> (v13 &&& 31)) ||| (r9 >>> (v53 &&& 31))) &&& Int32.ofInt (1))).toInt = 0 := c87
                          have t88 : (v53 + Int32.ofInt 1).toInt = v53.toInt + 1 := j_inc1 (by omega)
                          exact j_use hF (ihB55 _ _ _ (by (try dsimp only); omega) (by (try dsimp only); omega) (by omega) (by omega)) (And.intro rfl (And.intro rfl (And.intro rfl (And.intro rfl (And.intro rfl trivial)))))
                        · have c87 : ¬ ¬ ((((r9 >>> (v13 &&& 31)) ||| (r9 >>> (v53 &&& 31))) &&& Int32.ofInt (1))).toInt = 0 := c87
                          conv => whnf
                          refine ⟨fun c => absurd (show (Int32.ofInt (1)).toInt = 0 from c) (by decide), fun _ => ?_⟩
                          have q89 : (Int32.ofInt (-1)).toInt = -1 := by decide
                          conv => whnf
                          refine ⟨w57.km, rfl, _, _, _, _, _, _, c_Mo_earlyOfx w57 k57_s (by omega) clv13.symm e10 (fun k hk => (hs10 k hk).1), ⟨Nat.le_of_ble_eq_true rfl, Nat.le_of_ble_eq_true rfl, by (try dsimp only); omega, by (try dsimp only); omega⟩, fun _ _ z => False.elim z, ?_⟩
                          rintro o9 h9 ⟨e9, er⟩
                          obtain ⟨r90, hr90⟩ : ∃ r, r = z_gE (z_d h m P G R Q) v13.toNatClampNeg := ⟨_, rfl⟩
                          obtain rfl : o9 = some (j_i r90) := er.trans (congrArg (fun r => some (j_i r)) (by rw [hr90]; rfl))
                          obtain rfl : H10 = h9 := e9.symm
                          have q91 : (Int32.ofInt (-1)).toInt = -1 := by decide
                          conv => whnf
                          refine ⟨w57.km, rfl, _, _, _, _, _, _, c_Mo_lateOfx w57 k57_s (by omega) clv53.symm e10 (fun k hk => (hs10 k hk).2), ⟨Nat.le_of_ble_eq_true rfl, Nat.le_of_ble_eq_true rfl, by (try dsimp only); omega, by (try dsimp only); omega⟩, fun _ _ z => False.elim z, ?_⟩
                          rintro o9 h9 ⟨e9, er⟩
                          obtain ⟨r92, hr92⟩ : ∃ r, r = z_gL (z_d h m P G R Q) v53.toNatClampNeg := ⟨_, rfl⟩
                          obtain rfl : o9 = some (j_i r92) := er.trans (congrArg (fun r => some (j_i r)) (by rw [hr92]; rfl))
                          obtain rfl : H10 = h9 := e9.symm
                          have u93 := j_ub r92
                          have u94 := j_ub r90
                          conv => whnf
                          refine ⟨fun c95 => ?_, fun c95 => ?_⟩
                          · have c95 : (r90).toInt ≤ (r92).toInt := c95
                            have t96 : (v53 + Int32.ofInt 1).toInt = v53.toInt + 1 := j_inc1 (by omega)
                            exact j_use hF (ihB55 _ _ _ (by (try dsimp only); omega) (by (try dsimp only); omega) (by omega) (by omega)) (And.intro rfl (And.intro rfl (And.intro rfl (And.intro rfl (And.intro rfl trivial)))))
                          · have c95 : ¬ (r90).toInt ≤ (r92).toInt := c95
                            obtain ⟨bi, bj⟩ := z_or0 (a := r9) hn13 (by omega) hn53 (by omega) (Decidable.not_not.mp c87)
                            have f := agF v13.toNatClampNeg v53.toNatClampNeg (by omega) (by omega) bi bj
                            rw [z_cxU (by omega) (by rw [← hx77, ← hx80]; omega) (by rw [← hr90, ← hr92]; omega)] at f
                            cases f
              have q97 : (Int32.ofInt (0)).toInt = 0 := by decide
              exact j_use hF (L139_54 4294967296 _ _ _ (by (try dsimp only); omega) (by (try dsimp only); omega) (by omega) (by omega)) (And.intro rfl (And.intro rfl (And.intro rfl (And.intro rfl (And.intro rfl trivial)))))
        have q98 : (Int32.ofInt (0)).toInt = 0 := by decide
        exact j_use hF (L125_14 4294967296 _ _ _ (by (try dsimp only); omega) (by (try dsimp only); omega) (by omega) (by omega)) (And.intro rfl (And.intro rfl (And.intro rfl (And.intro rfl trivial))))
      · have c8 : ¬ ((j_it h G 2)).toInt ≤ (v1).toInt := c8
        conv => whnf
        refine ⟨_, rfl, w5.km, fun o99 eo => ?_⟩
        obtain rfl : o99 = some G := eo.symm.trans w5.eG
        conv => whnf
        refine ⟨w5.lG.1, rfl, _, _, _, _, _, _, c_AL_get (h := h) w5.lG j_Sc.rf j_sf_ok (by omega) (by omega), ⟨Nat.le_of_ble_eq_true rfl, Nat.le_of_ble_eq_true rfl, by (try dsimp only); omega, by (try dsimp only); omega⟩, fun _ _ z => False.elim z, ?_⟩
        rintro v9 h9 ⟨e9, g100, rfl, kg100, xg100⟩
        obtain rfl : h = h9 := e9.symm
        have y100 := z_ml_get xg100
        have feg100 := w5.aG.get (by omega) (by omega) xg100
        conv => whnf
        refine ⟨Or.inr ⟨_, rfl, kg100⟩, ?_⟩
        have L28_102 : ∀ (k : Nat) (v101 : Int32) (cn sn : Nat), cn ≤ 0 → sn ≤ 0 → 0 ≤ v101.toInt → (2147483647 - v101.toInt) < (k : Int) → J 28 [some (j_r (some m)), some (j_r (some s)), some (j_i v1), some (j_r (some g100)), some (j_i v101), none] [] h cn sn := by
          intro k
          induction k with
          | zero => intro v101 cn sn hcn hsn hn hm; exact absurd hm (by have := j_ub v101; omega)
          | succ k ihB103 =>
            intro v101 cn sn hcn hsn hn101 hmv101
            have sbB103 : j_Mf ρ m h h := j_Mf.rf
            have clv101 := j_clamp hn101
            have uv101 := j_ub v101; have lv101 := j_lb v101
            have zG105 := congrArg Int32.toInt (sbB103.sz w5.lG.1)
            have zR105 := congrArg Int32.toInt (sbB103.sz w5.lR.1)
            have zQ105 := congrArg Int32.toInt (sbB103.sz w5.lQ.1)
            have n105_s := sbB103.ln k5_s
            have k105_s := sbB103.kd k5_s
            have fe105_g100 := sbB103.gA kg100 feg100
            have k105_g100 := sbB103.kd kg100
            have w105 := w5.f sbB103
            have f105_0 := f5_0.tr sbB103
            have f105_B3 := sbB3.tr sbB103
            refine hJ [2, 28, 125, 139, 248] 400 _ _ _ _ _ _ ?_
            have q106 : (Int32.ofInt (2)).toInt = 2 := by decide
            have u107 := j_ub v101
            conv => whnf
            refine ⟨fun c108 => ?_, fun c108 => ?_⟩
            · have c108 : (Int32.ofInt (2)).toInt ≤ (v101).toInt := c108
              have q109 : (Int32.ofInt (0)).toInt = 0 := by decide
              conv => whnf
              refine ⟨w105.km, rfl, _, _, _, _, _, _, c_Mo_narrowedNowx w105 B.1 k105_s (by omega) ⟨by omega, by omega⟩ z_eq.rf hs, ⟨Nat.le_of_ble_eq_true rfl, Nat.le_of_ble_eq_true rfl, by (try dsimp only); omega, by (try dsimp only); omega⟩, fun _ _ z => False.elim z, ?_⟩
              rintro o9 h9 ⟨e9, er⟩
              obtain ⟨r110, hr110⟩ : ∃ r, r = z_nE (z_d h m P G R Q) v1.toNatClampNeg := ⟨_, rfl⟩
              obtain rfl : o9 = some (j_i r110) := er.trans (congrArg (fun r => some (j_i r)) (by rw [hr110]; exact if_pos (show (Int32.ofInt 0).toInt = 0 by decide)))
              obtain rfl : h = h9 := e9.symm
              have q111 : (Int32.ofInt (-1)).toInt = -1 := by decide
              conv => whnf
              refine ⟨w105.km, rfl, _, _, _, _, _, _, c_Mo_earlyOfx w105 k105_s (by omega) clv1.symm z_eq.rf (fun k hk => (hs k hk).1), ⟨Nat.le_of_ble_eq_true rfl, Nat.le_of_ble_eq_true rfl, by (try dsimp only); omega, by (try dsimp only); omega⟩, fun _ _ z => False.elim z, ?_⟩
              rintro o9 h9 ⟨e9, er⟩
              obtain ⟨r112, hr112⟩ : ∃ r, r = z_gE (z_d h m P G R Q) v1.toNatClampNeg := ⟨_, rfl⟩
              obtain rfl : o9 = some (j_i r112) := er.trans (congrArg (fun r => some (j_i r)) (by rw [hr112]; rfl))
              obtain rfl : h = h9 := e9.symm
              have u113 := j_ub r112
              have u114 := j_ub r110
              conv => whnf
              refine ⟨fun c115 => ?_, fun c115 => ?_⟩
              · have c115 : (r110).toInt < (r112).toInt := c115
                have b1 := (z_nE_b B.1 h1 (g := v1.toNatClampNeg)).1
                rw [← hr110, ← hr112] at b1
                omega
              · have c115 : ¬ (r110).toInt < (r112).toInt := c115
                have q116 : (Int32.ofInt (1)).toInt = 1 := by decide
                conv => whnf
                refine ⟨w105.km, rfl, _, _, _, _, _, _, c_Mo_narrowedNowx w105 B.1 k105_s (by omega) ⟨by omega, by omega⟩ z_eq.rf hs, ⟨Nat.le_of_ble_eq_true rfl, Nat.le_of_ble_eq_true rfl, by (try dsimp only); omega, by (try dsimp only); omega⟩, fun _ _ z => False.elim z, ?_⟩
                rintro o9 h9 ⟨e9, er⟩
                obtain ⟨r117, hr117⟩ : ∃ r, r = z_nL (z_d h m P G R Q) v1.toNatClampNeg := ⟨_, rfl⟩
                obtain rfl : o9 = some (j_i r117) := er.trans (congrArg (fun r => some (j_i r)) (by rw [hr117]; exact if_neg (show ¬ (Int32.ofInt 1).toInt = 0 by decide)))
                obtain rfl : h = h9 := e9.symm
                have q118 : (Int32.ofInt (-1)).toInt = -1 := by decide
                conv => whnf
                refine ⟨w105.km, rfl, _, _, _, _, _, _, c_Mo_lateOfx w105 k105_s (by omega) clv1.symm z_eq.rf (fun k hk => (hs k hk).2), ⟨Nat.le_of_ble_eq_true rfl, Nat.le_of_ble_eq_true rfl, by (try dsimp only); omega, by (try dsimp only); omega⟩, fun _ _ z => False.elim z, ?_⟩
                rintro o9 h9 ⟨e9, er⟩
                obtain ⟨r119, hr119⟩ : ∃ r, r = z_gL (z_d h m P G R Q) v1.toNatClampNeg := ⟨_, rfl⟩
                obtain rfl : o9 = some (j_i r119) := er.trans (congrArg (fun r => some (j_i r)) (by rw [hr119]; rfl))
                obtain rfl : h = h9 := e9.symm
                have u120 := j_ub r119
                have u121 := j_ub r117
                conv => whnf
                refine ⟨fun c122 => ?_, fun c122 => ?_⟩
                · have c122 : (r117).toInt ≤ (r119).toInt := c122
                  have t123 : (v1 + Int32.ofInt 1).toInt = v1.toInt + 1 := j_inc1 (by omega)
                  exact j_use hF (ihB3 _ _ _ (by (try dsimp only); omega) (by (try dsimp only); omega) (by omega) (by omega)) (And.intro rfl (And.intro rfl (And.intro rfl trivial)))
                · have c122 : ¬ (r117).toInt ≤ (r119).toInt := c122
                  have b1 := (z_nL_b B.1 h1 (g := v1.toNatClampNeg)).1
                  rw [← hr117, ← hr119] at b1
                  omega
            · have c108 : ¬ (Int32.ofInt (2)).toInt ≤ (v101).toInt := c108
              conv => whnf
              refine ⟨_, rfl, k105_g100, fun o124 eo => ?_⟩
              obtain ⟨b125, eb125, kb125, nb125, rb125⟩ := fe105_g100 0 (by decide)
              obtain rfl : o124 = some b125 := eo.symm.trans eb125
              conv => whnf
              refine ⟨_, _, rfl, kb125, rfl, j_vp (by omega) (by omega), fun x126 ex126 => ?_⟩
              conv => whnf
              refine ⟨_, rfl, k105_g100, fun o127 eo => ?_⟩
              obtain ⟨b128, eb128, kb128, nb128, rb128⟩ := fe105_g100 1 (by decide)
              obtain rfl : o127 = some b128 := eo.symm.trans eb128
              conv => whnf
              refine ⟨_, _, rfl, kb128, rfl, j_vp (by omega) (by omega), fun x129 ex129 => ?_⟩
              conv => whnf
              refine ⟨_, rfl, k105_g100, fun o130 eo => ?_⟩
              obtain ⟨b131, eb131, kb131, nb131, rb131⟩ := fe105_g100 2 (by decide)
              obtain rfl : o130 = some b131 := eo.symm.trans eb131
              conv => whnf
              refine ⟨_, _, rfl, kb131, rfl, j_vp (by omega) (by omega), fun x132 ex132 => ?_⟩
              conv => whnf
              refine ⟨_, rfl, k105_g100, fun o133 eo => ?_⟩
              obtain ⟨b134, eb134, kb134, nb134, rb134⟩ := fe105_g100 3 (by decide)
              obtain rfl : o133 = some b134 := eo.symm.trans eb134
              conv => whnf
              refine ⟨_, _, rfl, kb134, rfl, j_vp (by omega) (by omega), fun x135 ex135 => ?_⟩
              have u136 := j_ub x135
              conv => whnf
              refine ⟨fun c137 => ?_, fun c137 => ?_⟩
              · have c137 : (((x126 + x129) + x132)).toInt = (x135).toInt := c137
                have t138 : (v101 + Int32.ofInt 1).toInt = v101.toInt + 1 := j_inc1 (by omega)
                exact j_use hF (ihB103 _ _ _ (by (try dsimp only); omega) (by (try dsimp only); omega) (by omega) (by omega)) (And.intro rfl (And.intro rfl (And.intro rfl (And.intro rfl (And.intro rfl trivial)))))
              · have c137 : ¬ (((x126 + x129) + x132)).toInt = (x135).toInt := c137
                have m0 : (z_d h m P G R Q).2.1 v1.toNatClampNeg v101.toNatClampNeg 0 = x126 := by show j_it h ((j_rf h (z_ml h G v1.toNatClampNeg) 0).getD 0) v101.toNatClampNeg = x126; rw [y100, eb125]; exact ex126
                have m1 : (z_d h m P G R Q).2.1 v1.toNatClampNeg v101.toNatClampNeg 1 = x129 := by show j_it h ((j_rf h (z_ml h G v1.toNatClampNeg) 1).getD 0) v101.toNatClampNeg = x129; rw [y100, eb128]; exact ex129
                have m2 : (z_d h m P G R Q).2.1 v1.toNatClampNeg v101.toNatClampNeg 2 = x132 := by show j_it h ((j_rf h (z_ml h G v1.toNatClampNeg) 2).getD 0) v101.toNatClampNeg = x132; rw [y100, eb131]; exact ex132
                have m3 : (z_d h m P G R Q).2.1 v1.toNatClampNeg v101.toNatClampNeg 3 = x135 := by show j_it h ((j_rf h (z_ml h G v1.toNatClampNeg) 3).getD 0) v101.toNatClampNeg = x135; rw [y100, eb134]; exact ex135
                have u := B.2 v1.toNatClampNeg v101.toNatClampNeg (show (v1.toNatClampNeg : Int) < (j_it h G 2).toInt by omega) (by omega)
                rw [m0, m1, m2, m3] at u
                exact absurd (congrArg Int32.toInt u) c137
        have q139 : (Int32.ofInt (0)).toInt = 0 := by decide
        exact j_use hF (L28_102 4294967296 _ _ _ (by (try dsimp only); omega) (by (try dsimp only); omega) (by omega) (by omega)) (And.intro rfl (And.intro rfl (And.intro rfl (And.intro rfl (And.intro rfl trivial)))))
  have q140 : (Int32.ofInt (0)).toInt = 0 := by decide
  exact j_use hF (L2_2 4294967296 _ _ _ (by (try dsimp only); omega) (by (try dsimp only); omega) (by omega) (by omega)) (And.intro rfl (And.intro rfl (And.intro rfl trivial)))
