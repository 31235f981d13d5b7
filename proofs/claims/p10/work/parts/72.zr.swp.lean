/-! the model's swap told with its answer -/
set_option maxHeartbeats 4000000 in
set_option maxRecDepth 20000 in
theorem c_Mo_swapx {ρ : Nat → Nat} {h : j_H} {m P G R Q : Nat} {a : Int32} {b : Int32} (w : j_MX ρ h m P G R Q) (V : z_V (z_d h m P G R Q)) : j_Ct 219 4 90 1 40 [j_r (some m), j_i a, j_i b] h (z_MQ m P G R Q h (q_swap (z_d h m P G R Q) a b) (Int32.ofInt (z_dbn (n_swap (z_d h m P G R Q) a b) : Int)) (n_swap (z_d h m P G R Q) a b)) j_no := by
  refine j_intro km_219 (Nat.le_of_ble_eq_true rfl) ?_
  intro J hJ hF
  have wb := w.b
  refine hJ [] 400 _ _ _ _ _ _ ?_
  conv => whnf
  refine ⟨_, rfl, w.km, ?_⟩
  show j_go _ _ _ _ _ _ _ _ _ _ (j_up h m 0 (j_i (Int32.ofInt (0)))) _ _
  have st1 : j_Mf ρ m h (j_up h m 0 (j_i (Int32.ofInt (0)))) := j_Mf.fi w.km (by decide)
  have tH1 : j_it (j_up h m 0 (j_i (Int32.ofInt (0)))) m 0 = Int32.ofInt 0 := j_upi
  generalize j_up h m 0 (j_i (Int32.ofInt (0))) = H1 at st1 tH1 ⊢
  have zG1 := congrArg Int32.toInt (st1.sz w.lG.1)
  have zR1 := congrArg Int32.toInt (st1.sz w.lR.1)
  have zQ1 := congrArg Int32.toInt (st1.sz w.lQ.1)
  have w1 := w.f st1
  have f1_0 := (j_Mf.rf : j_Mf ρ m h h).tr st1
  have E1 := z_mfd w st1
  have QP : q_swap (z_d h m P G R Q) a b = q_swap (z_d H1 m P G R Q) a b := q_swap_c E1.sy
  conv => whnf
  refine ⟨w1.km, rfl, _, _, _, _, _, _, c_Mo_isRunx w1, ⟨Nat.le_of_ble_eq_true rfl, Nat.le_of_ble_eq_true rfl, by (try dsimp only); omega, by (try dsimp only); omega⟩, fun _ _ z => False.elim z, ?_⟩
  rintro v9 h9 ⟨e9, r2, rfl, zr2⟩
  have mr2 := j_zy zr2
  obtain rfl : H1 = h9 := e9.symm
  conv => whnf
  refine ⟨fun c3 => ?_, fun c3 => ?_⟩
  · have c3 : (r2).toInt = 0 := c3
    have q4 : (Int32.ofInt (1)).toInt = 1 := by decide
    conv => whnf
    refine ⟨w1.km, rfl, _, _, _, _, _, _, c_Mo_refusex w1.km, ⟨Nat.le_of_ble_eq_true rfl, Nat.le_of_ble_eq_true rfl, by (try dsimp only); omega, by (try dsimp only); omega⟩, fun _ _ z => False.elim z, ?_⟩
    rintro v9 H6 ⟨rfl, eH6⟩
    have st7 : j_Mf ρ m H1 H6 := by rw [eH6]; exact j_Mf.fi w1.km (by decide)
    have tH6 : j_it H6 m 0 = Int32.ofInt 1 := by rw [eH6]; exact j_upi
    have zG8 := congrArg Int32.toInt (st7.sz w1.lG.1)
    have zR8 := congrArg Int32.toInt (st7.sz w1.lR.1)
    have zQ8 := congrArg Int32.toInt (st7.sz w1.lQ.1)
    have w8 := w1.f st7
    have f8_0 := f1_0.tr st7
    conv => whnf
    exact ⟨trivial, ⟨Nat.le_of_ble_eq_true rfl, Nat.le_of_ble_eq_true rfl⟩, z_MQ.no w f8_0 tH6 (QP.trans (j_cqn (fun z => by have z1 : a.toInt < (j_it H1 R 2).toInt := z.1.2; have z0 := z.1.1; omega))) (by decide)⟩
  · have c3 : ¬ (r2).toInt = 0 := c3
    conv => whnf
    refine ⟨w1.km, rfl, _, _, _, _, _, _, c_Mo_isRunx w1, ⟨Nat.le_of_ble_eq_true rfl, Nat.le_of_ble_eq_true rfl, by (try dsimp only); omega, by (try dsimp only); omega⟩, fun _ _ z => False.elim z, ?_⟩
    rintro v9 h9 ⟨e9, r9, rfl, zr9⟩
    have mr9 := j_zy zr9
    obtain rfl : H1 = h9 := e9.symm
    conv => whnf
    refine ⟨fun c10 => ?_, fun c10 => ?_⟩
    · have c10 : ¬ (r9).toInt = 0 := c10
      have u11 := j_ub b
      have u12 := j_ub a
      conv => whnf
      refine ⟨fun c13 => ?_, fun c13 => ?_⟩
      · have c13 : ¬ (a).toInt = (b).toInt := c13
        conv => whnf
        refine ⟨w1.km, rfl, _, _, _, _, _, _, c_Mo_exchangex w1 ⟨by omega, by omega⟩ ⟨by omega, by omega⟩, ⟨Nat.le_of_ble_eq_true rfl, Nat.le_of_ble_eq_true rfl, by (try dsimp only); omega, by (try dsimp only); omega⟩, fun _ _ z => False.elim z, ?_⟩
        rintro v9 H15 ⟨rfl, eH15⟩
        have tH15 : j_it H15 m 0 = Int32.ofInt 0 := by
          rw [eH15]
          show z_ex (j_it H1) (z_ml H1 R a.toNatClampNeg) (z_ml H1 R b.toNatClampNeg) m 0 = _
          have la : (a.toNatClampNeg : Int) < (j_it H1 R 2).toInt := by rw [j_clamp (by omega)]; omega
          have lb : (b.toNatClampNeg : Int) < (j_it H1 R 2).toInt := by rw [j_clamp (by omega)]; omega
          rw [z_exq, if_pos rfl, if_neg (fun z => by have k1 := (w1.r lb).1; rw [← z, w1.km] at k1; cases k1), if_neg (fun z => by have k1 := (w1.r la).1; rw [← z, w1.km] at k1; cases k1)]
          exact tH1
        have la : (a.toNatClampNeg : Int) < (j_it H1 R 2).toInt := by rw [j_clamp (by omega)]; omega
        have lb : (b.toNatClampNeg : Int) < (j_it H1 R 2).toInt := by rw [j_clamp (by omega)]; omega
        have nab : a.toNatClampNeg ≠ b.toNatClampNeg := by
          have := j_clamp (i := a) (by omega)
          have := j_clamp (i := b) (by omega)
          omega
        have ok : (0 ≤ a.toInt ∧ a.toInt < ((z_d H1 m P G R Q).1 1).toInt) ∧ 0 ≤ b.toInt ∧ b.toInt < ((z_d H1 m P G R Q).1 1).toInt := ⟨⟨by omega, show a.toInt < (j_it H1 R 2).toInt by omega⟩, by omega, show b.toInt < (j_it H1 R 2).toInt by omega⟩
        have wg : j_MX ρ H15 m P G R Q ∧ j_Mg m G R Q H1 H15 := by
          rw [eH15]
          refine w1.wi (it := z_ex (j_it H1) (z_ml H1 R a.toNatClampNeg) (z_ml H1 R b.toNatClampNeg)) (fun q f hq hn => ?_)
          rw [z_exq]
          by_cases y : f = 0
          · have hn : j_kd H1 q ≠ some (.inl 11) := fun z => hn (Or.inr (Or.inr (Or.inr ⟨z, by omega⟩)))
            rw [if_pos y, if_neg (fun z => hn (by rw [z]; exact (w1.r lb).1)), if_neg (fun z => hn (by rw [z]; exact (w1.r la).1)), y]
          · rw [if_neg y]
        obtain ⟨w17, g17⟩ := wg
        have E17 : z_eq (z_d H15 m P G R Q) (n_swap (z_d h m P G R Q) a b) := by
          rw [eH15]
          exact (z_exc w1 la lb nab).tr (n_swap_c E1 la lb)
        have zR17 : (j_it H15 R 2).toInt = (j_it h R 2).toInt := congrArg Int32.toInt (E17.1 1 (by decide))
        conv => whnf
        refine ⟨w17.km, rfl, _, _, _, _, _, _, c_Mo_spansx w17 ((z_V.swap V).eq E17), ⟨Nat.le_of_ble_eq_true rfl, Nat.le_of_ble_eq_true rfl, by (try dsimp only); omega, by (try dsimp only); omega⟩, fun _ _ z => False.elim z, ?_⟩
        rintro v9 H19 ⟨⟨st20, tH19⟩, r18, rfl, kr18, nr18, vr18⟩
        have zG21 := congrArg Int32.toInt (st20.sz w17.lG.1)
        have zR21 := congrArg Int32.toInt (st20.sz w17.lR.1)
        have zQ21 := congrArg Int32.toInt (st20.sz w17.lQ.1)
        have w21 := w17.f st20
        have E21 := (z_mfd w17 st20).tr E17
        conv => whnf
        refine ⟨w21.km, rfl, _, _, _, _, _, _, c_Mo_doublesx w21 kr18 (by omega) (z_mfd w17 st20) (fun k hk => vr18 k (by omega)), ⟨Nat.le_of_ble_eq_true rfl, Nat.le_of_ble_eq_true rfl, by (try dsimp only); omega, by (try dsimp only); omega⟩, fun _ _ z => False.elim z, ?_⟩
        rintro v9 h9 ⟨e9, r22, rfl, hr22⟩
        have hA22 : r22 = (Int32.ofInt (z_dbn (n_swap (z_d h m P G R Q) a b) : Int)) := z_ofR (hr22.trans (congrArg Int.ofNat (z_dbn_c E17 (by show 0 ≤ (j_it H15 R 2).toInt; have := w17.b; omega))))
        obtain rfl : H19 = h9 := e9.symm
        conv => whnf
        exact ⟨trivial, ⟨Nat.le_of_ble_eq_true rfl, Nat.le_of_ble_eq_true rfl⟩, z_MQ.ok ⟨ρ, w21⟩ (((st1.mg w).tr w1 g17).tr w17 (st20.mg w17)) (tH19.trans tH15) (QP.trans ((j_cqp ok).trans (j_cqp c13))) E21 hA22⟩
      · have c13 : ¬ ¬ (a).toInt = (b).toInt := c13
        have q23 : (Int32.ofInt (2)).toInt = 2 := by decide
        conv => whnf
        refine ⟨w1.km, rfl, _, _, _, _, _, _, c_Mo_refusex w1.km, ⟨Nat.le_of_ble_eq_true rfl, Nat.le_of_ble_eq_true rfl, by (try dsimp only); omega, by (try dsimp only); omega⟩, fun _ _ z => False.elim z, ?_⟩
        rintro v9 H25 ⟨rfl, eH25⟩
        have st26 : j_Mf ρ m H1 H25 := by rw [eH25]; exact j_Mf.fi w1.km (by decide)
        have tH25 : j_it H25 m 0 = Int32.ofInt 2 := by rw [eH25]; exact j_upi
        have zG27 := congrArg Int32.toInt (st26.sz w1.lG.1)
        have zR27 := congrArg Int32.toInt (st26.sz w1.lR.1)
        have zQ27 := congrArg Int32.toInt (st26.sz w1.lQ.1)
        have w27 := w1.f st26
        have f27_0 := f1_0.tr st26
        conv => whnf
        exact ⟨trivial, ⟨Nat.le_of_ble_eq_true rfl, Nat.le_of_ble_eq_true rfl⟩, z_MQ.no w f27_0 tH25 (QP.trans ((j_cqp (⟨⟨by omega, show a.toInt < (j_it H1 R 2).toInt by omega⟩, by omega, show b.toInt < (j_it H1 R 2).toInt by omega⟩ : (0 ≤ a.toInt ∧ a.toInt < ((z_d H1 m P G R Q).1 1).toInt) ∧ 0 ≤ b.toInt ∧ b.toInt < ((z_d H1 m P G R Q).1 1).toInt)).trans (j_cqn c13))) (by decide)⟩
    · have c10 : ¬ ¬ (r9).toInt = 0 := c10
      have q28 : (Int32.ofInt (1)).toInt = 1 := by decide
      conv => whnf
      refine ⟨w1.km, rfl, _, _, _, _, _, _, c_Mo_refusex w1.km, ⟨Nat.le_of_ble_eq_true rfl, Nat.le_of_ble_eq_true rfl, by (try dsimp only); omega, by (try dsimp only); omega⟩, fun _ _ z => False.elim z, ?_⟩
      rintro v9 H30 ⟨rfl, eH30⟩
      have st31 : j_Mf ρ m H1 H30 := by rw [eH30]; exact j_Mf.fi w1.km (by decide)
      have tH30 : j_it H30 m 0 = Int32.ofInt 1 := by rw [eH30]; exact j_upi
      have zG32 := congrArg Int32.toInt (st31.sz w1.lG.1)
      have zR32 := congrArg Int32.toInt (st31.sz w1.lR.1)
      have zQ32 := congrArg Int32.toInt (st31.sz w1.lQ.1)
      have w32 := w1.f st31
      have f32_0 := f1_0.tr st31
      conv => whnf
      exact ⟨trivial, ⟨Nat.le_of_ble_eq_true rfl, Nat.le_of_ble_eq_true rfl⟩, z_MQ.no w f32_0 tH30 (QP.trans (j_cqn (fun z => by have z1 : b.toInt < (j_it H1 R 2).toInt := z.2.2; have z0 := z.2.1; omega))) (by decide)⟩
