set_option maxHeartbeats 4000000 in
set_option maxRecDepth 20000 in
theorem c_Mo_touchx {ρ : Nat → Nat} {h : j_H} {m P G R Q t0 : Nat} {a b c : Int32} (w : j_MX ρ h m P G R Q) (ha : 0 ≤ a.toInt ∧ a.toInt < (j_it h G 2).toInt) (hc : (c.toInt = 0 ∧ t0 = 0) ∨ (¬ c.toInt = 0 ∧ t0 = 1)) : j_Ct 223 3 64 0 0 [j_r (some m), j_i a, j_i b, j_i c] h (fun v h' => v = some (j_i (a_touch t0 (z_d h m P G R Q) a b)) ∧ j_MX ρ h' m P G R Q ∧ j_Mg m G R Q h h' ∧ z_eq (z_d h' m P G R Q) (n_touch t0 (z_d h m P G R Q) a b) ∧ ∀ f, j_it h' m f = j_it h m f) j_no := by
  refine j_intro km_223 (Nat.le_of_ble_eq_true rfl) ?_
  intro J hJ hF
  have ht : t0 < 2 := by
    rcases hc with ⟨-, z⟩ | ⟨-, z⟩
    · omega
    · omega
  have hk : (a.toNatClampNeg : Int) < (j_it h G 2).toInt := by rw [j_clamp ha.1]; exact ha.2
  have c0 : (Int32.ofInt 0).toNatClampNeg = 0 := by decide
  have c1 : (Int32.ofInt 1).toNatClampNeg = 1 := by decide
  have v0 : vp_in (Int32.ofInt 0) 2 := j_vp (by decide) (by decide)
  have v1 : vp_in (Int32.ofInt 1) 2 := j_vp (by decide) (by decide)
  refine hJ [] 400 _ _ _ _ _ _ ?_
  conv => whnf
  refine ⟨_, rfl, w.km, fun o1 eo => ?_⟩
  obtain rfl : o1 = some G := eo.symm.trans w.eG
  conv => whnf
  refine ⟨w.lG.1, rfl, _, _, _, _, _, _, c_AL_get (h := h) w.lG j_Sc.rf j_sf_ok ha.1 ha.2, ⟨Nat.le_of_ble_eq_true rfl, Nat.le_of_ble_eq_true rfl, Nat.le_of_ble_eq_true rfl, Nat.le_of_ble_eq_true rfl⟩, fun _ _ z => False.elim z, ?_⟩
  rintro v9 h9 ⟨e9, g2, rfl, kg2, xg2⟩
  obtain rfl : h = h9 := e9.symm
  have he : z_ml h G a.toNatClampNeg = g2 := z_ml_get xg2
  obtain ⟨bf, f1, f2, f3, f4, f5⟩ := w.ga hk (show t0 < 4 by omega)
  obtain ⟨bg, g3, g4, g5, g6, g7⟩ := w.ga hk (show 2 < 4 by decide)
  have nfg : bf ≠ bg := fun z => by
    have := (w.ai hk hk (show t0 < 4 by omega) (show 2 < 4 by decide) f1 (by rw [z]; exact g3)).2
    omega
  rw [he] at f1 g3
  conv => whnf
  refine ⟨Or.inr ⟨_, rfl, kg2⟩, ?_⟩
  conv => whnf
  refine ⟨Or.inr rfl, ?_⟩
  conv => whnf
  refine ⟨_, rfl, kg2, ?_⟩
  conv => whnf
  refine ⟨fun c4 => ?_, fun c4 => ?_⟩
  · have c4 : c.toInt = 0 := c4
    obtain rfl : t0 = 0 := by
      rcases hc with ⟨z, q⟩ | ⟨z, q⟩
      · exact q
      · exact absurd c4 z
    conv => whnf
    refine ⟨_, rfl, kg2, fun o5 eo => ?_⟩
    obtain rfl : o5 = some bf := eo.symm.trans f1
    conv => whnf
    refine ⟨_, rfl, kg2, fun o7 eo => ?_⟩
    obtain rfl : o7 = some bg := eo.symm.trans g3
    conv => whnf
    refine ⟨rfl, _, _, _, _, _, _, c_Mo_takesx (h := h) (it := j_u (j_it h) g2 6 (Int32.ofInt 1)) (a := Int32.ofInt 0) (b := b) f2 (by rw [f3]; exact v0) g4 (by rw [g5]; exact v0) nfg, ⟨Nat.le_of_ble_eq_true rfl, Nat.le_of_ble_eq_true rfl, Nat.le_of_ble_eq_true rfl, Nat.le_of_ble_eq_true rfl⟩, fun _ _ z => False.elim z, ?_⟩
    rintro v9 h9 ⟨rfl, rfl⟩
    conv => whnf
    refine ⟨_, rfl, kg2, fun o14 eo => ?_⟩
    obtain rfl : o14 = some bg := eo.symm.trans g3
    conv => whnf
    refine ⟨rfl, _, _, _, _, _, _, c_Mo_takesx (h := h) (a := Int32.ofInt 1) (b := b) f2 (by rw [f3]; exact v1) g4 (by rw [g5]; exact v1) nfg, ⟨Nat.le_of_ble_eq_true rfl, Nat.le_of_ble_eq_true rfl, Nat.le_of_ble_eq_true rfl, Nat.le_of_ble_eq_true rfl⟩, fun _ _ z => False.elim z, ?_⟩
    rintro v9 h9 ⟨rfl, rfl⟩
    rw [c0, c1]
    obtain ⟨x1, x2, x3, x4, x5, x6⟩ := z_touchedM (a := a) (s := b) w ht hk he f1 g3 rfl rfl rfl
    conv => whnf
    refine ⟨trivial, ⟨Nat.le_of_ble_eq_true rfl, Nat.le_of_ble_eq_true rfl⟩, ?_, x1, x2, x3, x6⟩
    show some (j_i _) = some (j_i (z_take (z_dm h G a.toNatClampNeg 0 0) b + z_take (z_dm h G a.toNatClampNeg 1 0) b))
    rw [← x4, ← x5]
  · have c4 : ¬ c.toInt = 0 := c4
    obtain rfl : t0 = 1 := by
      rcases hc with ⟨z, q⟩ | ⟨z, q⟩
      · exact absurd z c4
      · exact q
    conv => whnf
    refine ⟨_, rfl, kg2, fun o5 eo => ?_⟩
    obtain rfl : o5 = some bf := eo.symm.trans f1
    conv => whnf
    refine ⟨_, rfl, kg2, fun o7 eo => ?_⟩
    obtain rfl : o7 = some bg := eo.symm.trans g3
    conv => whnf
    refine ⟨rfl, _, _, _, _, _, _, c_Mo_takesx (h := h) (it := j_u (j_it h) g2 6 (Int32.ofInt 1)) (a := Int32.ofInt 0) (b := b) f2 (by rw [f3]; exact v0) g4 (by rw [g5]; exact v0) nfg, ⟨Nat.le_of_ble_eq_true rfl, Nat.le_of_ble_eq_true rfl, Nat.le_of_ble_eq_true rfl, Nat.le_of_ble_eq_true rfl⟩, fun _ _ z => False.elim z, ?_⟩
    rintro v9 h9 ⟨rfl, rfl⟩
    conv => whnf
    refine ⟨_, rfl, kg2, fun o14 eo => ?_⟩
    obtain rfl : o14 = some bg := eo.symm.trans g3
    conv => whnf
    refine ⟨rfl, _, _, _, _, _, _, c_Mo_takesx (h := h) (a := Int32.ofInt 1) (b := b) f2 (by rw [f3]; exact v1) g4 (by rw [g5]; exact v1) nfg, ⟨Nat.le_of_ble_eq_true rfl, Nat.le_of_ble_eq_true rfl, Nat.le_of_ble_eq_true rfl, Nat.le_of_ble_eq_true rfl⟩, fun _ _ z => False.elim z, ?_⟩
    rintro v9 h9 ⟨rfl, rfl⟩
    rw [c0, c1]
    obtain ⟨x1, x2, x3, x4, x5, x6⟩ := z_touchedM (a := a) (s := b) w ht hk he f1 g3 rfl rfl rfl
    conv => whnf
    refine ⟨trivial, ⟨Nat.le_of_ble_eq_true rfl, Nat.le_of_ble_eq_true rfl⟩, ?_, x1, x2, x3, x6⟩
    show some (j_i _) = some (j_i (z_take (z_dm h G a.toNatClampNeg 0 1) b + z_take (z_dm h G a.toNatClampNeg 1 1) b))
    rw [← x4, ← x5]
set_option maxHeartbeats 4000000 in
set_option maxRecDepth 20000 in
theorem c_Mo_heatz {ρ : Nat → Nat} {h : j_H} {m P G R Q : Nat} {a b : Int32} (w : j_MX ρ h m P G R Q) : j_Ct 181 4 89 0 0 [j_r (some m), j_i a, j_i b] h (z_MQ m P G R Q h (q_touch (z_d h m P G R Q) a b) (a_touch 1 (z_d h m P G R Q) a b) (n_touch 1 (z_d h m P G R Q) a b)) j_no := by
  refine j_intro km_181 (Nat.le_of_ble_eq_true rfl) ?_
  intro J hJ hF
  have z0 : (Int32.ofInt 0).toInt = 0 := by decide
  have z1 : (Int32.ofInt 1).toInt = 1 := by decide
  have z100 : ((Int8.ofInt (100)).toInt32).toInt = 100 := by decide
  refine hJ [] 400 _ _ _ _ _ _ ?_
  conv => whnf
  refine ⟨_, rfl, w.km, ?_⟩
  show j_go _ _ _ _ _ _ _ _ _ _ (j_up h m 0 (j_i (Int32.ofInt (0)))) _ _
  have st1 : j_Mf ρ m h (j_up h m 0 (j_i (Int32.ofInt (0)))) := j_Mf.fi w.km (by decide)
  have tH1 : j_it (j_up h m 0 (j_i (Int32.ofInt (0)))) m 0 = Int32.ofInt 0 := j_upi
  generalize j_up h m 0 (j_i (Int32.ofInt (0))) = H1 at st1 tH1 ⊢
  have w1 := w.f st1
  have nG : j_it H1 G 2 = (z_d h m P G R Q).1 0 := st1.sz w.lG.1
  conv => whnf
  refine ⟨w1.km, rfl, _, _, _, _, _, _, c_Mo_isGrainx w1, ⟨Nat.le_of_ble_eq_true rfl, Nat.le_of_ble_eq_true rfl, Nat.le_of_ble_eq_true rfl, Nat.le_of_ble_eq_true rfl⟩, fun _ _ z => False.elim z, ?_⟩
  rintro v9 h9 ⟨e9, r2, rfl, zr2⟩
  have mr2 := j_zy zr2
  obtain rfl : H1 = h9 := e9.symm
  conv => whnf
  refine ⟨fun c3 => ?_, fun c3 => ?_⟩
  · have c3 : ¬ r2.toInt = 0 := c3
    have ka : 0 ≤ a.toInt ∧ a.toInt < (j_it H1 G 2).toInt := by
      rcases mr2 with ⟨-, q⟩ | ⟨q, -⟩
      · exact q
      · exact absurd q c3
    have ka' : 0 ≤ a.toInt ∧ a.toInt < ((z_d h m P G R Q).1 0).toInt := by rw [← nG]; exact ka
    conv => whnf
    refine ⟨rfl, _, _, _, _, _, _, c_Mo_isx, ⟨Nat.le_of_ble_eq_true rfl, Nat.le_of_ble_eq_true rfl, Nat.le_of_ble_eq_true rfl, Nat.le_of_ble_eq_true rfl⟩, fun _ _ z => False.elim z, ?_⟩
    rintro v9 h9 ⟨e9, r6, rfl, zr6⟩
    have mr6 := j_zx zr6
    obtain rfl : H1 = h9 := e9.symm
    conv => whnf
    refine ⟨fun c7 => ?_, fun c7 => ?_⟩
    · have c7 : r6.toInt = 0 := c7
      have kb : ¬ (0 ≤ b.toInt ∧ b.toInt ≤ 100) := by
        rcases mr6 with ⟨q, -⟩ | ⟨-, q⟩
        · exact absurd c7 q
        · intro z
          refine q ⟨?_, ?_⟩
          · show (Int32.ofInt 0).toInt ≤ _; rw [z0]; exact z.1
          · show _ ≤ ((Int8.ofInt (100)).toInt32).toInt; rw [z100]; exact z.2
      conv => whnf
      refine ⟨w1.km, rfl, _, _, _, _, _, _, c_Mo_refusex w1.km, ⟨Nat.le_of_ble_eq_true rfl, Nat.le_of_ble_eq_true rfl, Nat.le_of_ble_eq_true rfl, Nat.le_of_ble_eq_true rfl⟩, fun _ _ z => False.elim z, ?_⟩
      rintro v9 H6 ⟨rfl, eH6⟩
      have st7 : j_Mf ρ m H1 H6 := by rw [eH6]; exact j_Mf.fi w1.km (by decide)
      have tH6 : j_it H6 m 0 = Int32.ofInt 2 := by rw [eH6]; exact j_upi
      conv => whnf
      exact ⟨trivial, ⟨Nat.le_of_ble_eq_true rfl, Nat.le_of_ble_eq_true rfl⟩, z_MQ.no w (st1.tr st7) tH6 ((j_cqp ka').trans (j_cqn kb)) (by decide)⟩
    · have c7 : ¬ r6.toInt = 0 := c7
      have kb : 0 ≤ b.toInt ∧ b.toInt ≤ 100 := by
        rcases mr6 with ⟨-, q1, q2⟩ | ⟨q, -⟩
        · have q1 : (Int32.ofInt 0).toInt ≤ b.toInt := q1
          have q2 : b.toInt ≤ ((Int8.ofInt (100)).toInt32).toInt := q2
          rw [z0] at q1
          rw [z100] at q2
          exact ⟨q1, q2⟩
        · exact absurd q c7
      conv => whnf
      refine ⟨w1.km, rfl, _, _, _, _, _, _, c_Mo_touchx (t0 := 1) w1 ka (Or.inr ⟨by decide, rfl⟩), ⟨Nat.le_of_ble_eq_true rfl, Nat.le_of_ble_eq_true rfl, Nat.le_of_ble_eq_true rfl, Nat.le_of_ble_eq_true rfl⟩, fun _ _ z => False.elim z, ?_⟩
      rintro v9 h9 ⟨rfl, x1, x2, x3, x6⟩
      have e1 := z_mfd w st1
      have hk : z_lt (z_d H1 m P G R Q) 0 a.toNatClampNeg := by
        show (a.toNatClampNeg : Int) < (j_it H1 G 2).toInt
        rw [j_clamp ka.1]; exact ka.2
      conv => whnf
      exact ⟨trivial, ⟨Nat.le_of_ble_eq_true rfl, Nat.le_of_ble_eq_true rfl⟩, z_MQ.ok ⟨ρ, x1⟩ ((st1.mg w).tr w1 x2) ((x6 0).trans tH1) ((j_cqp ka').trans (j_cqp kb)) (x3.tr (n_touch_c (by decide) e1)) (a_touch_c (by decide) e1 hk)⟩
  · have c3 : ¬ ¬ r2.toInt = 0 := c3
    have ka' : ¬ (0 ≤ a.toInt ∧ a.toInt < ((z_d h m P G R Q).1 0).toInt) := by
      rw [← nG]
      rcases mr2 with ⟨q, -⟩ | ⟨-, q⟩
      · exact absurd q c3
      · exact q
    conv => whnf
    refine ⟨w1.km, rfl, _, _, _, _, _, _, c_Mo_refusex w1.km, ⟨Nat.le_of_ble_eq_true rfl, Nat.le_of_ble_eq_true rfl, Nat.le_of_ble_eq_true rfl, Nat.le_of_ble_eq_true rfl⟩, fun _ _ z => False.elim z, ?_⟩
    rintro v9 H6 ⟨rfl, eH6⟩
    have st7 : j_Mf ρ m H1 H6 := by rw [eH6]; exact j_Mf.fi w1.km (by decide)
    have tH6 : j_it H6 m 0 = Int32.ofInt 1 := by rw [eH6]; exact j_upi
    conv => whnf
    exact ⟨trivial, ⟨Nat.le_of_ble_eq_true rfl, Nat.le_of_ble_eq_true rfl⟩, z_MQ.no w (st1.tr st7) tH6 (j_cqn ka') (by decide)⟩
set_option maxHeartbeats 4000000 in
set_option maxRecDepth 20000 in
theorem c_Mo_washz {ρ : Nat → Nat} {h : j_H} {m P G R Q : Nat} {a b : Int32} (w : j_MX ρ h m P G R Q) : j_Ct 224 4 89 0 0 [j_r (some m), j_i a, j_i b] h (z_MQ m P G R Q h (q_touch (z_d h m P G R Q) a b) (a_touch 0 (z_d h m P G R Q) a b) (n_touch 0 (z_d h m P G R Q) a b)) j_no := by
  refine j_intro km_224 (Nat.le_of_ble_eq_true rfl) ?_
  intro J hJ hF
  have z0 : (Int32.ofInt 0).toInt = 0 := by decide
  have z1 : (Int32.ofInt 1).toInt = 1 := by decide
  have z100 : ((Int8.ofInt (100)).toInt32).toInt = 100 := by decide
  refine hJ [] 400 _ _ _ _ _ _ ?_
  conv => whnf
  refine ⟨_, rfl, w.km, ?_⟩
  show j_go _ _ _ _ _ _ _ _ _ _ (j_up h m 0 (j_i (Int32.ofInt (0)))) _ _
  have st1 : j_Mf ρ m h (j_up h m 0 (j_i (Int32.ofInt (0)))) := j_Mf.fi w.km (by decide)
  have tH1 : j_it (j_up h m 0 (j_i (Int32.ofInt (0)))) m 0 = Int32.ofInt 0 := j_upi
  generalize j_up h m 0 (j_i (Int32.ofInt (0))) = H1 at st1 tH1 ⊢
  have w1 := w.f st1
  have nG : j_it H1 G 2 = (z_d h m P G R Q).1 0 := st1.sz w.lG.1
  conv => whnf
  refine ⟨w1.km, rfl, _, _, _, _, _, _, c_Mo_isGrainx w1, ⟨Nat.le_of_ble_eq_true rfl, Nat.le_of_ble_eq_true rfl, Nat.le_of_ble_eq_true rfl, Nat.le_of_ble_eq_true rfl⟩, fun _ _ z => False.elim z, ?_⟩
  rintro v9 h9 ⟨e9, r2, rfl, zr2⟩
  have mr2 := j_zy zr2
  obtain rfl : H1 = h9 := e9.symm
  conv => whnf
  refine ⟨fun c3 => ?_, fun c3 => ?_⟩
  · have c3 : ¬ r2.toInt = 0 := c3
    have ka : 0 ≤ a.toInt ∧ a.toInt < (j_it H1 G 2).toInt := by
      rcases mr2 with ⟨-, q⟩ | ⟨q, -⟩
      · exact q
      · exact absurd q c3
    have ka' : 0 ≤ a.toInt ∧ a.toInt < ((z_d h m P G R Q).1 0).toInt := by rw [← nG]; exact ka
    conv => whnf
    refine ⟨rfl, _, _, _, _, _, _, c_Mo_isx, ⟨Nat.le_of_ble_eq_true rfl, Nat.le_of_ble_eq_true rfl, Nat.le_of_ble_eq_true rfl, Nat.le_of_ble_eq_true rfl⟩, fun _ _ z => False.elim z, ?_⟩
    rintro v9 h9 ⟨e9, r6, rfl, zr6⟩
    have mr6 := j_zx zr6
    obtain rfl : H1 = h9 := e9.symm
    conv => whnf
    refine ⟨fun c7 => ?_, fun c7 => ?_⟩
    · have c7 : r6.toInt = 0 := c7
      have kb : ¬ (0 ≤ b.toInt ∧ b.toInt ≤ 100) := by
        rcases mr6 with ⟨q, -⟩ | ⟨-, q⟩
        · exact absurd c7 q
        · intro z
          refine q ⟨?_, ?_⟩
          · show (Int32.ofInt 0).toInt ≤ _; rw [z0]; exact z.1
          · show _ ≤ ((Int8.ofInt (100)).toInt32).toInt; rw [z100]; exact z.2
      conv => whnf
      refine ⟨w1.km, rfl, _, _, _, _, _, _, c_Mo_refusex w1.km, ⟨Nat.le_of_ble_eq_true rfl, Nat.le_of_ble_eq_true rfl, Nat.le_of_ble_eq_true rfl, Nat.le_of_ble_eq_true rfl⟩, fun _ _ z => False.elim z, ?_⟩
      rintro v9 H6 ⟨rfl, eH6⟩
      have st7 : j_Mf ρ m H1 H6 := by rw [eH6]; exact j_Mf.fi w1.km (by decide)
      have tH6 : j_it H6 m 0 = Int32.ofInt 2 := by rw [eH6]; exact j_upi
      conv => whnf
      exact ⟨trivial, ⟨Nat.le_of_ble_eq_true rfl, Nat.le_of_ble_eq_true rfl⟩, z_MQ.no w (st1.tr st7) tH6 ((j_cqp ka').trans (j_cqn kb)) (by decide)⟩
    · have c7 : ¬ r6.toInt = 0 := c7
      have kb : 0 ≤ b.toInt ∧ b.toInt ≤ 100 := by
        rcases mr6 with ⟨-, q1, q2⟩ | ⟨q, -⟩
        · have q1 : (Int32.ofInt 0).toInt ≤ b.toInt := q1
          have q2 : b.toInt ≤ ((Int8.ofInt (100)).toInt32).toInt := q2
          rw [z0] at q1
          rw [z100] at q2
          exact ⟨q1, q2⟩
        · exact absurd q c7
      conv => whnf
      refine ⟨w1.km, rfl, _, _, _, _, _, _, c_Mo_touchx (t0 := 0) w1 ka (Or.inl ⟨by decide, rfl⟩), ⟨Nat.le_of_ble_eq_true rfl, Nat.le_of_ble_eq_true rfl, Nat.le_of_ble_eq_true rfl, Nat.le_of_ble_eq_true rfl⟩, fun _ _ z => False.elim z, ?_⟩
      rintro v9 h9 ⟨rfl, x1, x2, x3, x6⟩
      have e1 := z_mfd w st1
      have hk : z_lt (z_d H1 m P G R Q) 0 a.toNatClampNeg := by
        show (a.toNatClampNeg : Int) < (j_it H1 G 2).toInt
        rw [j_clamp ka.1]; exact ka.2
      conv => whnf
      exact ⟨trivial, ⟨Nat.le_of_ble_eq_true rfl, Nat.le_of_ble_eq_true rfl⟩, z_MQ.ok ⟨ρ, x1⟩ ((st1.mg w).tr w1 x2) ((x6 0).trans tH1) ((j_cqp ka').trans (j_cqp kb)) (x3.tr (n_touch_c (by decide) e1)) (a_touch_c (by decide) e1 hk)⟩
  · have c3 : ¬ ¬ r2.toInt = 0 := c3
    have ka' : ¬ (0 ≤ a.toInt ∧ a.toInt < ((z_d h m P G R Q).1 0).toInt) := by
      rw [← nG]
      rcases mr2 with ⟨q, -⟩ | ⟨-, q⟩
      · exact absurd q c3
      · exact q
    conv => whnf
    refine ⟨w1.km, rfl, _, _, _, _, _, _, c_Mo_refusex w1.km, ⟨Nat.le_of_ble_eq_true rfl, Nat.le_of_ble_eq_true rfl, Nat.le_of_ble_eq_true rfl, Nat.le_of_ble_eq_true rfl⟩, fun _ _ z => False.elim z, ?_⟩
    rintro v9 H6 ⟨rfl, eH6⟩
    have st7 : j_Mf ρ m H1 H6 := by rw [eH6]; exact j_Mf.fi w1.km (by decide)
    have tH6 : j_it H6 m 0 = Int32.ofInt 1 := by rw [eH6]; exact j_upi
    conv => whnf
    exact ⟨trivial, ⟨Nat.le_of_ble_eq_true rfl, Nat.le_of_ble_eq_true rfl⟩, z_MQ.no w (st1.tr st7) tH6 (j_cqn ka') (by decide)⟩
