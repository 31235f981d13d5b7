/-! the model's ofPrint: word for word -/
set_option maxHeartbeats 4000000 in
set_option maxRecDepth 20000 in
theorem c_Mo_standsOn_nx {ρ : Nat → Nat} {h : j_H} {m P G R Q : Nat} (w : j_MX ρ h m P G R Q) : ∀ (n : Nat) {a : Int32} (ha : 0 ≤ a.toInt ∧ a.toInt < (j_it h Q 2).toInt), a.toInt < (n : Int) → j_Ct 218 (4 + n) (300 + 40 * n) 0 0 [j_r (some m), j_i a] h (fun v h' => h' = h ∧ v = some (j_i (z_bl (z_d h m P G R Q) a.toNatClampNeg))) j_no := by
  have wb := w.b
  intro n
  induction n with
  | zero => intro a ha hn; omega
  | succ n ih =>
    intro a ha hn
    refine j_intro km_218 (Nat.le_of_ble_eq_true rfl) ?_
    intro J hJ hF
    refine hJ [] 400 _ _ _ _ _ _ ?_
    conv => whnf
    refine ⟨_, rfl, w.km, fun o1 eo => ?_⟩
    obtain rfl : o1 = some Q := eo.symm.trans w.eQ
    conv => whnf
    refine ⟨w.lQ.1, rfl, _, _, _, _, _, _, c_AL_get (h := h) w.lQ j_Sc.rf j_sf_ok (by omega) (by omega), ⟨by (try dsimp only); omega, Nat.le_trans (m := 200) (Nat.le_of_ble_eq_true rfl) (by (try dsimp only); omega), Nat.le_of_ble_eq_true rfl, Nat.le_of_ble_eq_true rfl⟩, fun _ _ z => False.elim z, ?_⟩
    rintro v9 h9 ⟨e9, g2, rfl, kg2, xg2⟩
    obtain rfl : h = h9 := e9.symm
    have feg2 := w.aQ.get (by omega) (by omega) xg2
    have ng2 : j_ln h g2 = 3 := feg2.2.1
    conv => whnf
    refine ⟨Or.inr ⟨_, rfl, kg2⟩, ?_⟩
    have q3 : (Int32.ofInt (2)).toInt = 2 := by decide
    conv => whnf
    refine ⟨_, _, rfl, kg2, rfl, j_vp (by omega) (by omega), fun x4 ex4 => ?_⟩
    have zg2 := z_ml_get xg2
    have cc2 : (Int32.ofInt 2).toNatClampNeg = 2 := by decide
    have p2 : (z_d h m P G R Q).2.2.2.2 a.toNatClampNeg 2 = x4 := by
      show j_it h (z_ml h Q a.toNatClampNeg) 2 = x4
      rw [zg2]
      rw [cc2] at ex4
      exact ex4
    have hx4 : x4.toInt = -1 ∨ (0 ≤ x4.toInt ∧ x4.toInt < (a).toInt) := by have y := feg2.2.2.2.2; rw [j_clamp (by omega)] at y; rw [← ex4]; exact y
    have q5 : (Int32.ofInt (-1)).toInt = -1 := by decide
    have u6 := j_ub x4
    conv => whnf
    refine ⟨fun c7 => ?_, fun c7 => ?_⟩
    · have c7 : ¬ (x4).toInt = (Int32.ofInt (-1)).toInt := c7
      conv => whnf
      refine ⟨_, rfl, w.km, fun o8 eo => ?_⟩
      obtain rfl : o8 = some Q := eo.symm.trans w.eQ
      conv => whnf
      refine ⟨w.lQ.1, rfl, _, _, _, _, _, _, c_AL_get (h := h) w.lQ j_Sc.rf j_sf_ok (by omega) (by omega), ⟨by (try dsimp only); omega, Nat.le_trans (m := 200) (Nat.le_of_ble_eq_true rfl) (by (try dsimp only); omega), Nat.le_of_ble_eq_true rfl, Nat.le_of_ble_eq_true rfl⟩, fun _ _ z => False.elim z, ?_⟩
      rintro v9 h9 ⟨e9, g9, rfl, kg9, xg9⟩
      obtain rfl : h = h9 := e9.symm
      obtain rfl : g2 = g9 := j_same xg2 xg9
      conv => whnf
      refine ⟨Or.inr ⟨_, rfl, kg2⟩, ?_⟩
      have q10 : (Int32.ofInt (2)).toInt = 2 := by decide
      conv => whnf
      refine ⟨_, _, rfl, kg2, rfl, j_vp (by omega) (by omega), fun x11 ex11 => ?_⟩
      have hx11 : x11.toInt = -1 ∨ (0 ≤ x11.toInt ∧ x11.toInt < (a).toInt) := by have y := feg2.2.2.2.2; rw [j_clamp (by omega)] at y; rw [← ex11]; exact y
      have s12 := congrArg Int32.toInt (ex11.symm.trans ex4)
      conv => whnf
      refine ⟨w.km, rfl, _, _, _, _, _, _, ih ⟨by omega, by omega⟩ (by omega), ⟨by (try dsimp only); omega, by show 8 + (2 + 11) + _ ≤ _; (try dsimp only); omega, Nat.le_of_ble_eq_true rfl, Nat.le_of_ble_eq_true rfl⟩, fun _ _ z => False.elim z, ?_⟩
      rintro v9 h9 ⟨e9, rfl⟩
      obtain rfl : h = h9 := e9.symm
      conv => whnf
      refine ⟨trivial, ⟨Nat.le_of_ble_eq_true rfl, Nat.le_of_ble_eq_true rfl⟩, rfl, congrArg (fun r => some (j_i r)) ?_⟩
      have e12 : x11 = x4 := Int32.toInt_inj.mp s12
      have ca := j_clamp ha.1
      have cx := j_clamp (i := x4) (by omega)
      rw [e12]
      exact (z_bl_1 (q := x4.toNatClampNeg) (by rw [p2]; omega) (by omega)).symm
    · have c7 : ¬ ¬ (x4).toInt = (Int32.ofInt (-1)).toInt := c7
      conv => whnf
      refine ⟨trivial, ⟨Nat.le_of_ble_eq_true rfl, Nat.le_of_ble_eq_true rfl⟩, rfl, congrArg (fun r => some (j_i r)) ?_⟩
      exact (z_bl_0 (by rw [p2, Classical.not_not.mp c7, q5]; decide)).symm
theorem c_Mo_standsOnx {ρ : Nat → Nat} {h : j_H} {m P G R Q : Nat} {a : Int32} (w : j_MX ρ h m P G R Q) (ha : 0 ≤ a.toInt ∧ a.toInt < (j_it h Q 2).toInt) : j_Ct 218 15 740 0 0 [j_r (some m), j_i a] h (fun v h' => h' = h ∧ v = some (j_i (z_bl (z_d h m P G R Q) a.toNatClampNeg))) j_no := c_Mo_standsOn_nx w 11 ha (by have := w.b; omega)
set_option maxHeartbeats 4000000 in
set_option maxRecDepth 20000 in
theorem c_Mo_ofPrintNowx {ρ : Nat → Nat} {h : j_H} {m P G R Q : Nat} {a : Int32} {b : Int32} (w : j_MX ρ h m P G R Q) (ha : 0 ≤ a.toInt ∧ a.toInt < (j_it h Q 2).toInt) (hb : 0 ≤ b.toInt ∧ b.toInt ≤ 4) : j_Ct 202 16 763 0 0 [j_r (some m), j_i a, j_i b] h (fun v h' => h' = h ∧ v = some (j_i (z_pq (z_d h m P G R Q) a.toNatClampNeg b.toNatClampNeg))) j_no := by
  refine j_intro km_202 (Nat.le_of_ble_eq_true rfl) ?_
  intro J hJ hF
  have wb := w.b
  refine hJ [] 400 _ _ _ _ _ _ ?_
  conv => whnf
  refine ⟨_, rfl, w.km, fun o1 eo => ?_⟩
  obtain rfl : o1 = some Q := eo.symm.trans w.eQ
  conv => whnf
  refine ⟨w.lQ.1, rfl, _, _, _, _, _, _, c_AL_get (h := h) w.lQ j_Sc.rf j_sf_ok (by omega) (by omega), ⟨Nat.le_of_ble_eq_true rfl, Nat.le_of_ble_eq_true rfl, Nat.le_of_ble_eq_true rfl, Nat.le_of_ble_eq_true rfl⟩, fun _ _ z => False.elim z, ?_⟩
  rintro v9 h9 ⟨e9, g2, rfl, kg2, xg2⟩
  obtain rfl : h = h9 := e9.symm
  have feg2 := w.aQ.get (by omega) (by omega) xg2
  have ng2 : j_ln h g2 = 3 := feg2.2.1
  have zg2 := z_ml_get xg2
  have cb := j_clamp hb.1
  conv => whnf
  refine ⟨Or.inr ⟨_, rfl, kg2⟩, ?_⟩
  have q3 : (Int32.ofInt (3)).toInt = 3 := by decide
  have u4 := j_ub b
  conv => whnf
  refine ⟨fun c5 => ?_, fun c5 => ?_⟩
  · have c5 : (Int32.ofInt (3)).toInt ≤ (b).toInt := c5
    have q6 : (Int32.ofInt (3)).toInt = 3 := by decide
    have u7 := j_ub b
    conv => whnf
    refine ⟨fun c8 => ?_, fun c8 => ?_⟩
    · have c8 : ¬ (b).toInt = (Int32.ofInt (3)).toInt := c8
      conv => whnf
      refine ⟨w.km, rfl, _, _, _, _, _, _, c_Mo_standsOnx w ⟨by omega, by omega⟩, ⟨Nat.le_of_ble_eq_true rfl, Nat.le_of_ble_eq_true rfl, Nat.le_of_ble_eq_true rfl, Nat.le_of_ble_eq_true rfl⟩, fun _ _ z => False.elim z, ?_⟩
      rintro v9 h9 ⟨e9, rfl⟩
      obtain rfl : h = h9 := e9.symm
      conv => whnf
      refine ⟨trivial, ⟨Nat.le_of_ble_eq_true rfl, Nat.le_of_ble_eq_true rfl⟩, rfl, congrArg (fun r => some (j_i r)) ?_⟩
      unfold z_pq
      rw [if_neg (show ¬ b.toNatClampNeg < 3 by omega), if_neg (show ¬ b.toNatClampNeg = 3 by omega)]
    · have c8 : ¬ ¬ (b).toInt = (Int32.ofInt (3)).toInt := c8
      conv => whnf
      refine ⟨w.km, rfl, _, _, _, _, _, _, c_Mo_standsx w ⟨by omega, by omega⟩, ⟨Nat.le_of_ble_eq_true rfl, Nat.le_of_ble_eq_true rfl, Nat.le_of_ble_eq_true rfl, Nat.le_of_ble_eq_true rfl⟩, fun _ _ z => False.elim z, ?_⟩
      rintro v9 h9 ⟨e9, rfl⟩
      obtain rfl : h = h9 := e9.symm
      conv => whnf
      refine ⟨fun c11 => ?_, fun c11 => ?_⟩
      · have c11 : (z_b (z_st (z_d h m P G R Q) a.toNatClampNeg)).toInt = 0 := c11
        conv => whnf
        refine ⟨trivial, ⟨Nat.le_of_ble_eq_true rfl, Nat.le_of_ble_eq_true rfl⟩, rfl, congrArg (fun r => some (j_i r)) ?_⟩
        unfold z_pq
        rw [if_neg (show ¬ b.toNatClampNeg < 3 by omega), if_pos (show b.toNatClampNeg = 3 by omega), z_b0.mp c11]
        rfl
      · have c11 : ¬ (z_b (z_st (z_d h m P G R Q) a.toNatClampNeg)).toInt = 0 := c11
        conv => whnf
        refine ⟨trivial, ⟨Nat.le_of_ble_eq_true rfl, Nat.le_of_ble_eq_true rfl⟩, rfl, congrArg (fun r => some (j_i r)) ?_⟩
        unfold z_pq
        rw [if_neg (show ¬ b.toNatClampNeg < 3 by omega), if_pos (show b.toNatClampNeg = 3 by omega), z_bn c11]
        rfl
  · have c5 : ¬ (Int32.ofInt (3)).toInt ≤ (b).toInt := c5
    conv => whnf
    refine ⟨_, _, rfl, kg2, rfl, j_vp (by omega) (by omega), fun x12 ex12 => ?_⟩
    conv => whnf
    refine ⟨trivial, ⟨Nat.le_of_ble_eq_true rfl, Nat.le_of_ble_eq_true rfl⟩, rfl, congrArg (fun r => some (j_i r)) ?_⟩
    unfold z_pq
    rw [if_pos (show b.toNatClampNeg < 3 by omega), ← ex12, ← zg2]
    rfl
