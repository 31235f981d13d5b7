/-! slip, word for word -/
set_option maxRecDepth 20000 in
theorem c_G_slip {h : j_H} {x : Nat} {a : Int32} (kx : j_kd h x = some (.inl 8)) : j_Ct 136 6 90 1 6 [j_r (some x), j_i a] h (fun v h' => (0 ≤ a.toInt ∧ a.toInt ≤ 9) ∧ v = some (j_i (j_it h x 5)) ∧ h' = j_up h x 5 (j_i a)) (fun k h' => k = 0 ∧ ¬ (0 ≤ a.toInt ∧ a.toInt ≤ 9) ∧ h' = h) := by
  refine j_intro km_136 (Nat.le_of_ble_eq_true rfl) ?_
  intro J hJ hF
  have z0 : (Int32.ofInt 0).toInt = 0 := by decide
  have z1 : (Int32.ofInt 1).toInt = 1 := by decide
  have z9 : ((Int8.ofInt 9).toInt32).toInt = 9 := by decide
  refine hJ [] 400 _ _ _ _ _ _ ?_
  conv => whnf
  refine ⟨rfl, _, _, _, _, _, _, c_within, ⟨Nat.le_of_ble_eq_true rfl, Nat.le_of_ble_eq_true rfl, Nat.le_of_ble_eq_true rfl, Nat.le_of_ble_eq_true rfl⟩, fun _ _ z => False.elim z, ?_⟩
  rintro v9 h9 ⟨rfl, r, rfl, hr⟩
  conv => whnf
  refine ⟨fun c1 => ?_, fun c1 => ?_⟩
  · have c1 : ¬ r.toInt = 0 := c1
    have hv : 0 ≤ a.toInt ∧ a.toInt ≤ 9 := by
      rcases hr with ⟨q1, q2, q3⟩ | ⟨q1, q2⟩
      · exact ⟨by omega, by omega⟩
      · rw [q2, z0] at c1; exact absurd rfl c1
    conv => whnf
    refine ⟨_, rfl, kx, fun y ey => ?_⟩
    obtain rfl : y = j_it h9 x 5 := ey.symm
    conv => whnf
    refine ⟨_, rfl, kx, ?_⟩
    conv => whnf
    exact ⟨trivial, ⟨Nat.le_of_ble_eq_true rfl, Nat.le_of_ble_eq_true rfl⟩, hv, rfl, rfl⟩
  · have c1 : ¬ ¬ r.toInt = 0 := c1
    have hv : ¬ (0 ≤ a.toInt ∧ a.toInt ≤ 9) := by
      rcases hr with ⟨q1, q2, q3⟩ | ⟨q1, q2⟩
      · rw [q3, z1] at c1; exact absurd (by decide) c1
      · intro z; exact q1 ⟨by omega, by omega⟩
    conv => whnf
    exact ⟨⟨Nat.le_of_ble_eq_true rfl, Nat.le_of_ble_eq_true rfl⟩, ⟨Nat.le_of_ble_eq_true rfl, Nat.le_of_ble_eq_true rfl⟩, rfl, hv, rfl⟩
