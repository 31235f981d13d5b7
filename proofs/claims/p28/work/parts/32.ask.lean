set_option maxHeartbeats 4000000 in
set_option maxRecDepth 20000 in
theorem c_Integer_bitCount {h : j_H} {a : Int32}   : j_Ct 13 0 0 0 0 [j_i a] h (fun v h' => h' = h ∧ ∃ r, v = some (j_i r)) j_no := by
  refine j_intro km_13 (Nat.le_of_ble_eq_true rfl) ?_
  intro J hJ hF
  refine hJ [] 400 _ _ _ _ _ _ ?_
  conv => whnf
  exact ⟨trivial, ⟨Nat.le_of_ble_eq_true rfl, Nat.le_of_ble_eq_true rfl⟩, rfl, _, rfl⟩
set_option maxHeartbeats 4000000 in
set_option maxRecDepth 20000 in
theorem c_Run_bit {h : j_H} {y : Nat}  (ky : j_kd h y = some (.inl 7)) : j_Ct 153 0 0 0 0 [j_r (some y)] h (fun v h' => h' = h ∧ ∃ r, v = some (j_i r)) j_no := by
  refine j_intro km_153 (Nat.le_of_ble_eq_true rfl) ?_
  intro J hJ hF
  refine hJ [] 400 _ _ _ _ _ _ ?_
  conv => whnf
  refine ⟨_, rfl, ky, fun x1 ex1 => ?_⟩
  conv => whnf
  exact ⟨trivial, ⟨Nat.le_of_ble_eq_true rfl, Nat.le_of_ble_eq_true rfl⟩, rfl, _, rfl⟩
set_option maxHeartbeats 4000000 in
set_option maxRecDepth 20000 in
theorem c_Run_earlyIn {h : j_H} {y : Nat} {a : Int32}  (ky : j_kd h y = some (.inl 7)) : j_Ct 156 0 0 0 0 [j_r (some y), j_i a] h (fun v h' => h' = h ∧ ∃ r, v = some (j_i r)) j_no := by
  refine j_intro km_156 (Nat.le_of_ble_eq_true rfl) ?_
  intro J hJ hF
  refine hJ [] 400 _ _ _ _ _ _ ?_
  conv => whnf
  refine ⟨_, rfl, ky, fun x1 ex1 => ?_⟩
  conv => whnf
  refine ⟨_, rfl, ky, fun x2 ex2 => ?_⟩
  conv => whnf
  exact ⟨trivial, ⟨Nat.le_of_ble_eq_true rfl, Nat.le_of_ble_eq_true rfl⟩, rfl, _, rfl⟩
set_option maxHeartbeats 4000000 in
set_option maxRecDepth 20000 in
theorem c_Run_lateIn {h : j_H} {y : Nat} {a : Int32}  (ky : j_kd h y = some (.inl 7)) : j_Ct 157 0 0 0 0 [j_r (some y), j_i a] h (fun v h' => h' = h ∧ ∃ r, v = some (j_i r)) j_no := by
  refine j_intro km_157 (Nat.le_of_ble_eq_true rfl) ?_
  intro J hJ hF
  refine hJ [] 400 _ _ _ _ _ _ ?_
  conv => whnf
  refine ⟨_, rfl, ky, fun x1 ex1 => ?_⟩
  conv => whnf
  refine ⟨_, rfl, ky, fun x2 ex2 => ?_⟩
  conv => whnf
  exact ⟨trivial, ⟨Nat.le_of_ble_eq_true rfl, Nat.le_of_ble_eq_true rfl⟩, rfl, _, rfl⟩
set_option maxHeartbeats 4000000 in
set_option maxRecDepth 20000 in
theorem c_Run_misses {h : j_H} {y : Nat} {z : Nat} {a : Int32}  (ky : j_kd h y = some (.inl 7)) (kz : j_kd h z = some (.inl 7)) : j_Ct 158 1 21 0 0 [j_r (some y), j_r (some z), j_i a] h (fun v h' => h' = h ∧ ∃ r, v = some (j_i r) ∧ (r = 0 ∨ r = 1)) j_no := by
  refine j_intro km_158 (Nat.le_of_ble_eq_true rfl) ?_
  intro J hJ hF
  refine hJ [] 400 _ _ _ _ _ _ ?_
  conv => whnf
  refine ⟨ky, rfl, _, _, _, _, _, _, c_Run_earlyIn ky, ⟨Nat.le_of_ble_eq_true rfl, Nat.le_of_ble_eq_true rfl, Nat.le_of_ble_eq_true rfl, Nat.le_of_ble_eq_true rfl⟩, fun _ _ z => False.elim z, ?_⟩
  rintro v9 h9 ⟨rfl, r1, rfl⟩
  conv => whnf
  refine ⟨kz, rfl, _, _, _, _, _, _, c_Run_lateIn kz, ⟨Nat.le_of_ble_eq_true rfl, Nat.le_of_ble_eq_true rfl, Nat.le_of_ble_eq_true rfl, Nat.le_of_ble_eq_true rfl⟩, fun _ _ z => False.elim z, ?_⟩
  rintro v9 h9 ⟨rfl, r2, rfl⟩
  have b3 := j_ub r2
  have b4 := j_ub r1
  conv => whnf
  refine ⟨fun c5 => ?_, fun c5 => ?_⟩
  · skip
    conv => whnf
    exact ⟨Or.inr rfl, ⟨Nat.le_of_ble_eq_true rfl, Nat.le_of_ble_eq_true rfl⟩, rfl, _, rfl, Or.inr rfl⟩
  · skip
    conv => whnf
    refine ⟨kz, rfl, _, _, _, _, _, _, c_Run_earlyIn kz, ⟨Nat.le_of_ble_eq_true rfl, Nat.le_of_ble_eq_true rfl, Nat.le_of_ble_eq_true rfl, Nat.le_of_ble_eq_true rfl⟩, fun _ _ z => False.elim z, ?_⟩
    rintro v9 h9 ⟨rfl, r6, rfl⟩
    conv => whnf
    refine ⟨ky, rfl, _, _, _, _, _, _, c_Run_lateIn ky, ⟨Nat.le_of_ble_eq_true rfl, Nat.le_of_ble_eq_true rfl, Nat.le_of_ble_eq_true rfl, Nat.le_of_ble_eq_true rfl⟩, fun _ _ z => False.elim z, ?_⟩
    rintro v9 h9 ⟨rfl, r7, rfl⟩
    have b8 := j_ub r7
    have b9 := j_ub r6
    conv => whnf
    refine ⟨fun c10 => ?_, fun c10 => ?_⟩
    · skip
      conv => whnf
      exact ⟨Or.inl rfl, ⟨Nat.le_of_ble_eq_true rfl, Nat.le_of_ble_eq_true rfl⟩, rfl, _, rfl, Or.inl rfl⟩
    · skip
      conv => whnf
      exact ⟨Or.inr rfl, ⟨Nat.le_of_ble_eq_true rfl, Nat.le_of_ble_eq_true rfl⟩, rfl, _, rfl, Or.inr rfl⟩
set_option maxHeartbeats 4000000 in
set_option maxRecDepth 20000 in
theorem c_Run_countMissed {h : j_H} {it : Nat → Nat → Int32} {y : Nat} (hG : j_G h) (sc : j_Sc j_sf h it) (ky : j_kd h y = some (.inl 7)) : j_Ct 154 1 20 0 0 [j_r (some y)] (j_wi h it) (fun v h' => ∃ it', h' = j_wi h it' ∧ j_Sc j_sf h it' ∧ ∃ r, v = some (j_i r)) j_no := by
  refine j_intro km_154 (Nat.le_of_ble_eq_true rfl) ?_
  intro J hJ hF
  refine hJ [] 400 _ _ _ _ _ _ ?_
  conv => whnf
  refine ⟨_, rfl, ky, fun x1 ex1 => ?_⟩
  conv => whnf
  refine ⟨_, rfl, ky, fun o2 eo => ?_⟩
  obtain ⟨b3, eb3, kb3⟩ := hG.2.2.1 _ ky
  obtain rfl : o2 = some b3 := eo.symm.trans eb3
  conv => whnf
  refine ⟨_, rfl, kb3, fun x4 ex4 => ?_⟩
  conv => whnf
  refine ⟨rfl, _, _, _, _, _, _, c_Integer_bitCount, ⟨Nat.le_of_ble_eq_true rfl, Nat.le_of_ble_eq_true rfl, Nat.le_of_ble_eq_true rfl, Nat.le_of_ble_eq_true rfl⟩, fun _ _ z => False.elim z, ?_⟩
  rintro v9 h9 ⟨rfl, r5, rfl⟩
  conv => whnf
  exact ⟨trivial, ⟨Nat.le_of_ble_eq_true rfl, Nat.le_of_ble_eq_true rfl⟩, _, rfl, sc, _, rfl⟩
