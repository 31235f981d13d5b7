/-! words of the class, exactly -/
set_option maxRecDepth 20000 in
theorem c_within {h : j_H} {a b c : Int32} : j_Ct 109 0 0 0 0 [j_i a, j_i b, j_i c] h (fun v h' => h' = h ∧ ∃ r, v = some (j_i r) ∧ ((b.toInt ≤ a.toInt ∧ a.toInt ≤ c.toInt ∧ r = Int32.ofInt 1) ∨ (¬ (b.toInt ≤ a.toInt ∧ a.toInt ≤ c.toInt) ∧ r = Int32.ofInt 0))) j_no := by
  refine j_intro km_109 (Nat.le_of_ble_eq_true rfl) ?_
  intro J hJ hF
  refine hJ [] 400 _ _ _ _ _ _ ?_
  conv => whnf
  refine ⟨fun c1 => ?_, fun c1 => ?_⟩
  · have c1 : a.toInt < b.toInt := c1
    conv => whnf
    exact ⟨Or.inl rfl, ⟨Nat.le_of_ble_eq_true rfl, Nat.le_of_ble_eq_true rfl⟩, rfl, _, rfl, Or.inr ⟨by omega, rfl⟩⟩
  · have c1 : ¬ a.toInt < b.toInt := c1
    conv => whnf
    refine ⟨fun c2 => ?_, fun c2 => ?_⟩
    · have c2 : c.toInt < a.toInt := c2
      conv => whnf
      exact ⟨Or.inl rfl, ⟨Nat.le_of_ble_eq_true rfl, Nat.le_of_ble_eq_true rfl⟩, rfl, _, rfl, Or.inr ⟨by omega, rfl⟩⟩
    · have c2 : ¬ c.toInt < a.toInt := c2
      conv => whnf
      exact ⟨Or.inr rfl, ⟨Nat.le_of_ble_eq_true rfl, Nat.le_of_ble_eq_true rfl⟩, rfl, _, rfl, Or.inl ⟨by omega, by omega, rfl⟩⟩
set_option maxRecDepth 20000 in
theorem c_isClockx {h : j_H} {a : Int32} : j_Ct 104 0 0 0 0 [j_i a] h (fun v h' => h' = h ∧ ∃ r, v = some (j_i r) ∧ (((a.toInt = 0 ∨ a.toInt = 1) ∧ r = Int32.ofInt 1) ∨ (¬ (a.toInt = 0 ∨ a.toInt = 1) ∧ r = Int32.ofInt 0))) j_no := by
  refine j_intro km_104 (Nat.le_of_ble_eq_true rfl) ?_
  intro J hJ hF
  have z1 : (Int32.ofInt 1).toInt = 1 := by decide
  refine hJ [] 400 _ _ _ _ _ _ ?_
  conv => whnf
  refine ⟨fun c1 => ?_, fun c1 => ?_⟩
  · have c1 : a.toInt = 0 := c1
    conv => whnf
    exact ⟨Or.inr rfl, ⟨Nat.le_of_ble_eq_true rfl, Nat.le_of_ble_eq_true rfl⟩, rfl, _, rfl, Or.inl ⟨Or.inl c1, rfl⟩⟩
  · have c1 : ¬ a.toInt = 0 := c1
    conv => whnf
    refine ⟨fun c4 => ?_, fun c4 => ?_⟩
    · have c4 : ¬ a.toInt = (Int32.ofInt 1).toInt := c4
      rw [z1] at c4
      conv => whnf
      exact ⟨Or.inl rfl, ⟨Nat.le_of_ble_eq_true rfl, Nat.le_of_ble_eq_true rfl⟩, rfl, _, rfl, Or.inr ⟨fun z => z.elim c1 c4, rfl⟩⟩
    · have c4 : ¬ ¬ a.toInt = (Int32.ofInt 1).toInt := c4
      rw [z1] at c4
      conv => whnf
      exact ⟨Or.inr rfl, ⟨Nat.le_of_ble_eq_true rfl, Nat.le_of_ble_eq_true rfl⟩, rfl, _, rfl, Or.inl ⟨Or.inr (Decidable.not_not.mp c4), rfl⟩⟩
set_option maxRecDepth 20000 in
theorem c_paceOfx {h : j_H} {x : Nat} {a : Int32} (kx : j_kd h x = some (.inl 8)) : j_Ct 128 0 0 0 0 [j_r (some x), j_i a] h (fun v h' => h' = h ∧ ((a.toInt = 0 ∧ v = some (j_i (j_it h x 3))) ∨ (a.toInt ≠ 0 ∧ v = some (j_i (j_it h x 4))))) j_no := by
  refine j_intro km_128 (Nat.le_of_ble_eq_true rfl) ?_
  intro J hJ hF
  refine hJ [] 400 _ _ _ _ _ _ ?_
  conv => whnf
  refine ⟨fun c1 => ?_, fun c1 => ?_⟩
  · have c1 : ¬ a.toInt = 0 := c1
    conv => whnf
    refine ⟨_, rfl, kx, fun y ey => ?_⟩
    obtain rfl : y = j_it h x 4 := ey.symm
    conv => whnf
    exact ⟨trivial, ⟨Nat.le_of_ble_eq_true rfl, Nat.le_of_ble_eq_true rfl⟩, rfl, Or.inr ⟨c1, rfl⟩⟩
  · have c1 : ¬ ¬ a.toInt = 0 := c1
    conv => whnf
    refine ⟨_, rfl, kx, fun y ey => ?_⟩
    obtain rfl : y = j_it h x 3 := ey.symm
    conv => whnf
    exact ⟨trivial, ⟨Nat.le_of_ble_eq_true rfl, Nat.le_of_ble_eq_true rfl⟩, rfl, Or.inl ⟨Decidable.not_not.mp c1, rfl⟩⟩
set_option maxHeartbeats 4000000 in
set_option maxRecDepth 20000 in
theorem c_isGrainx {h : j_H} {x L0 : Nat} {a : Int32} (hW : j_WF h x) (e0 : j_rf h x 0 = some L0) : j_Ct 105 1 20 0 0 [j_r (some x), j_i a] h (fun v h' => h' = h ∧ ∃ r, v = some (j_i r) ∧ (((0 ≤ a.toInt ∧ a.toInt < (j_it h L0 2).toInt) ∧ r = Int32.ofInt 1) ∨ (¬ (0 ≤ a.toInt ∧ a.toInt < (j_it h L0 2).toInt) ∧ r = Int32.ofInt 0))) j_no := by
  refine j_intro km_105 (Nat.le_of_ble_eq_true rfl) ?_
  intro J hJ hF
  obtain ⟨kx, hG, M0, L1, L2, d0, l0, e1, l1, e2, l2, ap, pn⟩ := id hW
  obtain rfl : M0 = L0 := Option.some.inj (d0.symm.trans e0)
  refine hJ [] 400 _ _ _ _ _ _ ?_
  conv => whnf
  refine ⟨fun c1 => ?_, fun c1 => ?_⟩
  · have c1 : a.toInt < 0 := c1
    conv => whnf
    exact ⟨Or.inl rfl, ⟨Nat.le_of_ble_eq_true rfl, Nat.le_of_ble_eq_true rfl⟩, rfl, _, rfl, Or.inr ⟨by omega, rfl⟩⟩
  · have c1 : ¬ a.toInt < 0 := c1
    conv => whnf
    refine ⟨_, rfl, kx, fun o2 eo => ?_⟩
    obtain rfl : o2 = some M0 := eo.symm.trans e0
    conv => whnf
    refine ⟨l0.1, rfl, _, _, _, _, _, _, c_AL_size (h := h) l0 j_Sc.rf j_sf_ok, ⟨Nat.le_of_ble_eq_true rfl, Nat.le_of_ble_eq_true rfl, Nat.le_of_ble_eq_true rfl, Nat.le_of_ble_eq_true rfl⟩, fun _ _ z => False.elim z, ?_⟩
    rintro v9 h9 ⟨e9, rfl⟩
    obtain rfl : h = h9 := e9.symm
    conv => whnf
    refine ⟨fun c4 => ?_, fun c4 => ?_⟩
    · have c4 : (j_it h M0 2).toInt ≤ a.toInt := c4
      conv => whnf
      exact ⟨Or.inl rfl, ⟨Nat.le_of_ble_eq_true rfl, Nat.le_of_ble_eq_true rfl⟩, rfl, _, rfl, Or.inr ⟨by omega, rfl⟩⟩
    · have c4 : ¬ (j_it h M0 2).toInt ≤ a.toInt := c4
      conv => whnf
      exact ⟨Or.inr rfl, ⟨Nat.le_of_ble_eq_true rfl, Nat.le_of_ble_eq_true rfl⟩, rfl, _, rfl, Or.inl ⟨by omega, rfl⟩⟩
