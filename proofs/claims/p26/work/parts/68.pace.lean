/-! the model's pace, word for word -/
set_option maxHeartbeats 4000000 in
set_option maxRecDepth 20000 in
theorem c_Mo_pacex {ρ : Nat → Nat} {h : j_H} {m P G R Q : Nat} {a b : Int32} (w : j_MX ρ h m P G R Q) : j_Ct 205 1 22 0 0 [j_r (some m), j_i a, j_i b] h (fun v h' => (j_okp a b ∧ v = some (j_i (j_it h P a.toNatClampNeg)) ∧ h' = j_ui (j_up h m 0 (j_i (Int32.ofInt 0))) P a.toNatClampNeg b) ∨ (¬ (a.toInt = 0 ∨ a.toInt = 1) ∧ v = some (j_i (Int32.ofInt 0)) ∧ h' = j_up (j_up h m 0 (j_i (Int32.ofInt 0))) m 0 (j_i (Int32.ofInt 1))) ∨ ((a.toInt = 0 ∨ a.toInt = 1) ∧ ¬ (2 ≤ b.toInt ∧ b.toInt ≤ 200) ∧ v = some (j_i (Int32.ofInt 0)) ∧ h' = j_up (j_up h m 0 (j_i (Int32.ofInt 0))) m 0 (j_i (Int32.ofInt 2)))) j_no := by
  have km := w.km
  have w1 := w.f (j_Mf.fi (k := 0) (x := Int32.ofInt 0) km (by decide))
  have nP : P ≠ m := fun z => by have := w.kP; rw [z, km] at this; cases this
  have z0 : (Int32.ofInt 0).toInt = 0 := by decide
  have z1 : (Int32.ofInt 1).toInt = 1 := by decide
  have y2 : (Int32.ofInt 2).toInt = 2 := by decide
  have y200 : ((Int16.ofInt 200).toInt32).toInt = 200 := by decide
  refine j_intro km_205 (Nat.le_of_ble_eq_true rfl) ?_
  intro J hJ hF
  refine hJ [] 400 _ _ _ _ _ _ ?_
  conv => whnf
  refine ⟨_, rfl, km, ?_⟩
  conv => whnf
  refine ⟨rfl, _, _, _, _, _, _, c_Mo_isx, ⟨Nat.le_of_ble_eq_true rfl, Nat.le_of_ble_eq_true rfl, Nat.le_of_ble_eq_true rfl, Nat.le_of_ble_eq_true rfl⟩, fun _ _ z => False.elim z, ?_⟩
  rintro v9 h9 ⟨e9, r, rfl, hr⟩
  conv => whnf
  refine ⟨fun c1 => ?_, fun c1 => ?_⟩
  · have c1 : ¬ r.toInt = 0 := c1
    have ha : a.toInt = 0 ∨ a.toInt = 1 := by
      rcases hr with ⟨q1, q2, q3⟩ | ⟨q1, q2⟩
      · rw [z0] at q1; rw [z1] at q2; omega
      · rw [q2, z0] at c1; exact absurd rfl c1
    subst e9
    conv => whnf
    refine ⟨rfl, _, _, _, _, _, _, c_Mo_isx, ⟨Nat.le_of_ble_eq_true rfl, Nat.le_of_ble_eq_true rfl, Nat.le_of_ble_eq_true rfl, Nat.le_of_ble_eq_true rfl⟩, fun _ _ z => False.elim z, ?_⟩
    rintro v8 h8 ⟨e8, r8, rfl, hr8⟩
    conv => whnf
    refine ⟨fun c2 => ?_, fun c2 => ?_⟩
    · have c2 : ¬ r8.toInt = 0 := c2
      have hb : 2 ≤ b.toInt ∧ b.toInt ≤ 200 := by
        rcases hr8 with ⟨q1, q2, q3⟩ | ⟨q1, q2⟩
        · rw [y2] at q1; rw [y200] at q2; exact ⟨q1, q2⟩
        · rw [q2, z0] at c2; exact absurd rfl c2
      subst e8
      conv => whnf
      refine ⟨_, rfl, w1.km, fun o10 eo => ?_⟩
      obtain rfl : o10 = some P := eo.symm.trans w1.eP
      have n11 := w1.nP
      have cl : (a.toNatClampNeg : Int) = a.toInt := j_clamp (by omega)
      conv => whnf
      refine ⟨_, _, rfl, w1.kP, rfl, j_vp (by omega) (show a.toInt < ((j_ln (j_up h m 0 (j_i (Int32.ofInt 0))) P : Nat) : Int) by rw [n11]; omega), fun x12 ex12 => ?_⟩
      obtain rfl : x12 = j_it h P a.toNatClampNeg := ex12.symm.trans (j_up_ne h _ nP _).1
      conv => whnf
      refine ⟨_, rfl, w1.km, fun o13 eo => ?_⟩
      obtain rfl : o13 = some P := eo.symm.trans w1.eP
      conv => whnf
      refine ⟨_, rfl, w1.kP, j_vp (by omega) (show a.toInt < ((j_ln (j_up h m 0 (j_i (Int32.ofInt 0))) P : Nat) : Int) by rw [n11]; omega), ?_⟩
      conv => whnf
      exact ⟨trivial, ⟨Nat.le_of_ble_eq_true rfl, Nat.le_of_ble_eq_true rfl⟩, Or.inl ⟨⟨ha, hb⟩, rfl, rfl⟩⟩
    · have c2 : ¬ ¬ r8.toInt = 0 := c2
      have hb : ¬ (2 ≤ b.toInt ∧ b.toInt ≤ 200) := by
        rcases hr8 with ⟨q1, q2, q3⟩ | ⟨q1, q2⟩
        · rw [q3, z1] at c2; exact absurd (by decide) c2
        · rw [y2, y200] at q1; exact q1
      subst e8
      conv => whnf
      refine ⟨km, rfl, _, _, _, _, _, _, c_Mo_refusex km, ⟨Nat.le_of_ble_eq_true rfl, Nat.le_of_ble_eq_true rfl, Nat.le_of_ble_eq_true rfl, Nat.le_of_ble_eq_true rfl⟩, fun _ _ z => False.elim z, ?_⟩
      rintro v7 h7 ⟨rfl, e7⟩
      conv => whnf
      exact ⟨trivial, ⟨Nat.le_of_ble_eq_true rfl, Nat.le_of_ble_eq_true rfl⟩, Or.inr (Or.inr ⟨ha, hb, rfl, e7⟩)⟩
  · have c1 : ¬ ¬ r.toInt = 0 := c1
    have ha : ¬ (a.toInt = 0 ∨ a.toInt = 1) := by
      rcases hr with ⟨q1, q2, q3⟩ | ⟨q1, q2⟩
      · rw [q3, z1] at c1; exact absurd (by decide) c1
      · rw [z0, z1] at q1; omega
    subst e9
    conv => whnf
    refine ⟨km, rfl, _, _, _, _, _, _, c_Mo_refusex km, ⟨Nat.le_of_ble_eq_true rfl, Nat.le_of_ble_eq_true rfl, Nat.le_of_ble_eq_true rfl, Nat.le_of_ble_eq_true rfl⟩, fun _ _ z => False.elim z, ?_⟩
    rintro v8 h8 ⟨rfl, e8⟩
    conv => whnf
    exact ⟨trivial, ⟨Nat.le_of_ble_eq_true rfl, Nat.le_of_ble_eq_true rfl⟩, Or.inr (Or.inl ⟨ha, rfl, e8⟩)⟩
