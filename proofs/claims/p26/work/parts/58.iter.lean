/-! iterators -/
set_option maxRecDepth 20000 in
theorem c_IT_init {h : j_H} {i L : Nat} (ki : j_kd h i = some (.inl 2)) (kL : j_kd h L = some (.inl 3)) : j_Ct 61 1 20 0 0 [j_r (some i), j_r (some L)] h (fun v h' => v = none ∧ j_Fi h h' i ∧ j_rf h' i 3 = some L ∧ j_it h' i 2 = j_it h L 0 ∧ j_it h' i 0 = j_it h i 0) j_no := by
  have nL : L ≠ i := fun z => by rw [z, ki] at kL; cases kL
  refine j_intro km_61 (Nat.le_of_ble_eq_true rfl) ?_
  intro J hJ hF
  refine hJ [] 400 _ _ _ _ _ _ ?_
  conv => whnf
  refine ⟨_, rfl, ki, ?_⟩
  conv => whnf
  refine ⟨_, rfl, ⟨Nat.le_of_ble_eq_true rfl, Nat.le_of_ble_eq_true rfl⟩, ?_⟩
  conv => whnf
  refine ⟨_, rfl, ki, ?_⟩
  conv => whnf
  refine ⟨_, rfl, ki, fun o eo => ?_⟩
  have e3 : j_rf (j_up (j_up h i 3 (j_r (some L))) i 1 (j_i (Int32.ofInt (-1)))) i 3 = some L := (j_upn (by decide)).trans j_upr
  obtain rfl : o = some L := eo.symm.trans e3
  conv => whnf
  refine ⟨_, rfl, kL, fun y ey => ?_⟩
  have e0 : y = j_it h L 0 := ey.symm.trans (((j_up_ne _ _ nL 0).1).trans ((j_up_ne _ _ nL 0).1))
  conv => whnf
  refine ⟨_, rfl, ki, ?_⟩
  conv => whnf
  refine ⟨rfl, ⟨Nat.le_of_ble_eq_true rfl, Nat.le_of_ble_eq_true rfl⟩, rfl, j_Fi.rf.up.up.up, (j_upn (by decide)).trans e3, ?_, ?_⟩
  · rw [← e0]
    exact j_upi
  · exact (j_upm (by decide)).trans ((j_upm (by decide)).trans (j_upm (by decide)))
set_option maxRecDepth 20000 in
theorem c_AL_iterator {h : j_H} {L : Nat} (kL : j_kd h L = some (.inl 3)) : j_Ct 59 2 41 1 4 [j_r (some L)] h (fun v h' => ∃ i, v = some (j_r (some i)) ∧ j_kd h i = none ∧ j_On (fun _ => False) h h' ∧ (∀ q, q ≠ i → j_kd h' q = j_kd h q) ∧ j_kd h' i = some (.inl 2) ∧ j_rf h' i 3 = some L ∧ j_it h' i 2 = j_it h' L 0 ∧ (j_it h' i 0).toInt = 0) j_no := by
  refine j_intro km_59 (Nat.le_of_ble_eq_true rfl) ?_
  intro J hJ hF
  refine hJ [] 400 _ _ _ _ _ _ ?_
  conv => whnf
  refine ⟨⟨Nat.le_of_ble_eq_true rfl, Nat.le_of_ble_eq_true rfl⟩, fun i hi => ?_⟩
  have nL : L ≠ i := fun z => by rw [z, hi] at kL; cases kL
  conv => whnf
  refine ⟨trivial, rfl, _, _, _, _, _, _, c_IT_init (if_pos rfl) ((if_neg nL).trans kL), ⟨Nat.le_of_ble_eq_true rfl, Nat.le_of_ble_eq_true rfl, Nat.le_of_ble_eq_true rfl, Nat.le_of_ble_eq_true rfl⟩, fun _ _ z => False.elim z, ?_⟩
  rintro v9 h9 ⟨rfl, ⟨f1, f2, f3⟩, r3, m2, c0⟩
  conv => whnf
  refine ⟨trivial, ⟨Nat.le_of_ble_eq_true rfl, Nat.le_of_ble_eq_true rfl⟩, i, rfl, hi, (((j_On.nw (S := fun q => q = i) hi)).trans f1).mono (fun q hq z => hq (by rw [z]; exact hi)), fun q hq => (f2 q).trans (if_neg hq), (f2 i).trans (if_pos rfl), r3, m2.trans ((f3 L nL 0).1).symm, ?_⟩
  rw [c0]
  show (if i = i then (0 : Int32) else _).toInt = 0
  rw [if_pos rfl]
  rfl
set_option maxRecDepth 20000 in
theorem c_IT_hasNext {h : j_H} {i L : Nat} (ki : j_kd h i = some (.inl 2)) (r3 : j_rf h i 3 = some L) (kL : j_kd h L = some (.inl 3)) : j_Ct 63 0 0 0 0 [j_r (some i)] h (fun v h' => h' = h ∧ ∃ r, v = some (j_i r) ∧ ((r.toInt = 1 ∧ ¬ (j_it h i 0).toInt = (j_it h L 2).toInt) ∨ (r.toInt = 0 ∧ (j_it h i 0).toInt = (j_it h L 2).toInt))) j_no := by
  refine j_intro km_63 (Nat.le_of_ble_eq_true rfl) ?_
  intro J hJ hF
  refine hJ [] 400 _ _ _ _ _ _ ?_
  conv => whnf
  refine ⟨_, rfl, ki, fun y ey => ?_⟩
  obtain rfl : y = j_it h i 0 := ey.symm
  conv => whnf
  refine ⟨_, rfl, ki, fun o eo => ?_⟩
  obtain rfl : o = some L := eo.symm.trans r3
  conv => whnf
  refine ⟨_, rfl, kL, fun y ey => ?_⟩
  obtain rfl : y = j_it h L 2 := ey.symm
  conv => whnf
  refine ⟨fun c => ?_, fun c => ?_⟩
  · have c : (j_it h i 0).toInt = (j_it h L 2).toInt := c
    conv => whnf
    exact ⟨Or.inl rfl, ⟨Nat.le_of_ble_eq_true rfl, Nat.le_of_ble_eq_true rfl⟩, rfl, _, rfl, Or.inr ⟨by decide, c⟩⟩
  · have c : ¬ (j_it h i 0).toInt = (j_it h L 2).toInt := c
    conv => whnf
    exact ⟨Or.inr rfl, ⟨Nat.le_of_ble_eq_true rfl, Nat.le_of_ble_eq_true rfl⟩, rfl, _, rfl, Or.inl ⟨by decide, c⟩⟩
set_option maxRecDepth 20000 in
theorem c_IT_check {h : j_H} {i L : Nat} (ki : j_kd h i = some (.inl 2)) (r3 : j_rf h i 3 = some L) (kL : j_kd h L = some (.inl 3)) (hm : j_it h i 2 = j_it h L 0) : j_Ct 62 0 0 0 0 [j_r (some i)] h (fun v h' => v = none ∧ h' = h) j_no := by
  refine j_intro km_62 (Nat.le_of_ble_eq_true rfl) ?_
  intro J hJ hF
  refine hJ [] 400 _ _ _ _ _ _ ?_
  conv => whnf
  refine ⟨_, rfl, ki, fun o eo => ?_⟩
  obtain rfl : o = some L := eo.symm.trans r3
  conv => whnf
  refine ⟨_, rfl, kL, fun y ey => ?_⟩
  obtain rfl : y = j_it h L 0 := ey.symm
  conv => whnf
  refine ⟨_, rfl, ki, fun y ey => ?_⟩
  obtain rfl : y = j_it h L 0 := ey.symm.trans hm
  conv => whnf
  refine ⟨fun c => ?_, fun c => absurd rfl c⟩
  conv => whnf
  exact ⟨rfl, ⟨Nat.le_of_ble_eq_true rfl, Nat.le_of_ble_eq_true rfl⟩, rfl, rfl⟩
set_option maxRecDepth 20000 in
theorem c_IT_next {h : j_H} {i L : Nat} {kk : Nat ⊕ Nat} {M : Int} (ki : j_kd h i = some (.inl 2)) (r3 : j_rf h i 3 = some L) (hm : j_it h i 2 = j_it h L 0) (l : j_LK h L kk M) (h0 : 0 ≤ (j_it h i 0).toInt) (h1 : (j_it h i 0).toInt < (j_it h L 2).toInt) : j_Ct 64 1 20 0 0 [j_r (some i)] h (fun v h' => (∃ e arr, v = some (j_r (some e)) ∧ j_kd h e = some kk ∧ j_rf h L 1 = some arr ∧ j_rf h arr (j_it h i 0).toNatClampNeg = some e) ∧ h' = j_up (j_up h i 0 (j_i (j_it h i 0 + Int32.ofInt 1))) i 1 (j_i (j_it h i 0))) j_no := by
  obtain ⟨kL, b0, b1, arr, t, e1, e2, e3, e4, e5, e6⟩ := l
  have hi : (nI (j_ln h arr)).toInt = (j_ln h arr : Int) := nI_toInt (by omega)
  refine j_intro km_64 (Nat.le_of_ble_eq_true rfl) ?_
  intro J hJ hF
  refine hJ [] 400 _ _ _ _ _ _ ?_
  conv => whnf
  refine ⟨ki, rfl, _, _, _, _, _, _, c_IT_check ki r3 kL hm, ⟨Nat.le_of_ble_eq_true rfl, Nat.le_of_ble_eq_true rfl, Nat.le_of_ble_eq_true rfl, Nat.le_of_ble_eq_true rfl⟩, fun _ _ z => False.elim z, ?_⟩
  rintro v9 h9 ⟨rfl, rfl⟩
  conv => whnf
  refine ⟨_, rfl, ki, fun y ey => ?_⟩
  obtain rfl : y = j_it h9 i 0 := ey.symm
  conv => whnf
  refine ⟨_, rfl, ki, fun o eo => ?_⟩
  obtain rfl : o = some L := eo.symm.trans r3
  conv => whnf
  refine ⟨_, rfl, kL, fun y ey => ?_⟩
  obtain rfl : y = j_it h9 L 2 := ey.symm
  conv => whnf
  refine ⟨fun _ => ?_, fun c => absurd h1 c⟩
  conv => whnf
  refine ⟨_, rfl, ki, fun o eo => ?_⟩
  obtain rfl : o = some L := eo.symm.trans r3
  conv => whnf
  refine ⟨_, rfl, kL, fun o eo => ?_⟩
  obtain rfl : o = some arr := eo.symm.trans e1
  conv => whnf
  refine ⟨_, _, rfl, e2, ?_⟩
  conv => whnf
  refine ⟨fun _ => ?_, fun c => absurd (show (j_it h9 i 0).toInt < (nI (j_ln h9 arr)).toInt by omega) c⟩
  conv => whnf
  refine ⟨_, rfl, ki, ?_⟩
  conv => whnf
  refine ⟨_, rfl, ki, ?_⟩
  conv => whnf
  obtain ⟨e, he, ke⟩ := e6 (j_it h9 i 0).toNatClampNeg (by rw [j_clamp h0]; exact h1)
  have na : arr ≠ i := fun z => by rw [z, ki] at e2; cases e2
  refine ⟨_, _, rfl, e2, e3, j_vp h0 (by show (j_it h9 i 0).toInt < (j_ln h9 arr : Int); omega), fun o eo => ?_⟩
  obtain rfl : o = some e := eo.symm.trans he
  conv => whnf
  exact ⟨trivial, ⟨Nat.le_of_ble_eq_true rfl, Nat.le_of_ble_eq_true rfl⟩, ⟨e, arr, rfl, ke, e1, he⟩, rfl⟩
