/-! asking the object: word for word -/
set_option maxHeartbeats 4000000 in
set_option maxRecDepth 20000 in
theorem c_Run_earlyInx {h : j_H} {y : Nat} {a : Int32} (ky : j_kd h y = some (.inl 7)) : j_Ct 156 0 0 0 0 [j_r (some y), j_i a] h (fun v h' => h' = h ∧ v = some (j_i ((j_it h y 8 + a) - j_it h y 5))) j_no := by
  refine j_intro km_156 (Nat.le_of_ble_eq_true rfl) ?_
  intro J hJ hF
  refine hJ [] 400 _ _ _ _ _ _ ?_
  conv => whnf
  refine ⟨_, rfl, ky, fun x1 ex1 => ?_⟩
  obtain rfl : x1 = j_it h y 8 := ex1.symm
  conv => whnf
  refine ⟨_, rfl, ky, fun x2 ex2 => ?_⟩
  obtain rfl : x2 = j_it h y 5 := ex2.symm
  conv => whnf
  exact ⟨trivial, ⟨Nat.le_of_ble_eq_true rfl, Nat.le_of_ble_eq_true rfl⟩, rfl, rfl⟩
set_option maxHeartbeats 4000000 in
set_option maxRecDepth 20000 in
theorem c_Run_lateInx {h : j_H} {y : Nat} {a : Int32} (ky : j_kd h y = some (.inl 7)) : j_Ct 157 0 0 0 0 [j_r (some y), j_i a] h (fun v h' => h' = h ∧ v = some (j_i ((j_it h y 9 + a) - j_it h y 5))) j_no := by
  refine j_intro km_157 (Nat.le_of_ble_eq_true rfl) ?_
  intro J hJ hF
  refine hJ [] 400 _ _ _ _ _ _ ?_
  conv => whnf
  refine ⟨_, rfl, ky, fun x1 ex1 => ?_⟩
  obtain rfl : x1 = j_it h y 9 := ex1.symm
  conv => whnf
  refine ⟨_, rfl, ky, fun x2 ex2 => ?_⟩
  obtain rfl : x2 = j_it h y 5 := ex2.symm
  conv => whnf
  exact ⟨trivial, ⟨Nat.le_of_ble_eq_true rfl, Nat.le_of_ble_eq_true rfl⟩, rfl, rfl⟩
theorem z_lbl {h : j_H} {x k g : Nat} (I : z_I h x) (hk : z_in h x 1 k) (hg : z_in h x 0 g) : (j_rf h (z_el h x 1 k) 6 = some (z_el h x 0 g)) ↔ (z_cr h x k 0).toInt = (g : Int) := by
  obtain ⟨-, g', hg', r⟩ := I.1.2.2.1 k hk
  have e : (z_cr h x k 0).toInt = (g' : Int) := by
    show (j_it h ((j_rf h (z_el h x 1 k) 6).getD 0) 0).toInt = _
    rw [r, Option.getD_some]
    exact I.1.1 g' hg'
  rw [e, r]
  refine ⟨fun z => ?_, fun z => ?_⟩
  · have := I.g hg' hg (Option.some.inj z)
    omega
  · rw [show g' = g by omega]
theorem z_pwx {h : j_H} {x : Nat} (c : Int32) : (z_c h x).1 (j_pf c) = j_it h x (j_pf c) := by
  rcases j_pf34' c with ⟨_, q⟩ | ⟨_, q⟩
  · rw [q]; rfl
  · rw [q]; rfl
theorem z_er_at {h : j_H} {x k : Nat} (I : z_I h x) (hk : z_in h x 1 k) : (j_it h (z_el h x 1 k) 8 + j_it h x 6) - j_it h (z_el h x 1 k) 5 = z_er (z_c h x) k := by
  unfold z_er z_tp
  rw [z_pwx, (I.2 k hk).1]
  rfl
theorem z_lr_at {h : j_H} {x k : Nat} (I : z_I h x) (hk : z_in h x 1 k) : (j_it h (z_el h x 1 k) 9 + j_it h x 6) - j_it h (z_el h x 1 k) 5 = z_lr (z_c h x) k := by
  unfold z_lr z_tp
  rw [z_pwx, (I.2 k hk).2]
  rfl
