/-! asking the model: word for word -/
section SY
variable {z : j_Z} {g k : Nat} {c : Int32}
end SY
theorem z_mxb {y : Int32} (h : y.toInt ≤ 100000) : 0 ≤ (if Int32.ofInt (0) < y then y else Int32.ofInt (0)).toInt ∧ (if Int32.ofInt (0) < y then y else Int32.ofInt (0)).toInt ≤ 100000 := by
  have z0 : (Int32.ofInt 0).toInt = 0 := by decide
  by_cases q : Int32.ofInt (0) < y
  · rw [if_pos q]
    have q := Int32.lt_iff_toInt_lt.mp q
    omega
  · rw [if_neg q, z0]; omega
theorem z_r0e {p d s : Int32} (p0 : 0 ≤ p.toInt) (p1 : p.toInt ≤ 10008) (d0 : 0 ≤ d.toInt) (d1 : d.toInt ≤ 10008) (s0 : 0 ≤ s.toInt) (s1 : s.toInt ≤ 9) : 0 ≤ ((p + s) + (if Int32.ofInt (0) < (d - s) then (d - s) else Int32.ofInt (0))).toInt := by
  have e1 : (p + s).toInt = p.toInt + s.toInt := j_addI (by omega) (by omega)
  have e2 : (d - s).toInt = d.toInt - s.toInt := j_subI (by omega) (by omega)
  have e3 := z_mxb (y := d - s) (by omega)
  rw [j_addI (by omega) (by omega)]
  omega
theorem z_r0l {p d s : Int32} (p0 : 0 ≤ p.toInt) (p1 : p.toInt ≤ 10008) (d0 : 0 ≤ d.toInt) (d1 : d.toInt ≤ 10008) (s0 : 0 ≤ s.toInt) (s1 : s.toInt ≤ 9) : 0 ≤ ((if Int32.ofInt (0) < (p - s) then (p - s) else Int32.ofInt (0)) + (d + s)).toInt := by
  have e1 : (d + s).toInt = d.toInt + s.toInt := j_addI (by omega) (by omega)
  have e2 : (p - s).toInt = p.toInt - s.toInt := j_subI (by omega) (by omega)
  have e3 := z_mxb (y := p - s) (by omega)
  rw [j_addI (by omega) (by omega)]
  omega
set_option maxHeartbeats 4000000 in
set_option maxRecDepth 20000 in
theorem c_Mo_earlyx {ρ : Nat → Nat} {h : j_H} {m P G R Q : Nat} {e k : Nat} {b : Int32} (w : j_MX ρ h m P G R Q) (ke : j_kd h e = some (.inl 11)) (V : z_V (z_d h m P G R Q)) (hk : (k : Int) < (j_it h R 2).toInt) (he : z_ml h R k = e) (hb : 2 ≤ b.toInt) : j_Ct 175 1 24 0 0 [j_r (some m), j_r (some e), j_i b] h (fun v h' => h' = h ∧ v = some (j_i ((z_te b ((z_d h m P G R Q).2.2.2.1 k 2) ((z_d h m P G R Q).2.2.2.1 k 3) ((z_d h m P G R Q).2.2.2.1 k 4) + (z_d h m P G R Q).1 6) - ((z_d h m P G R Q).2.2.2.1 k 5)))) j_no := by
  refine j_intro km_175 (Nat.le_of_ble_eq_true rfl) ?_
  intro J hJ hF
  have wb := w.b
  have hk0 : z_lt (z_d h m P G R Q) 1 k := hk
  obtain ⟨-, vm, vd, vs⟩ := V.2.2.2 k hk0
  have d2 : (z_d h m P G R Q).2.2.2.1 k 2 = j_it h e 2 := by rw [← he]; rfl
  have d3 : (z_d h m P G R Q).2.2.2.1 k 3 = j_it h e 3 := by rw [← he]; rfl
  have d4 : (z_d h m P G R Q).2.2.2.1 k 4 = j_it h e 4 := by rw [← he]; rfl
  have d5 : (z_d h m P G R Q).2.2.2.1 k 5 = j_it h e 5 := by rw [← he]; rfl
  rw [d2] at vm
  rw [d3] at vd
  rw [d4] at vs
  rw [d2, d3, d4, d5] at hJ
  refine hJ [] 400 _ _ _ _ _ _ ?_
  conv => whnf
  refine ⟨_, rfl, ke, fun x1 ex1 => ?_⟩
  obtain rfl : x1 = j_it h e 2 := ex1.symm
  conv => whnf
  refine ⟨_, rfl, ke, fun x2 ex2 => ?_⟩
  obtain rfl : x2 = j_it h e 4 := ex2.symm
  conv => whnf
  refine ⟨_, rfl, ke, fun x3 ex3 => ?_⟩
  obtain rfl : x3 = j_it h e 3 := ex3.symm
  conv => whnf
  refine ⟨_, rfl, ke, fun x4 ex4 => ?_⟩
  obtain rfl : x4 = j_it h e 4 := ex4.symm
  conv => whnf
  refine ⟨⟨Nat.le_of_ble_eq_true rfl, Nat.le_of_ble_eq_true rfl, Nat.le_of_ble_eq_true rfl, Nat.le_of_ble_eq_true rfl⟩, ?_⟩
  conv => whnf
  refine ⟨rfl, _, _, _, _, _, _, c_Mo_earlix hb (z_r0e vm.1 vm.2 vd.1 vd.2 vs.1 vs.2), ⟨Nat.le_of_ble_eq_true rfl, Nat.le_of_ble_eq_true rfl, Nat.le_of_ble_eq_true rfl, Nat.le_of_ble_eq_true rfl⟩, fun _ _ z => False.elim z, ?_⟩
  rintro v9 h9 ⟨e9, rfl⟩
  obtain rfl : h = h9 := e9.symm
  conv => whnf
  refine ⟨_, rfl, w.km, fun x6 ex6 => ?_⟩
  obtain rfl : x6 = j_it h m 2 := ex6.symm
  conv => whnf
  refine ⟨_, rfl, ke, fun x7 ex7 => ?_⟩
  obtain rfl : x7 = j_it h e 5 := ex7.symm
  conv => whnf
  exact ⟨trivial, ⟨Nat.le_of_ble_eq_true rfl, Nat.le_of_ble_eq_true rfl⟩, rfl, rfl⟩
set_option maxHeartbeats 4000000 in
set_option maxRecDepth 20000 in
theorem c_Mo_latex {ρ : Nat → Nat} {h : j_H} {m P G R Q : Nat} {e k : Nat} {b : Int32} (w : j_MX ρ h m P G R Q) (ke : j_kd h e = some (.inl 11)) (V : z_V (z_d h m P G R Q)) (hk : (k : Int) < (j_it h R 2).toInt) (he : z_ml h R k = e) (hb : 2 ≤ b.toInt) : j_Ct 190 1 24 0 0 [j_r (some m), j_r (some e), j_i b] h (fun v h' => h' = h ∧ v = some (j_i ((z_tl b ((z_d h m P G R Q).2.2.2.1 k 2) ((z_d h m P G R Q).2.2.2.1 k 3) ((z_d h m P G R Q).2.2.2.1 k 4) + (z_d h m P G R Q).1 6) - ((z_d h m P G R Q).2.2.2.1 k 5)))) j_no := by
  refine j_intro km_190 (Nat.le_of_ble_eq_true rfl) ?_
  intro J hJ hF
  have wb := w.b
  have hk0 : z_lt (z_d h m P G R Q) 1 k := hk
  obtain ⟨-, vm, vd, vs⟩ := V.2.2.2 k hk0
  have d2 : (z_d h m P G R Q).2.2.2.1 k 2 = j_it h e 2 := by rw [← he]; rfl
  have d3 : (z_d h m P G R Q).2.2.2.1 k 3 = j_it h e 3 := by rw [← he]; rfl
  have d4 : (z_d h m P G R Q).2.2.2.1 k 4 = j_it h e 4 := by rw [← he]; rfl
  have d5 : (z_d h m P G R Q).2.2.2.1 k 5 = j_it h e 5 := by rw [← he]; rfl
  rw [d2] at vm
  rw [d3] at vd
  rw [d4] at vs
  rw [d2, d3, d4, d5] at hJ
  refine hJ [] 400 _ _ _ _ _ _ ?_
  conv => whnf
  refine ⟨_, rfl, ke, fun x1 ex1 => ?_⟩
  obtain rfl : x1 = j_it h e 2 := ex1.symm
  conv => whnf
  refine ⟨_, rfl, ke, fun x2 ex2 => ?_⟩
  obtain rfl : x2 = j_it h e 4 := ex2.symm
  conv => whnf
  refine ⟨⟨Nat.le_of_ble_eq_true rfl, Nat.le_of_ble_eq_true rfl, Nat.le_of_ble_eq_true rfl, Nat.le_of_ble_eq_true rfl⟩, ?_⟩
  conv => whnf
  refine ⟨_, rfl, ke, fun x3 ex3 => ?_⟩
  obtain rfl : x3 = j_it h e 3 := ex3.symm
  conv => whnf
  refine ⟨_, rfl, ke, fun x4 ex4 => ?_⟩
  obtain rfl : x4 = j_it h e 4 := ex4.symm
  conv => whnf
  refine ⟨rfl, _, _, _, _, _, _, c_Mo_latix hb (z_r0l vm.1 vm.2 vd.1 vd.2 vs.1 vs.2), ⟨Nat.le_of_ble_eq_true rfl, Nat.le_of_ble_eq_true rfl, Nat.le_of_ble_eq_true rfl, Nat.le_of_ble_eq_true rfl⟩, fun _ _ z => False.elim z, ?_⟩
  rintro v9 h9 ⟨e9, rfl⟩
  obtain rfl : h = h9 := e9.symm
  conv => whnf
  refine ⟨_, rfl, w.km, fun x6 ex6 => ?_⟩
  obtain rfl : x6 = j_it h m 2 := ex6.symm
  conv => whnf
  refine ⟨_, rfl, ke, fun x7 ex7 => ?_⟩
  obtain rfl : x7 = j_it h e 5 := ex7.symm
  conv => whnf
  refine ⟨trivial, ⟨Nat.le_of_ble_eq_true rfl, Nat.le_of_ble_eq_true rfl⟩, rfl, congrArg (fun r => some (j_i r)) ?_⟩
  unfold z_tl
  rw [Int32.add_assoc (if Int32.ofInt (0) < (j_it h e 2 - j_it h e 4) then (j_it h e 2 - j_it h e 4) else Int32.ofInt (0))]
  rfl
theorem z_pmx {ρ : Nat → Nat} {h : j_H} {m P G R Q : Nat} {x : Int32} (hx : 0 ≤ x.toInt ∧ x.toInt ≤ 1) : j_it h P x.toNatClampNeg = (z_d h m P G R Q).1 (j_pf x) := by
  rcases j_pf34' x with ⟨q1, q2⟩ | ⟨q1, q2⟩
  · rw [q2, show x.toNatClampNeg = 0 by have := j_clamp hx.1; omega]
    rfl
  · rw [q2, show x.toNatClampNeg = 1 by have := j_clamp hx.1; omega]
    rfl
theorem z_V.tp {z : j_Z} (v : z_V z) (c : Int32) : 2 ≤ (z.1 (j_pf c)).toInt ∧ (z.1 (j_pf c)).toInt ≤ 200 := by
  rcases j_pf34' c with ⟨q1, q2⟩ | ⟨q1, q2⟩
  · rw [q2]; exact v.1.1
  · rw [q2]; exact v.1.2
