/-! the model's asking methods: the heap stays -/
theorem j_mul2 {x : Int32} (h0 : 0 ≤ x.toInt) (h1 : x.toInt ≤ 1000) : (Int32.ofInt (2) * x).toInt = 2 * x.toInt := by
  have e : (Int32.ofInt (2)).toInt = 2 := by decide
  rw [Int32.toInt_mul, e, Int.bmod_def]
  omega
theorem j_dbl {x : Int32} (h0 : 0 ≤ x.toInt) (h1 : x.toInt ≤ 1000) : (Int32.ofInt (2) * x).toInt = 2 * x.toInt := j_mul2 h0 h1
theorem j_dbl1 {x : Int32} (h0 : 0 ≤ x.toInt) (h1 : x.toInt ≤ 1000) : ((Int32.ofInt (2) * x) + Int32.ofInt (1)).toInt = 2 * x.toInt + 1 := by
  rw [j_inc1 (by rw [j_mul2 h0 h1]; omega), j_mul2 h0 h1]
theorem j_dbl5 {x y : Int32} (h0 : 0 ≤ x.toInt) (h1 : x.toInt ≤ 1000) (y0 : 5 ≤ y.toInt) (y1 : y.toInt ≤ 6) : (((Int32.ofInt (2) * x) + y) - Int32.ofInt (5)).toInt = 2 * x.toInt + y.toInt - 5 := by
  have e : (Int32.ofInt (5)).toInt = 5 := by decide
  have e2 : ((Int32.ofInt (2) * x) + y).toInt = 2 * x.toInt + y.toInt := by rw [j_addI (by rw [j_mul2 h0 h1]; omega) (by rw [j_mul2 h0 h1]; omega), j_mul2 h0 h1]
  rw [j_subI (by rw [e2, e]; omega) (by rw [e2, e]; omega), e2, e]
theorem j_div3 {y : Int32} (h0 : 0 ≤ y.toInt) (h1 : y.toInt ≤ 5) : 0 ≤ (y / Int32.ofInt (3)).toInt ∧ (y / Int32.ofInt (3)).toInt ≤ 1 := by
  have e : (Int32.ofInt (3)).toInt = 3 := by decide
  rw [Int32.toInt_div, e, Int.tdiv_eq_ediv_of_nonneg h0, Int.bmod_def]
  omega
theorem j_sub1 {x : Int32} (h0 : 0 ≤ x.toInt) : (x - Int32.ofInt (1)).toInt = x.toInt - 1 := by
  have e : (Int32.ofInt (1)).toInt = 1 := by decide
  have u := j_ub x
  rw [j_subI (by omega) (by omega), e]
theorem j_nzP {ρ : Nat → Nat} {h : j_H} {m P G R Q : Nat} {x i : Int32} (w : j_MX ρ h m P G R Q) (e : j_it h P i.toNatClampNeg = x) (h0 : 0 ≤ i.toInt) (h1 : i.toInt ≤ 1) : x.toInt ≠ 0 := by
  have c := j_clamp h0
  have z := w.zP i.toNatClampNeg (by omega)
  rw [e] at z
  exact fun q => z (j_e0.mpr q)
theorem j_Mf.gA {ρ : Nat → Nat} {h h1 : j_H} {m e : Nat} (f : j_Mf ρ m h h1) (ke : j_kd h e = some (.inl 10)) (g : j_gA ρ h e) : j_gA ρ h1 e := fun k hk => by
  obtain ⟨b, b1, b2, b3, b4⟩ := g k hk
  exact ⟨b, (f.2.2.1 e ke k hk).trans b1, f.kd b2, (f.ln b2).trans b3, b4⟩
theorem j_Mf.rA {ρ : Nat → Nat} {h h1 : j_H} {m e : Nat} (f : j_Mf ρ m h h1) (ke : j_kd h e = some (.inl 11)) (g : j_rA h e) : j_rA h1 e := f.2.2.2.1 e ke g
theorem j_same {h : j_H} {L e e1 i : Nat} (g : ∃ arr, j_rf h L 1 = some arr ∧ j_rf h arr i = some e) (g1 : ∃ arr, j_rf h L 1 = some arr ∧ j_rf h arr i = some e1) : e = e1 := by
  obtain ⟨a, a1, a2⟩ := g
  obtain ⟨b, b1, b2⟩ := g1
  obtain rfl : a = b := Option.some.inj (a1.symm.trans b1)
  exact Option.some.inj (a2.symm.trans b2)

set_option maxHeartbeats 4000000 in
set_option maxRecDepth 20000 in
theorem c_Mo_is {h : j_H} {a : Int32} {b : Int32} {c : Int32}   : j_Ct 182 0 0 0 0 [j_i a, j_i b, j_i c] h (fun v h' => h' = h ∧ ∃ r, v = some (j_i r) ∧ (r = 0 ∨ r = 1) ∧ (r.toInt = 0 ∨ (b.toInt ≤ a.toInt ∧ a.toInt ≤ c.toInt))) j_no := by
  refine j_intro km_182 (Nat.le_of_ble_eq_true rfl) ?_
  intro J hJ hF
  refine hJ [] 400 _ _ _ _ _ _ ?_
  have u1 := j_ub b
  have u2 := j_ub a
  conv => whnf
  refine ⟨fun c3 => ?_, fun c3 => ?_⟩
  · have c3 : (a).toInt < (b).toInt := c3
    have q4 : (Int32.ofInt (0)).toInt = 0 := by decide
    conv => whnf
    exact ⟨Or.inl rfl, ⟨Nat.le_of_ble_eq_true rfl, Nat.le_of_ble_eq_true rfl⟩, rfl, _, rfl, Or.inl rfl, by omega⟩
  · have c3 : ¬ (a).toInt < (b).toInt := c3
    have u5 := j_ub c
    have u6 := j_ub a
    conv => whnf
    refine ⟨fun c7 => ?_, fun c7 => ?_⟩
    · have c7 : (c).toInt < (a).toInt := c7
      have q8 : (Int32.ofInt (0)).toInt = 0 := by decide
      conv => whnf
      exact ⟨Or.inl rfl, ⟨Nat.le_of_ble_eq_true rfl, Nat.le_of_ble_eq_true rfl⟩, rfl, _, rfl, Or.inl rfl, by omega⟩
    · have c7 : ¬ (c).toInt < (a).toInt := c7
      have q9 : (Int32.ofInt (1)).toInt = 1 := by decide
      conv => whnf
      exact ⟨Or.inr rfl, ⟨Nat.le_of_ble_eq_true rfl, Nat.le_of_ble_eq_true rfl⟩, rfl, _, rfl, Or.inr rfl, by omega⟩
set_option maxHeartbeats 4000000 in
set_option maxRecDepth 20000 in
theorem c_Mo_leftOf {h : j_H} {a : Int32} {b : Int32} {c : Int32}  (hb : b.toInt ≠ 0) : j_Ct 194 0 0 0 0 [j_i a, j_i b, j_i c] h (fun v h' => h' = h ∧ ∃ r, v = some (j_i r)) j_no := by
  refine j_intro km_194 (Nat.le_of_ble_eq_true rfl) ?_
  intro J hJ hF
  refine hJ [5] 400 _ _ _ _ _ _ ?_
  have L5_3 : ∀ (k : Nat) (v1 : Int32) (v2 : Int32), 0 ≤ v2.toInt → (2147483647 - v2.toInt) < (k : Int) → J 5 [some (j_i a), some (j_i b), some (j_i c), some (j_i v1), some (j_i v2)] [] h 0 0 := by
    intro k
    induction k with
    | zero => intro v1 v2 hn hm; exact absurd hm (by have := j_ub v2; omega)
    | succ k ihB4 =>
      intro v1 v2 hn hm
      have uv1 := j_ub v1; have lv1 := j_lb v1
      have uv2 := j_ub v2; have lv2 := j_lb v2
      refine hJ [5] 400 _ _ _ _ _ _ ?_
      have u5 := j_ub c
      have u6 := j_ub v2
      conv => whnf
      refine ⟨fun c7 => ?_, fun c7 => ?_⟩
      · have c7 : (c).toInt ≤ (v2).toInt := c7
        conv => whnf
        exact ⟨trivial, ⟨Nat.le_of_ble_eq_true rfl, Nat.le_of_ble_eq_true rfl⟩, rfl, _, rfl⟩
      · have c7 : ¬ (c).toInt ≤ (v2).toInt := c7
        have u8 := j_ub b
        have u9 := j_ub v1
        conv => whnf
        refine ⟨fun c10 => ?_, fun c10 => ?_⟩
        · have c10 : (v1).toInt < (b).toInt := c10
          conv => whnf
          exact ⟨trivial, ⟨Nat.le_of_ble_eq_true rfl, Nat.le_of_ble_eq_true rfl⟩, rfl, _, rfl⟩
        · have c10 : ¬ (v1).toInt < (b).toInt := c10
          conv => whnf
          refine ⟨fun z => absurd (j_e0.mp z) (by omega), ?_⟩
          have t11 : (v2 + Int32.ofInt 1).toInt = v2.toInt + 1 := j_inc1 (by omega)
          exact j_use hF (ihB4 _ _ (by omega) (by omega)) (And.intro rfl (And.intro rfl (And.intro rfl (And.intro rfl (And.intro rfl trivial)))))
  have q12 : (Int32.ofInt (0)).toInt = 0 := by decide
  exact j_use hF (L5_3 4294967296 _ _ (by omega) (by omega)) (And.intro rfl (And.intro rfl (And.intro rfl (And.intro rfl (And.intro rfl trivial)))))
set_option maxHeartbeats 4000000 in
set_option maxRecDepth 20000 in
theorem c_Mo_earliest {h : j_H} {a : Int32} {b : Int32} {c : Int32}  (hc : c.toInt ≠ 0) : j_Ct 174 0 0 0 0 [j_i a, j_i b, j_i c] h (fun v h' => h' = h ∧ ∃ r, v = some (j_i r)) j_no := by
  refine j_intro km_174 (Nat.le_of_ble_eq_true rfl) ?_
  intro J hJ hF
  refine hJ [7] 400 _ _ _ _ _ _ ?_
  have L7_3 : ∀ (k : Nat) (v1 : Int32) (v2 : Int32), 0 ≤ v2.toInt → (2147483647 - v2.toInt) < (k : Int) → J 7 [some (j_i a), some (j_i b), some (j_i c), some (j_i v1), some (j_i v2)] [] h 0 0 := by
    intro k
    induction k with
    | zero => intro v1 v2 hn hm; exact absurd hm (by have := j_ub v2; omega)
    | succ k ihB4 =>
      intro v1 v2 hn hm
      have uv1 := j_ub v1; have lv1 := j_lb v1
      have uv2 := j_ub v2; have lv2 := j_lb v2
      refine hJ [7] 400 _ _ _ _ _ _ ?_
      have u5 := j_ub a
      have u6 := j_ub v1
      conv => whnf
      refine ⟨fun c7 => ?_, fun c7 => ?_⟩
      · have c7 : (v1).toInt ≤ (a).toInt := c7
        conv => whnf
        exact ⟨trivial, ⟨Nat.le_of_ble_eq_true rfl, Nat.le_of_ble_eq_true rfl⟩, rfl, _, rfl⟩
      · have c7 : ¬ (v1).toInt ≤ (a).toInt := c7
        have q8 : ((Int16.ofInt (3000)).toInt32).toInt = 3000 := by decide
        have u9 := j_ub v2
        conv => whnf
        refine ⟨fun c10 => ?_, fun c10 => ?_⟩
        · have c10 : ((Int16.ofInt (3000)).toInt32).toInt ≤ (v2).toInt := c10
          conv => whnf
          exact ⟨trivial, ⟨Nat.le_of_ble_eq_true rfl, Nat.le_of_ble_eq_true rfl⟩, rfl, _, rfl⟩
        · have c10 : ¬ ((Int16.ofInt (3000)).toInt32).toInt ≤ (v2).toInt := c10
          have u11 := j_ub c
          have u12 := j_ub v1
          conv => whnf
          refine ⟨fun c13 => ?_, fun c13 => ?_⟩
          · have c13 : (c).toInt ≤ (v1).toInt := c13
            conv => whnf
            refine ⟨fun z => absurd (j_e0.mp z) (by omega), ?_⟩
            have t14 : (v2 + Int32.ofInt 1).toInt = v2.toInt + 1 := j_inc1 (by omega)
            exact j_use hF (ihB4 _ _ (by omega) (by omega)) (And.intro rfl (And.intro rfl (And.intro rfl (And.intro rfl (And.intro rfl trivial)))))
          · have c13 : ¬ (c).toInt ≤ (v1).toInt := c13
            conv => whnf
            exact ⟨trivial, ⟨Nat.le_of_ble_eq_true rfl, Nat.le_of_ble_eq_true rfl⟩, rfl, _, rfl⟩
  have q15 : (Int32.ofInt (0)).toInt = 0 := by decide
  exact j_use hF (L7_3 4294967296 _ _ (by omega) (by omega)) (And.intro rfl (And.intro rfl (And.intro rfl (And.intro rfl (And.intro rfl trivial)))))
set_option maxHeartbeats 4000000 in
set_option maxRecDepth 20000 in
theorem c_Mo_latest {h : j_H} {a : Int32} {b : Int32} {c : Int32}  (hc : c.toInt ≠ 0) : j_Ct 192 0 0 0 0 [j_i a, j_i b, j_i c] h (fun v h' => h' = h ∧ ∃ r, v = some (j_i r)) j_no := by
  refine j_intro km_192 (Nat.le_of_ble_eq_true rfl) ?_
  intro J hJ hF
  refine hJ [7] 400 _ _ _ _ _ _ ?_
  have L7_3 : ∀ (k : Nat) (v1 : Int32) (v2 : Int32), 0 ≤ v2.toInt → (2147483647 - v2.toInt) < (k : Int) → J 7 [some (j_i a), some (j_i b), some (j_i c), some (j_i v1), some (j_i v2)] [] h 0 0 := by
    intro k
    induction k with
    | zero => intro v1 v2 hn hm; exact absurd hm (by have := j_ub v2; omega)
    | succ k ihB4 =>
      intro v1 v2 hn hm
      have uv1 := j_ub v1; have lv1 := j_lb v1
      have uv2 := j_ub v2; have lv2 := j_lb v2
      refine hJ [7] 400 _ _ _ _ _ _ ?_
      have q5 : ((Int16.ofInt (3000)).toInt32).toInt = 3000 := by decide
      have u6 := j_ub v2
      conv => whnf
      refine ⟨fun c7 => ?_, fun c7 => ?_⟩
      · have c7 : ((Int16.ofInt (3000)).toInt32).toInt ≤ (v2).toInt := c7
        conv => whnf
        exact ⟨trivial, ⟨Nat.le_of_ble_eq_true rfl, Nat.le_of_ble_eq_true rfl⟩, rfl, _, rfl⟩
      · have c7 : ¬ ((Int16.ofInt (3000)).toInt32).toInt ≤ (v2).toInt := c7
        have u8 := j_ub c
        have u9 := j_ub v1
        conv => whnf
        refine ⟨fun c10 => ?_, fun c10 => ?_⟩
        · have c10 : (c).toInt ≤ (v1).toInt := c10
          conv => whnf
          refine ⟨fun z => absurd (j_e0.mp z) (by omega), ?_⟩
          have u11 := j_ub a
          conv => whnf
          refine ⟨fun c12 => ?_, fun c12 => ?_⟩
          · have c12 : (a).toInt ≤ ((v1 - (v1 / c))).toInt := c12
            have t13 : (v2 + Int32.ofInt 1).toInt = v2.toInt + 1 := j_inc1 (by omega)
            exact j_use hF (ihB4 _ _ (by omega) (by omega)) (And.intro rfl (And.intro rfl (And.intro rfl (And.intro rfl (And.intro rfl trivial)))))
          · have c12 : ¬ (a).toInt ≤ ((v1 - (v1 / c))).toInt := c12
            conv => whnf
            exact ⟨trivial, ⟨Nat.le_of_ble_eq_true rfl, Nat.le_of_ble_eq_true rfl⟩, rfl, _, rfl⟩
        · have c10 : ¬ (c).toInt ≤ (v1).toInt := c10
          conv => whnf
          exact ⟨trivial, ⟨Nat.le_of_ble_eq_true rfl, Nat.le_of_ble_eq_true rfl⟩, rfl, _, rfl⟩
  have q14 : (Int32.ofInt (0)).toInt = 0 := by decide
  exact j_use hF (L7_3 4294967296 _ _ (by omega) (by omega)) (And.intro rfl (And.intro rfl (And.intro rfl (And.intro rfl (And.intro rfl trivial)))))
set_option maxHeartbeats 4000000 in
set_option maxRecDepth 20000 in
theorem c_Mo_early {ρ : Nat → Nat} {h : j_H} {m P G R Q : Nat} {e : Nat} {b : Int32} (w : j_MX ρ h m P G R Q) (ke : j_kd h e = some (.inl 11)) (hb : b.toInt ≠ 0) : j_Ct 175 1 24 0 0 [j_r (some m), j_r (some e), j_i b] h (fun v h' => h' = h ∧ ∃ r, v = some (j_i r)) j_no := by
  refine j_intro km_175 (Nat.le_of_ble_eq_true rfl) ?_
  intro J hJ hF
  have wb := w.b
  refine hJ [] 400 _ _ _ _ _ _ ?_
  conv => whnf
  refine ⟨_, rfl, ke, fun x1 ex1 => ?_⟩
  conv => whnf
  refine ⟨_, rfl, ke, fun x2 ex2 => ?_⟩
  conv => whnf
  refine ⟨_, rfl, ke, fun x3 ex3 => ?_⟩
  conv => whnf
  refine ⟨_, rfl, ke, fun x4 ex4 => ?_⟩
  conv => whnf
  refine ⟨⟨Nat.le_of_ble_eq_true rfl, Nat.le_of_ble_eq_true rfl, Nat.le_of_ble_eq_true rfl, Nat.le_of_ble_eq_true rfl⟩, ?_⟩
  conv => whnf
  refine ⟨rfl, _, _, _, _, _, _, c_Mo_earliest (by omega), ⟨Nat.le_of_ble_eq_true rfl, Nat.le_of_ble_eq_true rfl, Nat.le_of_ble_eq_true rfl, Nat.le_of_ble_eq_true rfl⟩, fun _ _ z => False.elim z, ?_⟩
  rintro v9 h9 ⟨e9, r5, rfl⟩
  obtain rfl : h = h9 := e9.symm
  conv => whnf
  refine ⟨_, rfl, w.km, fun x6 ex6 => ?_⟩
  conv => whnf
  refine ⟨_, rfl, ke, fun x7 ex7 => ?_⟩
  conv => whnf
  exact ⟨trivial, ⟨Nat.le_of_ble_eq_true rfl, Nat.le_of_ble_eq_true rfl⟩, rfl, _, rfl⟩
set_option maxHeartbeats 4000000 in
set_option maxRecDepth 20000 in
theorem c_Mo_late {ρ : Nat → Nat} {h : j_H} {m P G R Q : Nat} {e : Nat} {b : Int32} (w : j_MX ρ h m P G R Q) (ke : j_kd h e = some (.inl 11)) (hb : b.toInt ≠ 0) : j_Ct 190 1 24 0 0 [j_r (some m), j_r (some e), j_i b] h (fun v h' => h' = h ∧ ∃ r, v = some (j_i r)) j_no := by
  refine j_intro km_190 (Nat.le_of_ble_eq_true rfl) ?_
  intro J hJ hF
  have wb := w.b
  refine hJ [] 400 _ _ _ _ _ _ ?_
  conv => whnf
  refine ⟨_, rfl, ke, fun x1 ex1 => ?_⟩
  conv => whnf
  refine ⟨_, rfl, ke, fun x2 ex2 => ?_⟩
  conv => whnf
  refine ⟨⟨Nat.le_of_ble_eq_true rfl, Nat.le_of_ble_eq_true rfl, Nat.le_of_ble_eq_true rfl, Nat.le_of_ble_eq_true rfl⟩, ?_⟩
  conv => whnf
  refine ⟨_, rfl, ke, fun x3 ex3 => ?_⟩
  conv => whnf
  refine ⟨_, rfl, ke, fun x4 ex4 => ?_⟩
  conv => whnf
  refine ⟨rfl, _, _, _, _, _, _, c_Mo_latest (by omega), ⟨Nat.le_of_ble_eq_true rfl, Nat.le_of_ble_eq_true rfl, Nat.le_of_ble_eq_true rfl, Nat.le_of_ble_eq_true rfl⟩, fun _ _ z => False.elim z, ?_⟩
  rintro v9 h9 ⟨e9, r5, rfl⟩
  obtain rfl : h = h9 := e9.symm
  conv => whnf
  refine ⟨_, rfl, w.km, fun x6 ex6 => ?_⟩
  conv => whnf
  refine ⟨_, rfl, ke, fun x7 ex7 => ?_⟩
  conv => whnf
  exact ⟨trivial, ⟨Nat.le_of_ble_eq_true rfl, Nat.le_of_ble_eq_true rfl⟩, rfl, _, rfl⟩
set_option maxHeartbeats 4000000 in
set_option maxRecDepth 20000 in
theorem c_Mo_isGrain {ρ : Nat → Nat} {h : j_H} {m P G R Q : Nat} {a : Int32} (w : j_MX ρ h m P G R Q)  : j_Ct 183 1 22 0 0 [j_r (some m), j_i a] h (fun v h' => h' = h ∧ ∃ r, v = some (j_i r) ∧ (r = 0 ∨ r = 1) ∧ (r.toInt = 0 ∨ (0 ≤ a.toInt ∧ a.toInt < (j_it h G 2).toInt))) j_no := by
  refine j_intro km_183 (Nat.le_of_ble_eq_true rfl) ?_
  intro J hJ hF
  have wb := w.b
  refine hJ [] 400 _ _ _ _ _ _ ?_
  conv => whnf
  refine ⟨_, rfl, w.km, fun o1 eo => ?_⟩
  obtain rfl : o1 = some G := eo.symm.trans w.eG
  conv => whnf
  refine ⟨w.lG.1, rfl, _, _, _, _, _, _, c_AL_size (h := h) w.lG j_Sc.rf j_sf_ok, ⟨Nat.le_of_ble_eq_true rfl, Nat.le_of_ble_eq_true rfl, Nat.le_of_ble_eq_true rfl, Nat.le_of_ble_eq_true rfl⟩, fun _ _ z => False.elim z, ?_⟩
  rintro v9 h9 ⟨e9, rfl⟩
  obtain rfl : h = h9 := e9.symm
  have q2 := j_sub1 (x := (j_it h G 2)) (by omega)
  have q8 := j_sub1 (x := j_it h G 2) (by omega)
  have q3 : (Int32.ofInt (0)).toInt = 0 := by decide
  conv => whnf
  refine ⟨rfl, _, _, _, _, _, _, c_Mo_is, ⟨Nat.le_of_ble_eq_true rfl, Nat.le_of_ble_eq_true rfl, Nat.le_of_ble_eq_true rfl, Nat.le_of_ble_eq_true rfl⟩, fun _ _ z => False.elim z, ?_⟩
  rintro v9 h9 ⟨e9, r4, rfl, zr4, mr4⟩
  obtain rfl : h = h9 := e9.symm
  conv => whnf
  exact ⟨zr4, ⟨Nat.le_of_ble_eq_true rfl, Nat.le_of_ble_eq_true rfl⟩, rfl, _, rfl, zr4, by omega⟩
set_option maxHeartbeats 4000000 in
set_option maxRecDepth 20000 in
theorem c_Mo_isRun {ρ : Nat → Nat} {h : j_H} {m P G R Q : Nat} {a : Int32} (w : j_MX ρ h m P G R Q)  : j_Ct 184 1 22 0 0 [j_r (some m), j_i a] h (fun v h' => h' = h ∧ ∃ r, v = some (j_i r) ∧ (r = 0 ∨ r = 1) ∧ (r.toInt = 0 ∨ (0 ≤ a.toInt ∧ a.toInt < (j_it h R 2).toInt))) j_no := by
  refine j_intro km_184 (Nat.le_of_ble_eq_true rfl) ?_
  intro J hJ hF
  have wb := w.b
  refine hJ [] 400 _ _ _ _ _ _ ?_
  conv => whnf
  refine ⟨_, rfl, w.km, fun o1 eo => ?_⟩
  obtain rfl : o1 = some R := eo.symm.trans w.eR
  conv => whnf
  refine ⟨w.lR.1, rfl, _, _, _, _, _, _, c_AL_size (h := h) w.lR j_Sc.rf j_sf_ok, ⟨Nat.le_of_ble_eq_true rfl, Nat.le_of_ble_eq_true rfl, Nat.le_of_ble_eq_true rfl, Nat.le_of_ble_eq_true rfl⟩, fun _ _ z => False.elim z, ?_⟩
  rintro v9 h9 ⟨e9, rfl⟩
  obtain rfl : h = h9 := e9.symm
  have q2 := j_sub1 (x := (j_it h R 2)) (by omega)
  have q8 := j_sub1 (x := j_it h R 2) (by omega)
  have q3 : (Int32.ofInt (0)).toInt = 0 := by decide
  conv => whnf
  refine ⟨rfl, _, _, _, _, _, _, c_Mo_is, ⟨Nat.le_of_ble_eq_true rfl, Nat.le_of_ble_eq_true rfl, Nat.le_of_ble_eq_true rfl, Nat.le_of_ble_eq_true rfl⟩, fun _ _ z => False.elim z, ?_⟩
  rintro v9 h9 ⟨e9, r4, rfl, zr4, mr4⟩
  obtain rfl : h = h9 := e9.symm
  conv => whnf
  exact ⟨zr4, ⟨Nat.le_of_ble_eq_true rfl, Nat.le_of_ble_eq_true rfl⟩, rfl, _, rfl, zr4, by omega⟩
set_option maxHeartbeats 4000000 in
set_option maxRecDepth 20000 in
theorem c_Mo_counts {ρ : Nat → Nat} {h : j_H} {m P G R Q : Nat} {a : Int32} {b : Int32} {c : Int32} (w : j_MX ρ h m P G R Q) (ha : 0 ≤ a.toInt ∧ a.toInt < (j_it h R 2).toInt) : j_Ct 171 3 64 0 0 [j_r (some m), j_i a, j_i b, j_i c] h (fun v h' => h' = h ∧ ∃ r, v = some (j_i r) ∧ (r = 0 ∨ r = 1)) j_no := by
  refine j_intro km_171 (Nat.le_of_ble_eq_true rfl) ?_
  intro J hJ hF
  have wb := w.b
  refine hJ [] 400 _ _ _ _ _ _ ?_
  conv => whnf
  refine ⟨_, rfl, w.km, fun o1 eo => ?_⟩
  obtain rfl : o1 = some R := eo.symm.trans w.eR
  conv => whnf
  refine ⟨w.lR.1, rfl, _, _, _, _, _, _, c_AL_get (h := h) w.lR j_Sc.rf j_sf_ok (by omega) (by omega), ⟨Nat.le_of_ble_eq_true rfl, Nat.le_of_ble_eq_true rfl, Nat.le_of_ble_eq_true rfl, Nat.le_of_ble_eq_true rfl⟩, fun _ _ z => False.elim z, ?_⟩
  rintro v9 h9 ⟨e9, g2, rfl, kg2, xg2⟩
  obtain rfl : h = h9 := e9.symm
  have feg2 := w.aR.get (by omega) (by omega) xg2
  conv => whnf
  refine ⟨Or.inr ⟨_, rfl, kg2⟩, ?_⟩
  conv => whnf
  refine ⟨_, rfl, kg2, fun x3 ex3 => ?_⟩
  conv => whnf
  refine ⟨fun c4 => ?_, fun c4 => ?_⟩
  · have c4 : ¬ (x3).toInt = 0 := c4
    conv => whnf
    exact ⟨Or.inl rfl, ⟨Nat.le_of_ble_eq_true rfl, Nat.le_of_ble_eq_true rfl⟩, rfl, _, rfl, Or.inl rfl⟩
  · have c4 : ¬ ¬ (x3).toInt = 0 := c4
    conv => whnf
    refine ⟨_, rfl, kg2, fun x5 ex5 => ?_⟩
    have u6 := j_ub b
    have u7 := j_ub x5
    conv => whnf
    refine ⟨fun c8 => ?_, fun c8 => ?_⟩
    · have c8 : ¬ (x5).toInt = (b).toInt := c8
      conv => whnf
      exact ⟨Or.inl rfl, ⟨Nat.le_of_ble_eq_true rfl, Nat.le_of_ble_eq_true rfl⟩, rfl, _, rfl, Or.inl rfl⟩
    · have c8 : ¬ ¬ (x5).toInt = (b).toInt := c8
      have q9 : (Int32.ofInt (-1)).toInt = -1 := by decide
      have u10 := j_ub c
      conv => whnf
      refine ⟨fun c11 => ?_, fun c11 => ?_⟩
      · have c11 : (c).toInt = (Int32.ofInt (-1)).toInt := c11
        conv => whnf
        exact ⟨Or.inr rfl, ⟨Nat.le_of_ble_eq_true rfl, Nat.le_of_ble_eq_true rfl⟩, rfl, _, rfl, Or.inr rfl⟩
      · have c11 : ¬ (c).toInt = (Int32.ofInt (-1)).toInt := c11
        conv => whnf
        refine ⟨_, rfl, kg2, fun x12 ex12 => ?_⟩
        have hx12 : 0 ≤ x12.toInt ∧ x12.toInt ≤ 1 := by rw [← ex12]; exact feg2
        have u13 := j_ub c
        have u14 := j_ub x12
        conv => whnf
        refine ⟨fun c15 => ?_, fun c15 => ?_⟩
        · have c15 : ¬ (x12).toInt = (c).toInt := c15
          conv => whnf
          exact ⟨Or.inl rfl, ⟨Nat.le_of_ble_eq_true rfl, Nat.le_of_ble_eq_true rfl⟩, rfl, _, rfl, Or.inl rfl⟩
        · have c15 : ¬ ¬ (x12).toInt = (c).toInt := c15
          conv => whnf
          exact ⟨Or.inr rfl, ⟨Nat.le_of_ble_eq_true rfl, Nat.le_of_ble_eq_true rfl⟩, rfl, _, rfl, Or.inr rfl⟩
set_option maxHeartbeats 4000000 in
set_option maxRecDepth 20000 in
theorem c_Mo_earlyOf {ρ : Nat → Nat} {h : j_H} {m P G R Q : Nat} {s : Nat} {a : Int32} {b : Int32} (w : j_MX ρ h m P G R Q) (ks : j_kd h s = some (.inr 0)) (ns : (j_ln h s : Int) = 2 * (j_it h R 2).toInt) : j_Ct 176 4 88 0 0 [j_r (some m), j_r (some s), j_i a, j_i b] h (fun v h' => h' = h ∧ ∃ r, v = some (j_i r)) j_no := by
  refine j_intro km_176 (Nat.le_of_ble_eq_true rfl) ?_
  intro J hJ hF
  have wb := w.b
  refine hJ [6] 400 _ _ _ _ _ _ ?_
  have L6_3 : ∀ (k : Nat) (v1 : Int32) (v2 : Int32), 0 ≤ v2.toInt → (2147483647 - v2.toInt) < (k : Int) → J 6 [some (j_r (some m)), some (j_r (some s)), some (j_i a), some (j_i b), some (j_i v1), some (j_i v2)] [] h 0 0 := by
    intro k
    induction k with
    | zero => intro v1 v2 hn hm; exact absurd hm (by have := j_ub v2; omega)
    | succ k ihB4 =>
      intro v1 v2 hn hm
      have uv1 := j_ub v1; have lv1 := j_lb v1
      have uv2 := j_ub v2; have lv2 := j_lb v2
      refine hJ [6] 400 _ _ _ _ _ _ ?_
      conv => whnf
      refine ⟨_, rfl, w.km, fun o5 eo => ?_⟩
      obtain rfl : o5 = some R := eo.symm.trans w.eR
      conv => whnf
      refine ⟨w.lR.1, rfl, _, _, _, _, _, _, c_AL_size (h := h) w.lR j_Sc.rf j_sf_ok, ⟨Nat.le_of_ble_eq_true rfl, Nat.le_of_ble_eq_true rfl, Nat.le_of_ble_eq_true rfl, Nat.le_of_ble_eq_true rfl⟩, fun _ _ z => False.elim z, ?_⟩
      rintro v9 h9 ⟨e9, rfl⟩
      obtain rfl : h = h9 := e9.symm
      have u6 := j_ub v2
      conv => whnf
      refine ⟨fun c7 => ?_, fun c7 => ?_⟩
      · have c7 : ((j_it h R 2)).toInt ≤ (v2).toInt := c7
        conv => whnf
        exact ⟨trivial, ⟨Nat.le_of_ble_eq_true rfl, Nat.le_of_ble_eq_true rfl⟩, rfl, _, rfl⟩
      · have c7 : ¬ ((j_it h R 2)).toInt ≤ (v2).toInt := c7
        conv => whnf
        refine ⟨w.km, rfl, _, _, _, _, _, _, c_Mo_counts w ⟨by omega, by omega⟩, ⟨Nat.le_of_ble_eq_true rfl, Nat.le_of_ble_eq_true rfl, Nat.le_of_ble_eq_true rfl, Nat.le_of_ble_eq_true rfl⟩, fun _ _ z => False.elim z, ?_⟩
        rintro v9 h9 ⟨e9, r8, rfl, zr8⟩
        obtain rfl : h = h9 := e9.symm
        conv => whnf
        refine ⟨fun c9 => ?_, fun c9 => ?_⟩
        · have c9 : (r8).toInt = 0 := c9
          have t10 : (v2 + Int32.ofInt 1).toInt = v2.toInt + 1 := j_inc1 (by omega)
          exact j_use hF (ihB4 _ _ (by omega) (by omega)) (And.intro rfl (And.intro rfl (And.intro rfl (And.intro rfl (And.intro rfl (And.intro rfl trivial))))))
        · have c9 : ¬ (r8).toInt = 0 := c9
          conv => whnf
          refine ⟨_, _, rfl, ks, rfl, j_vp (by rw [j_dbl (by omega) (by omega)]; omega) (by rw [j_dbl (by omega) (by omega)]; omega), fun x11 ex11 => ?_⟩
          conv => whnf
          refine ⟨⟨Nat.le_of_ble_eq_true rfl, Nat.le_of_ble_eq_true rfl, Nat.le_of_ble_eq_true rfl, Nat.le_of_ble_eq_true rfl⟩, ?_⟩
          have t12 : (v2 + Int32.ofInt 1).toInt = v2.toInt + 1 := j_inc1 (by omega)
          exact j_use hF (ihB4 _ _ (by omega) (by omega)) (And.intro rfl (And.intro rfl (And.intro rfl (And.intro rfl (And.intro rfl (And.intro rfl trivial))))))
  have q13 : (Int32.ofInt (0)).toInt = 0 := by decide
  exact j_use hF (L6_3 4294967296 _ _ (by omega) (by omega)) (And.intro rfl (And.intro rfl (And.intro rfl (And.intro rfl (And.intro rfl (And.intro rfl trivial))))))
set_option maxHeartbeats 4000000 in
set_option maxRecDepth 20000 in
theorem c_Mo_lateOf {ρ : Nat → Nat} {h : j_H} {m P G R Q : Nat} {s : Nat} {a : Int32} {b : Int32} (w : j_MX ρ h m P G R Q) (ks : j_kd h s = some (.inr 0)) (ns : (j_ln h s : Int) = 2 * (j_it h R 2).toInt) : j_Ct 191 4 88 0 0 [j_r (some m), j_r (some s), j_i a, j_i b] h (fun v h' => h' = h ∧ ∃ r, v = some (j_i r)) j_no := by
  refine j_intro km_191 (Nat.le_of_ble_eq_true rfl) ?_
  intro J hJ hF
  have wb := w.b
  refine hJ [8] 400 _ _ _ _ _ _ ?_
  have L8_3 : ∀ (k : Nat) (v1 : Int32) (v2 : Int32), 0 ≤ v2.toInt → (2147483647 - v2.toInt) < (k : Int) → J 8 [some (j_r (some m)), some (j_r (some s)), some (j_i a), some (j_i b), some (j_i v1), some (j_i v2)] [] h 0 0 := by
    intro k
    induction k with
    | zero => intro v1 v2 hn hm; exact absurd hm (by have := j_ub v2; omega)
    | succ k ihB4 =>
      intro v1 v2 hn hm
      have uv1 := j_ub v1; have lv1 := j_lb v1
      have uv2 := j_ub v2; have lv2 := j_lb v2
      refine hJ [8] 400 _ _ _ _ _ _ ?_
      conv => whnf
      refine ⟨_, rfl, w.km, fun o5 eo => ?_⟩
      obtain rfl : o5 = some R := eo.symm.trans w.eR
      conv => whnf
      refine ⟨w.lR.1, rfl, _, _, _, _, _, _, c_AL_size (h := h) w.lR j_Sc.rf j_sf_ok, ⟨Nat.le_of_ble_eq_true rfl, Nat.le_of_ble_eq_true rfl, Nat.le_of_ble_eq_true rfl, Nat.le_of_ble_eq_true rfl⟩, fun _ _ z => False.elim z, ?_⟩
      rintro v9 h9 ⟨e9, rfl⟩
      obtain rfl : h = h9 := e9.symm
      have u6 := j_ub v2
      conv => whnf
      refine ⟨fun c7 => ?_, fun c7 => ?_⟩
      · have c7 : ((j_it h R 2)).toInt ≤ (v2).toInt := c7
        conv => whnf
        exact ⟨trivial, ⟨Nat.le_of_ble_eq_true rfl, Nat.le_of_ble_eq_true rfl⟩, rfl, _, rfl⟩
      · have c7 : ¬ ((j_it h R 2)).toInt ≤ (v2).toInt := c7
        conv => whnf
        refine ⟨w.km, rfl, _, _, _, _, _, _, c_Mo_counts w ⟨by omega, by omega⟩, ⟨Nat.le_of_ble_eq_true rfl, Nat.le_of_ble_eq_true rfl, Nat.le_of_ble_eq_true rfl, Nat.le_of_ble_eq_true rfl⟩, fun _ _ z => False.elim z, ?_⟩
        rintro v9 h9 ⟨e9, r8, rfl, zr8⟩
        obtain rfl : h = h9 := e9.symm
        conv => whnf
        refine ⟨fun c9 => ?_, fun c9 => ?_⟩
        · have c9 : (r8).toInt = 0 := c9
          have t10 : (v2 + Int32.ofInt 1).toInt = v2.toInt + 1 := j_inc1 (by omega)
          exact j_use hF (ihB4 _ _ (by omega) (by omega)) (And.intro rfl (And.intro rfl (And.intro rfl (And.intro rfl (And.intro rfl (And.intro rfl trivial))))))
        · have c9 : ¬ (r8).toInt = 0 := c9
          conv => whnf
          refine ⟨_, _, rfl, ks, rfl, j_vp (by rw [j_dbl1 (by omega) (by omega)]; omega) (by rw [j_dbl1 (by omega) (by omega)]; omega), fun x11 ex11 => ?_⟩
          conv => whnf
          refine ⟨⟨Nat.le_of_ble_eq_true rfl, Nat.le_of_ble_eq_true rfl, Nat.le_of_ble_eq_true rfl, Nat.le_of_ble_eq_true rfl⟩, ?_⟩
          have t12 : (v2 + Int32.ofInt 1).toInt = v2.toInt + 1 := j_inc1 (by omega)
          exact j_use hF (ihB4 _ _ (by omega) (by omega)) (And.intro rfl (And.intro rfl (And.intro rfl (And.intro rfl (And.intro rfl (And.intro rfl trivial))))))
  have q13 : (Int32.ofInt (0)).toInt = 0 := by decide
  exact j_use hF (L8_3 4294967296 _ _ (by omega) (by omega)) (And.intro rfl (And.intro rfl (And.intro rfl (And.intro rfl (And.intro rfl (And.intro rfl trivial))))))
set_option maxHeartbeats 4000000 in
set_option maxRecDepth 20000 in
theorem c_Mo_quarrels {ρ : Nat → Nat} {h : j_H} {m P G R Q : Nat} {s : Nat} {a : Int32} {b : Int32} (w : j_MX ρ h m P G R Q) (ks : j_kd h s = some (.inr 0)) (ns : (j_ln h s : Int) = 2 * (j_it h R 2).toInt) : j_Ct 209 5 113 0 0 [j_r (some m), j_r (some s), j_i a, j_i b] h (fun v h' => h' = h ∧ ∃ r, v = some (j_i r) ∧ (r = 0 ∨ r = 1)) j_no := by
  refine j_intro km_209 (Nat.le_of_ble_eq_true rfl) ?_
  intro J hJ hF
  have wb := w.b
  refine hJ [] 400 _ _ _ _ _ _ ?_
  conv => whnf
  refine ⟨w.km, rfl, _, _, _, _, _, _, c_Mo_earlyOf w ks (by omega), ⟨Nat.le_of_ble_eq_true rfl, Nat.le_of_ble_eq_true rfl, Nat.le_of_ble_eq_true rfl, Nat.le_of_ble_eq_true rfl⟩, fun _ _ z => False.elim z, ?_⟩
  rintro v9 h9 ⟨e9, r1, rfl⟩
  obtain rfl : h = h9 := e9.symm
  conv => whnf
  refine ⟨w.km, rfl, _, _, _, _, _, _, c_Mo_lateOf w ks (by omega), ⟨Nat.le_of_ble_eq_true rfl, Nat.le_of_ble_eq_true rfl, Nat.le_of_ble_eq_true rfl, Nat.le_of_ble_eq_true rfl⟩, fun _ _ z => False.elim z, ?_⟩
  rintro v9 h9 ⟨e9, r2, rfl⟩
  obtain rfl : h = h9 := e9.symm
  have u3 := j_ub r2
  have u4 := j_ub r1
  conv => whnf
  refine ⟨fun c5 => ?_, fun c5 => ?_⟩
  · have c5 : (r1).toInt ≤ (r2).toInt := c5
    conv => whnf
    exact ⟨Or.inl rfl, ⟨Nat.le_of_ble_eq_true rfl, Nat.le_of_ble_eq_true rfl⟩, rfl, _, rfl, Or.inl rfl⟩
  · have c5 : ¬ (r1).toInt ≤ (r2).toInt := c5
    conv => whnf
    exact ⟨Or.inr rfl, ⟨Nat.le_of_ble_eq_true rfl, Nat.le_of_ble_eq_true rfl⟩, rfl, _, rfl, Or.inr rfl⟩
set_option maxHeartbeats 4000000 in
set_option maxRecDepth 20000 in
theorem c_Mo_narrowedNow {ρ : Nat → Nat} {h : j_H} {m P G R Q : Nat} {s : Nat} {a : Int32} {b : Int32} (w : j_MX ρ h m P G R Q) (ks : j_kd h s = some (.inr 0)) (ns : (j_ln h s : Int) = 2 * (j_it h R 2).toInt) (ha : 0 ≤ a.toInt ∧ a.toInt < (j_it h G 2).toInt) : j_Ct 198 5 113 0 0 [j_r (some m), j_r (some s), j_i a, j_i b] h (fun v h' => h' = h ∧ ∃ r, v = some (j_i r)) j_no := by
  refine j_intro km_198 (Nat.le_of_ble_eq_true rfl) ?_
  intro J hJ hF
  have wb := w.b
  refine hJ [26] 400 _ _ _ _ _ _ ?_
  conv => whnf
  refine ⟨fun c1 => ?_, fun c1 => ?_⟩
  · have c1 : (b).toInt = 0 := c1
    have q2 : (Int32.ofInt (-1)).toInt = -1 := by decide
    conv => whnf
    refine ⟨w.km, rfl, _, _, _, _, _, _, c_Mo_earlyOf w ks (by omega), ⟨Nat.le_of_ble_eq_true rfl, Nat.le_of_ble_eq_true rfl, Nat.le_of_ble_eq_true rfl, Nat.le_of_ble_eq_true rfl⟩, fun _ _ z => False.elim z, ?_⟩
    rintro v9 h9 ⟨e9, r3, rfl⟩
    obtain rfl : h = h9 := e9.symm
    have L26_6 : ∀ (k : Nat) (v4 : Int32) (v5 : Int32), 0 ≤ v5.toInt → (2147483647 - v5.toInt) < (k : Int) → J 26 [some (j_r (some m)), some (j_r (some s)), some (j_i a), some (j_i b), some (j_i v4), some (j_i v5), none] [] h 0 0 := by
      intro k
      induction k with
      | zero => intro v4 v5 hn hm; exact absurd hm (by have := j_ub v5; omega)
      | succ k ihB7 =>
        intro v4 v5 hn hm
        have uv4 := j_ub v4; have lv4 := j_lb v4
        have uv5 := j_ub v5; have lv5 := j_lb v5
        refine hJ [26] 400 _ _ _ _ _ _ ?_
        conv => whnf
        refine ⟨_, rfl, w.km, fun o8 eo => ?_⟩
        obtain rfl : o8 = some G := eo.symm.trans w.eG
        conv => whnf
        refine ⟨w.lG.1, rfl, _, _, _, _, _, _, c_AL_size (h := h) w.lG j_Sc.rf j_sf_ok, ⟨Nat.le_of_ble_eq_true rfl, Nat.le_of_ble_eq_true rfl, Nat.le_of_ble_eq_true rfl, Nat.le_of_ble_eq_true rfl⟩, fun _ _ z => False.elim z, ?_⟩
        rintro v9 h9 ⟨e9, rfl⟩
        obtain rfl : h = h9 := e9.symm
        have u9 := j_ub v5
        conv => whnf
        refine ⟨fun c10 => ?_, fun c10 => ?_⟩
        · have c10 : ((j_it h G 2)).toInt ≤ (v5).toInt := c10
          conv => whnf
          exact ⟨trivial, ⟨Nat.le_of_ble_eq_true rfl, Nat.le_of_ble_eq_true rfl⟩, rfl, _, rfl⟩
        · have c10 : ¬ ((j_it h G 2)).toInt ≤ (v5).toInt := c10
          conv => whnf
          refine ⟨_, rfl, w.km, fun o11 eo => ?_⟩
          obtain rfl : o11 = some G := eo.symm.trans w.eG
          conv => whnf
          refine ⟨w.lG.1, rfl, _, _, _, _, _, _, c_AL_get (h := h) w.lG j_Sc.rf j_sf_ok (by omega) (by omega), ⟨Nat.le_of_ble_eq_true rfl, Nat.le_of_ble_eq_true rfl, Nat.le_of_ble_eq_true rfl, Nat.le_of_ble_eq_true rfl⟩, fun _ _ z => False.elim z, ?_⟩
          rintro v9 h9 ⟨e9, g12, rfl, kg12, xg12⟩
          obtain rfl : h = h9 := e9.symm
          have feg12 := w.aG.get (by omega) (by omega) xg12
          conv => whnf
          refine ⟨Or.inr ⟨_, rfl, kg12⟩, ?_⟩
          conv => whnf
          refine ⟨_, rfl, kg12, fun x13 ex13 => ?_⟩
          conv => whnf
          refine ⟨_, rfl, w.km, fun o14 eo => ?_⟩
          obtain rfl : o14 = some G := eo.symm.trans w.eG
          conv => whnf
          refine ⟨w.lG.1, rfl, _, _, _, _, _, _, c_AL_get (h := h) w.lG j_Sc.rf j_sf_ok (by omega) (by omega), ⟨Nat.le_of_ble_eq_true rfl, Nat.le_of_ble_eq_true rfl, Nat.le_of_ble_eq_true rfl, Nat.le_of_ble_eq_true rfl⟩, fun _ _ z => False.elim z, ?_⟩
          rintro v9 h9 ⟨e9, g15, rfl, kg15, xg15⟩
          obtain rfl : h = h9 := e9.symm
          have feg15 := w.aG.get (by omega) (by omega) xg15
          conv => whnf
          refine ⟨Or.inr ⟨_, rfl, kg15⟩, ?_⟩
          conv => whnf
          refine ⟨_, rfl, kg15, fun x16 ex16 => ?_⟩
          conv => whnf
          refine ⟨fun c17 => ?_, fun c17 => ?_⟩
          · have c17 : (b).toInt = 0 := c17
            conv => whnf
            refine ⟨fun c18 => ?_, fun c18 => ?_⟩
            · have c18 : ¬ (b).toInt = 0 := c18
              have t19 : (v5 + Int32.ofInt 1).toInt = v5.toInt + 1 := j_inc1 (by omega)
              exact j_use hF (ihB7 _ _ (by omega) (by omega)) (And.intro rfl (And.intro rfl (And.intro rfl (And.intro rfl (And.intro rfl (And.intro rfl trivial))))))
            · have c18 : ¬ ¬ (b).toInt = 0 := c18
              conv => whnf
              refine ⟨fun c20 => ?_, fun c20 => ?_⟩
              · have c20 : ((x13 - x16)).toInt ≤ 0 := c20
                have t21 : (v5 + Int32.ofInt 1).toInt = v5.toInt + 1 := j_inc1 (by omega)
                exact j_use hF (ihB7 _ _ (by omega) (by omega)) (And.intro rfl (And.intro rfl (And.intro rfl (And.intro rfl (And.intro rfl (And.intro rfl trivial))))))
              · have c20 : ¬ ((x13 - x16)).toInt ≤ 0 := c20
                have q22 : (Int32.ofInt (-1)).toInt = -1 := by decide
                conv => whnf
                refine ⟨w.km, rfl, _, _, _, _, _, _, c_Mo_earlyOf w ks (by omega), ⟨Nat.le_of_ble_eq_true rfl, Nat.le_of_ble_eq_true rfl, Nat.le_of_ble_eq_true rfl, Nat.le_of_ble_eq_true rfl⟩, fun _ _ z => False.elim z, ?_⟩
                rintro v9 h9 ⟨e9, r23, rfl⟩
                obtain rfl : h = h9 := e9.symm
                conv => whnf
                refine ⟨⟨Nat.le_of_ble_eq_true rfl, Nat.le_of_ble_eq_true rfl, Nat.le_of_ble_eq_true rfl, Nat.le_of_ble_eq_true rfl⟩, ?_⟩
                have t24 : (v5 + Int32.ofInt 1).toInt = v5.toInt + 1 := j_inc1 (by omega)
                exact j_use hF (ihB7 _ _ (by omega) (by omega)) (And.intro rfl (And.intro rfl (And.intro rfl (And.intro rfl (And.intro rfl (And.intro rfl trivial))))))
          · have c17 : ¬ (b).toInt = 0 := c17
            conv => whnf
            refine ⟨fun c25 => ?_, fun c25 => ?_⟩
            · have c25 : 0 ≤ ((x13 - x16)).toInt := c25
              conv => whnf
              refine ⟨fun c26 => ?_, fun c26 => ?_⟩
              · have c26 : ¬ (b).toInt = 0 := c26
                have t27 : (v5 + Int32.ofInt 1).toInt = v5.toInt + 1 := j_inc1 (by omega)
                exact j_use hF (ihB7 _ _ (by omega) (by omega)) (And.intro rfl (And.intro rfl (And.intro rfl (And.intro rfl (And.intro rfl (And.intro rfl trivial))))))
              · have c26 : ¬ ¬ (b).toInt = 0 := c26
                conv => whnf
                refine ⟨fun c28 => ?_, fun c28 => ?_⟩
                · have c28 : ((x13 - x16)).toInt ≤ 0 := c28
                  have t29 : (v5 + Int32.ofInt 1).toInt = v5.toInt + 1 := j_inc1 (by omega)
                  exact j_use hF (ihB7 _ _ (by omega) (by omega)) (And.intro rfl (And.intro rfl (And.intro rfl (And.intro rfl (And.intro rfl (And.intro rfl trivial))))))
                · have c28 : ¬ ((x13 - x16)).toInt ≤ 0 := c28
                  have q30 : (Int32.ofInt (-1)).toInt = -1 := by decide
                  conv => whnf
                  refine ⟨w.km, rfl, _, _, _, _, _, _, c_Mo_earlyOf w ks (by omega), ⟨Nat.le_of_ble_eq_true rfl, Nat.le_of_ble_eq_true rfl, Nat.le_of_ble_eq_true rfl, Nat.le_of_ble_eq_true rfl⟩, fun _ _ z => False.elim z, ?_⟩
                  rintro v9 h9 ⟨e9, r31, rfl⟩
                  obtain rfl : h = h9 := e9.symm
                  conv => whnf
                  refine ⟨⟨Nat.le_of_ble_eq_true rfl, Nat.le_of_ble_eq_true rfl, Nat.le_of_ble_eq_true rfl, Nat.le_of_ble_eq_true rfl⟩, ?_⟩
                  have t32 : (v5 + Int32.ofInt 1).toInt = v5.toInt + 1 := j_inc1 (by omega)
                  exact j_use hF (ihB7 _ _ (by omega) (by omega)) (And.intro rfl (And.intro rfl (And.intro rfl (And.intro rfl (And.intro rfl (And.intro rfl trivial))))))
            · have c25 : ¬ 0 ≤ ((x13 - x16)).toInt := c25
              have q33 : (Int32.ofInt (-1)).toInt = -1 := by decide
              conv => whnf
              refine ⟨w.km, rfl, _, _, _, _, _, _, c_Mo_lateOf w ks (by omega), ⟨Nat.le_of_ble_eq_true rfl, Nat.le_of_ble_eq_true rfl, Nat.le_of_ble_eq_true rfl, Nat.le_of_ble_eq_true rfl⟩, fun _ _ z => False.elim z, ?_⟩
              rintro v9 h9 ⟨e9, r34, rfl⟩
              obtain rfl : h = h9 := e9.symm
              conv => whnf
              refine ⟨⟨Nat.le_of_ble_eq_true rfl, Nat.le_of_ble_eq_true rfl, Nat.le_of_ble_eq_true rfl, Nat.le_of_ble_eq_true rfl⟩, ?_⟩
              conv => whnf
              refine ⟨fun c35 => ?_, fun c35 => ?_⟩
              · have c35 : ¬ (b).toInt = 0 := c35
                have t36 : (v5 + Int32.ofInt 1).toInt = v5.toInt + 1 := j_inc1 (by omega)
                exact j_use hF (ihB7 _ _ (by omega) (by omega)) (And.intro rfl (And.intro rfl (And.intro rfl (And.intro rfl (And.intro rfl (And.intro rfl trivial))))))
              · have c35 : ¬ ¬ (b).toInt = 0 := c35
                conv => whnf
                refine ⟨fun c37 => ?_, fun c37 => ?_⟩
                · have c37 : ((x13 - x16)).toInt ≤ 0 := c37
                  have t38 : (v5 + Int32.ofInt 1).toInt = v5.toInt + 1 := j_inc1 (by omega)
                  exact j_use hF (ihB7 _ _ (by omega) (by omega)) (And.intro rfl (And.intro rfl (And.intro rfl (And.intro rfl (And.intro rfl (And.intro rfl trivial))))))
                · have c37 : ¬ ((x13 - x16)).toInt ≤ 0 := c37
                  have q39 : (Int32.ofInt (-1)).toInt = -1 := by decide
                  conv => whnf
                  refine ⟨w.km, rfl, _, _, _, _, _, _, c_Mo_earlyOf w ks (by omega), ⟨Nat.le_of_ble_eq_true rfl, Nat.le_of_ble_eq_true rfl, Nat.le_of_ble_eq_true rfl, Nat.le_of_ble_eq_true rfl⟩, fun _ _ z => False.elim z, ?_⟩
                  rintro v9 h9 ⟨e9, r40, rfl⟩
                  obtain rfl : h = h9 := e9.symm
                  conv => whnf
                  refine ⟨⟨Nat.le_of_ble_eq_true rfl, Nat.le_of_ble_eq_true rfl, Nat.le_of_ble_eq_true rfl, Nat.le_of_ble_eq_true rfl⟩, ?_⟩
                  have t41 : (v5 + Int32.ofInt 1).toInt = v5.toInt + 1 := j_inc1 (by omega)
                  exact j_use hF (ihB7 _ _ (by omega) (by omega)) (And.intro rfl (And.intro rfl (And.intro rfl (And.intro rfl (And.intro rfl (And.intro rfl trivial))))))
    have q42 : (Int32.ofInt (0)).toInt = 0 := by decide
    exact j_use hF (L26_6 4294967296 _ _ (by omega) (by omega)) (And.intro rfl (And.intro rfl (And.intro rfl (And.intro rfl (And.intro rfl (And.intro rfl trivial))))))
  · have c1 : ¬ (b).toInt = 0 := c1
    have q43 : (Int32.ofInt (-1)).toInt = -1 := by decide
    conv => whnf
    refine ⟨w.km, rfl, _, _, _, _, _, _, c_Mo_lateOf w ks (by omega), ⟨Nat.le_of_ble_eq_true rfl, Nat.le_of_ble_eq_true rfl, Nat.le_of_ble_eq_true rfl, Nat.le_of_ble_eq_true rfl⟩, fun _ _ z => False.elim z, ?_⟩
    rintro v9 h9 ⟨e9, r44, rfl⟩
    obtain rfl : h = h9 := e9.symm
    have L26_47 : ∀ (k : Nat) (v45 : Int32) (v46 : Int32), 0 ≤ v46.toInt → (2147483647 - v46.toInt) < (k : Int) → J 26 [some (j_r (some m)), some (j_r (some s)), some (j_i a), some (j_i b), some (j_i v45), some (j_i v46), none] [] h 0 0 := by
      intro k
      induction k with
      | zero => intro v45 v46 hn hm; exact absurd hm (by have := j_ub v46; omega)
      | succ k ihB48 =>
        intro v45 v46 hn hm
        have uv45 := j_ub v45; have lv45 := j_lb v45
        have uv46 := j_ub v46; have lv46 := j_lb v46
        refine hJ [26] 400 _ _ _ _ _ _ ?_
        conv => whnf
        refine ⟨_, rfl, w.km, fun o49 eo => ?_⟩
        obtain rfl : o49 = some G := eo.symm.trans w.eG
        conv => whnf
        refine ⟨w.lG.1, rfl, _, _, _, _, _, _, c_AL_size (h := h) w.lG j_Sc.rf j_sf_ok, ⟨Nat.le_of_ble_eq_true rfl, Nat.le_of_ble_eq_true rfl, Nat.le_of_ble_eq_true rfl, Nat.le_of_ble_eq_true rfl⟩, fun _ _ z => False.elim z, ?_⟩
        rintro v9 h9 ⟨e9, rfl⟩
        obtain rfl : h = h9 := e9.symm
        have u50 := j_ub v46
        conv => whnf
        refine ⟨fun c51 => ?_, fun c51 => ?_⟩
        · have c51 : ((j_it h G 2)).toInt ≤ (v46).toInt := c51
          conv => whnf
          exact ⟨trivial, ⟨Nat.le_of_ble_eq_true rfl, Nat.le_of_ble_eq_true rfl⟩, rfl, _, rfl⟩
        · have c51 : ¬ ((j_it h G 2)).toInt ≤ (v46).toInt := c51
          conv => whnf
          refine ⟨_, rfl, w.km, fun o52 eo => ?_⟩
          obtain rfl : o52 = some G := eo.symm.trans w.eG
          conv => whnf
          refine ⟨w.lG.1, rfl, _, _, _, _, _, _, c_AL_get (h := h) w.lG j_Sc.rf j_sf_ok (by omega) (by omega), ⟨Nat.le_of_ble_eq_true rfl, Nat.le_of_ble_eq_true rfl, Nat.le_of_ble_eq_true rfl, Nat.le_of_ble_eq_true rfl⟩, fun _ _ z => False.elim z, ?_⟩
          rintro v9 h9 ⟨e9, g53, rfl, kg53, xg53⟩
          obtain rfl : h = h9 := e9.symm
          have feg53 := w.aG.get (by omega) (by omega) xg53
          conv => whnf
          refine ⟨Or.inr ⟨_, rfl, kg53⟩, ?_⟩
          conv => whnf
          refine ⟨_, rfl, kg53, fun x54 ex54 => ?_⟩
          conv => whnf
          refine ⟨_, rfl, w.km, fun o55 eo => ?_⟩
          obtain rfl : o55 = some G := eo.symm.trans w.eG
          conv => whnf
          refine ⟨w.lG.1, rfl, _, _, _, _, _, _, c_AL_get (h := h) w.lG j_Sc.rf j_sf_ok (by omega) (by omega), ⟨Nat.le_of_ble_eq_true rfl, Nat.le_of_ble_eq_true rfl, Nat.le_of_ble_eq_true rfl, Nat.le_of_ble_eq_true rfl⟩, fun _ _ z => False.elim z, ?_⟩
          rintro v9 h9 ⟨e9, g56, rfl, kg56, xg56⟩
          obtain rfl : h = h9 := e9.symm
          have feg56 := w.aG.get (by omega) (by omega) xg56
          conv => whnf
          refine ⟨Or.inr ⟨_, rfl, kg56⟩, ?_⟩
          conv => whnf
          refine ⟨_, rfl, kg56, fun x57 ex57 => ?_⟩
          conv => whnf
          refine ⟨fun c58 => ?_, fun c58 => ?_⟩
          · have c58 : (b).toInt = 0 := c58
            conv => whnf
            refine ⟨fun c59 => ?_, fun c59 => ?_⟩
            · have c59 : ¬ (b).toInt = 0 := c59
              have t60 : (v46 + Int32.ofInt 1).toInt = v46.toInt + 1 := j_inc1 (by omega)
              exact j_use hF (ihB48 _ _ (by omega) (by omega)) (And.intro rfl (And.intro rfl (And.intro rfl (And.intro rfl (And.intro rfl (And.intro rfl trivial))))))
            · have c59 : ¬ ¬ (b).toInt = 0 := c59
              conv => whnf
              refine ⟨fun c61 => ?_, fun c61 => ?_⟩
              · have c61 : ((x54 - x57)).toInt ≤ 0 := c61
                have t62 : (v46 + Int32.ofInt 1).toInt = v46.toInt + 1 := j_inc1 (by omega)
                exact j_use hF (ihB48 _ _ (by omega) (by omega)) (And.intro rfl (And.intro rfl (And.intro rfl (And.intro rfl (And.intro rfl (And.intro rfl trivial))))))
              · have c61 : ¬ ((x54 - x57)).toInt ≤ 0 := c61
                have q63 : (Int32.ofInt (-1)).toInt = -1 := by decide
                conv => whnf
                refine ⟨w.km, rfl, _, _, _, _, _, _, c_Mo_earlyOf w ks (by omega), ⟨Nat.le_of_ble_eq_true rfl, Nat.le_of_ble_eq_true rfl, Nat.le_of_ble_eq_true rfl, Nat.le_of_ble_eq_true rfl⟩, fun _ _ z => False.elim z, ?_⟩
                rintro v9 h9 ⟨e9, r64, rfl⟩
                obtain rfl : h = h9 := e9.symm
                conv => whnf
                refine ⟨⟨Nat.le_of_ble_eq_true rfl, Nat.le_of_ble_eq_true rfl, Nat.le_of_ble_eq_true rfl, Nat.le_of_ble_eq_true rfl⟩, ?_⟩
                have t65 : (v46 + Int32.ofInt 1).toInt = v46.toInt + 1 := j_inc1 (by omega)
                exact j_use hF (ihB48 _ _ (by omega) (by omega)) (And.intro rfl (And.intro rfl (And.intro rfl (And.intro rfl (And.intro rfl (And.intro rfl trivial))))))
          · have c58 : ¬ (b).toInt = 0 := c58
            conv => whnf
            refine ⟨fun c66 => ?_, fun c66 => ?_⟩
            · have c66 : 0 ≤ ((x54 - x57)).toInt := c66
              conv => whnf
              refine ⟨fun c67 => ?_, fun c67 => ?_⟩
              · have c67 : ¬ (b).toInt = 0 := c67
                have t68 : (v46 + Int32.ofInt 1).toInt = v46.toInt + 1 := j_inc1 (by omega)
                exact j_use hF (ihB48 _ _ (by omega) (by omega)) (And.intro rfl (And.intro rfl (And.intro rfl (And.intro rfl (And.intro rfl (And.intro rfl trivial))))))
              · have c67 : ¬ ¬ (b).toInt = 0 := c67
                conv => whnf
                refine ⟨fun c69 => ?_, fun c69 => ?_⟩
                · have c69 : ((x54 - x57)).toInt ≤ 0 := c69
                  have t70 : (v46 + Int32.ofInt 1).toInt = v46.toInt + 1 := j_inc1 (by omega)
                  exact j_use hF (ihB48 _ _ (by omega) (by omega)) (And.intro rfl (And.intro rfl (And.intro rfl (And.intro rfl (And.intro rfl (And.intro rfl trivial))))))
                · have c69 : ¬ ((x54 - x57)).toInt ≤ 0 := c69
                  have q71 : (Int32.ofInt (-1)).toInt = -1 := by decide
                  conv => whnf
                  refine ⟨w.km, rfl, _, _, _, _, _, _, c_Mo_earlyOf w ks (by omega), ⟨Nat.le_of_ble_eq_true rfl, Nat.le_of_ble_eq_true rfl, Nat.le_of_ble_eq_true rfl, Nat.le_of_ble_eq_true rfl⟩, fun _ _ z => False.elim z, ?_⟩
                  rintro v9 h9 ⟨e9, r72, rfl⟩
                  obtain rfl : h = h9 := e9.symm
                  conv => whnf
                  refine ⟨⟨Nat.le_of_ble_eq_true rfl, Nat.le_of_ble_eq_true rfl, Nat.le_of_ble_eq_true rfl, Nat.le_of_ble_eq_true rfl⟩, ?_⟩
                  have t73 : (v46 + Int32.ofInt 1).toInt = v46.toInt + 1 := j_inc1 (by omega)
                  exact j_use hF (ihB48 _ _ (by omega) (by omega)) (And.intro rfl (And.intro rfl (And.intro rfl (And.intro rfl (And.intro rfl (And.intro rfl trivial))))))
            · have c66 : ¬ 0 ≤ ((x54 - x57)).toInt := c66
              have q74 : (Int32.ofInt (-1)).toInt = -1 := by decide
              conv => whnf
              refine ⟨w.km, rfl, _, _, _, _, _, _, c_Mo_lateOf w ks (by omega), ⟨Nat.le_of_ble_eq_true rfl, Nat.le_of_ble_eq_true rfl, Nat.le_of_ble_eq_true rfl, Nat.le_of_ble_eq_true rfl⟩, fun _ _ z => False.elim z, ?_⟩
              rintro v9 h9 ⟨e9, r75, rfl⟩
              obtain rfl : h = h9 := e9.symm
              conv => whnf
              refine ⟨⟨Nat.le_of_ble_eq_true rfl, Nat.le_of_ble_eq_true rfl, Nat.le_of_ble_eq_true rfl, Nat.le_of_ble_eq_true rfl⟩, ?_⟩
              conv => whnf
              refine ⟨fun c76 => ?_, fun c76 => ?_⟩
              · have c76 : ¬ (b).toInt = 0 := c76
                have t77 : (v46 + Int32.ofInt 1).toInt = v46.toInt + 1 := j_inc1 (by omega)
                exact j_use hF (ihB48 _ _ (by omega) (by omega)) (And.intro rfl (And.intro rfl (And.intro rfl (And.intro rfl (And.intro rfl (And.intro rfl trivial))))))
              · have c76 : ¬ ¬ (b).toInt = 0 := c76
                conv => whnf
                refine ⟨fun c78 => ?_, fun c78 => ?_⟩
                · have c78 : ((x54 - x57)).toInt ≤ 0 := c78
                  have t79 : (v46 + Int32.ofInt 1).toInt = v46.toInt + 1 := j_inc1 (by omega)
                  exact j_use hF (ihB48 _ _ (by omega) (by omega)) (And.intro rfl (And.intro rfl (And.intro rfl (And.intro rfl (And.intro rfl (And.intro rfl trivial))))))
                · have c78 : ¬ ((x54 - x57)).toInt ≤ 0 := c78
                  have q80 : (Int32.ofInt (-1)).toInt = -1 := by decide
                  conv => whnf
                  refine ⟨w.km, rfl, _, _, _, _, _, _, c_Mo_earlyOf w ks (by omega), ⟨Nat.le_of_ble_eq_true rfl, Nat.le_of_ble_eq_true rfl, Nat.le_of_ble_eq_true rfl, Nat.le_of_ble_eq_true rfl⟩, fun _ _ z => False.elim z, ?_⟩
                  rintro v9 h9 ⟨e9, r81, rfl⟩
                  obtain rfl : h = h9 := e9.symm
                  conv => whnf
                  refine ⟨⟨Nat.le_of_ble_eq_true rfl, Nat.le_of_ble_eq_true rfl, Nat.le_of_ble_eq_true rfl, Nat.le_of_ble_eq_true rfl⟩, ?_⟩
                  have t82 : (v46 + Int32.ofInt 1).toInt = v46.toInt + 1 := j_inc1 (by omega)
                  exact j_use hF (ihB48 _ _ (by omega) (by omega)) (And.intro rfl (And.intro rfl (And.intro rfl (And.intro rfl (And.intro rfl (And.intro rfl trivial))))))
    have q83 : (Int32.ofInt (0)).toInt = 0 := by decide
    exact j_use hF (L26_47 4294967296 _ _ (by omega) (by omega)) (And.intro rfl (And.intro rfl (And.intro rfl (And.intro rfl (And.intro rfl (And.intro rfl trivial))))))
set_option maxHeartbeats 4000000 in
set_option maxRecDepth 20000 in
theorem c_Mo_agree {ρ : Nat → Nat} {h : j_H} {m P G R Q : Nat} {y : Nat} {z : Nat} {a : Int32} (w : j_MX ρ h m P G R Q) (ky : j_kd h y = some (.inr 0)) (ny : (j_ln h y : Int) = (j_it h G 2).toInt) (kz : j_kd h z = some (.inr 0)) (nz : (j_ln h z : Int) = (j_it h G 2).toInt) : j_Ct 168 3 64 0 0 [j_r (some m), j_r (some y), j_r (some z), j_i a] h (fun v h' => h' = h ∧ ∃ r, v = some (j_i r) ∧ (r = 0 ∨ r = 1)) j_no := by
  refine j_intro km_168 (Nat.le_of_ble_eq_true rfl) ?_
  intro J hJ hF
  have wb := w.b
  refine hJ [3, 26] 400 _ _ _ _ _ _ ?_
  have L3_2 : ∀ (k : Nat) (v1 : Int32), 0 ≤ v1.toInt → (2147483647 - v1.toInt) < (k : Int) → J 3 [some (j_r (some m)), some (j_r (some y)), some (j_r (some z)), some (j_i a), some (j_i v1), none, none] [] h 0 0 := by
    intro k
    induction k with
    | zero => intro v1 hn hm; exact absurd hm (by have := j_ub v1; omega)
    | succ k ihB3 =>
      intro v1 hn hm
      have uv1 := j_ub v1; have lv1 := j_lb v1
      refine hJ [3, 26] 400 _ _ _ _ _ _ ?_
      conv => whnf
      refine ⟨_, _, rfl, ky, ?_⟩
      have nl4 : (nI (j_ln h y)).toInt = (j_ln h y : Int) := nI_toInt (by omega)
      have u5 := j_ub v1
      conv => whnf
      refine ⟨fun c6 => ?_, fun c6 => ?_⟩
      · have c6 : (nI (j_ln h y)).toInt ≤ (v1).toInt := c6
        conv => whnf
        exact ⟨Or.inr rfl, ⟨Nat.le_of_ble_eq_true rfl, Nat.le_of_ble_eq_true rfl⟩, rfl, _, rfl, Or.inr rfl⟩
      · have c6 : ¬ (nI (j_ln h y)).toInt ≤ (v1).toInt := c6
        have q7 : (Int32.ofInt (1)).toInt = 1 := by decide
        conv => whnf
        refine ⟨fun c8 => ?_, fun c8 => ?_⟩
        · have c8 : ¬ (((a >>> (v1 &&& 31)) &&& Int32.ofInt (1))).toInt = (Int32.ofInt (1)).toInt := c8
          have L26_10 : ∀ (k : Nat) (v9 : Int32), 0 ≤ v9.toInt → (2147483647 - v9.toInt) < (k : Int) → J 26 [some (j_r (some m)), some (j_r (some y)), some (j_r (some z)), some (j_i a), some (j_i v1), some (j_i v9), none] [] h 0 0 := by
            intro k
            induction k with
            | zero => intro v9 hn hm; exact absurd hm (by have := j_ub v9; omega)
            | succ k ihB11 =>
              intro v9 hn hm
              have uv9 := j_ub v9; have lv9 := j_lb v9
              refine hJ [3, 26] 400 _ _ _ _ _ _ ?_
              conv => whnf
              refine ⟨_, _, rfl, ky, ?_⟩
              have nl12 : (nI (j_ln h y)).toInt = (j_ln h y : Int) := nI_toInt (by omega)
              have u13 := j_ub v9
              conv => whnf
              refine ⟨fun c14 => ?_, fun c14 => ?_⟩
              · have c14 : (nI (j_ln h y)).toInt ≤ (v9).toInt := c14
                have t15 : (v1 + Int32.ofInt 1).toInt = v1.toInt + 1 := j_inc1 (by omega)
                exact j_use hF (ihB3 _ (by omega) (by omega)) (And.intro rfl (And.intro rfl (And.intro rfl (And.intro rfl (And.intro rfl trivial)))))
              · have c14 : ¬ (nI (j_ln h y)).toInt ≤ (v9).toInt := c14
                have u16 := j_ub v9
                have u17 := j_ub v1
                conv => whnf
                refine ⟨fun c18 => ?_, fun c18 => ?_⟩
                · have c18 : (v1).toInt = (v9).toInt := c18
                  conv => whnf
                  refine ⟨fun c19 => ?_, fun c19 => ?_⟩
                  · have c19 : ¬ (((a >>> (v9 &&& 31)) &&& Int32.ofInt (1))).toInt = 0 := c19
                    have t20 : (v9 + Int32.ofInt 1).toInt = v9.toInt + 1 := j_inc1 (by omega)
                    exact j_use hF (ihB11 _ (by omega) (by omega)) (And.intro rfl (And.intro rfl (And.intro rfl (And.intro rfl (And.intro rfl (And.intro rfl trivial))))))
                  · have c19 : ¬ ¬ (((a >>> (v9 &&& 31)) &&& Int32.ofInt (1))).toInt = 0 := c19
                    conv => whnf
                    refine ⟨fun c => absurd (show (Int32.ofInt (1)).toInt = 0 from c) (by decide), fun _ => ?_⟩
                    conv => whnf
                    refine ⟨_, _, rfl, ky, rfl, j_vp (by omega) (by omega), fun x21 ex21 => ?_⟩
                    conv => whnf
                    refine ⟨_, _, rfl, kz, rfl, j_vp (by omega) (by omega), fun x22 ex22 => ?_⟩
                    have u23 := j_ub x22
                    have u24 := j_ub x21
                    conv => whnf
                    refine ⟨fun c25 => ?_, fun c25 => ?_⟩
                    · have c25 : (x21).toInt ≤ (x22).toInt := c25
                      have t26 : (v9 + Int32.ofInt 1).toInt = v9.toInt + 1 := j_inc1 (by omega)
                      exact j_use hF (ihB11 _ (by omega) (by omega)) (And.intro rfl (And.intro rfl (And.intro rfl (And.intro rfl (And.intro rfl (And.intro rfl trivial))))))
                    · have c25 : ¬ (x21).toInt ≤ (x22).toInt := c25
                      conv => whnf
                      exact ⟨Or.inl rfl, ⟨Nat.le_of_ble_eq_true rfl, Nat.le_of_ble_eq_true rfl⟩, rfl, _, rfl, Or.inl rfl⟩
                · have c18 : ¬ (v1).toInt = (v9).toInt := c18
                  conv => whnf
                  refine ⟨_, rfl, w.km, fun o27 eo => ?_⟩
                  obtain rfl : o27 = some G := eo.symm.trans w.eG
                  conv => whnf
                  refine ⟨w.lG.1, rfl, _, _, _, _, _, _, c_AL_get (h := h) w.lG j_Sc.rf j_sf_ok (by omega) (by omega), ⟨Nat.le_of_ble_eq_true rfl, Nat.le_of_ble_eq_true rfl, Nat.le_of_ble_eq_true rfl, Nat.le_of_ble_eq_true rfl⟩, fun _ _ z => False.elim z, ?_⟩
                  rintro v9 h9 ⟨e9, g28, rfl, kg28, xg28⟩
                  obtain rfl : h = h9 := e9.symm
                  have feg28 := w.aG.get (by omega) (by omega) xg28
                  conv => whnf
                  refine ⟨Or.inr ⟨_, rfl, kg28⟩, ?_⟩
                  conv => whnf
                  refine ⟨_, rfl, kg28, fun x29 ex29 => ?_⟩
                  conv => whnf
                  refine ⟨_, rfl, w.km, fun o30 eo => ?_⟩
                  obtain rfl : o30 = some G := eo.symm.trans w.eG
                  conv => whnf
                  refine ⟨w.lG.1, rfl, _, _, _, _, _, _, c_AL_get (h := h) w.lG j_Sc.rf j_sf_ok (by omega) (by omega), ⟨Nat.le_of_ble_eq_true rfl, Nat.le_of_ble_eq_true rfl, Nat.le_of_ble_eq_true rfl, Nat.le_of_ble_eq_true rfl⟩, fun _ _ z => False.elim z, ?_⟩
                  rintro v9 h9 ⟨e9, g31, rfl, kg31, xg31⟩
                  obtain rfl : h = h9 := e9.symm
                  have feg31 := w.aG.get (by omega) (by omega) xg31
                  conv => whnf
                  refine ⟨Or.inr ⟨_, rfl, kg31⟩, ?_⟩
                  conv => whnf
                  refine ⟨_, rfl, kg31, fun x32 ex32 => ?_⟩
                  have u33 := j_ub x32
                  have u34 := j_ub x29
                  conv => whnf
                  refine ⟨fun c35 => ?_, fun c35 => ?_⟩
                  · have c35 : (x29).toInt ≤ (x32).toInt := c35
                    conv => whnf
                    refine ⟨fun c36 => ?_, fun c36 => ?_⟩
                    · have c36 : ¬ (((a >>> (v9 &&& 31)) &&& Int32.ofInt (1))).toInt = 0 := c36
                      have t37 : (v9 + Int32.ofInt 1).toInt = v9.toInt + 1 := j_inc1 (by omega)
                      exact j_use hF (ihB11 _ (by omega) (by omega)) (And.intro rfl (And.intro rfl (And.intro rfl (And.intro rfl (And.intro rfl (And.intro rfl trivial))))))
                    · have c36 : ¬ ¬ (((a >>> (v9 &&& 31)) &&& Int32.ofInt (1))).toInt = 0 := c36
                      conv => whnf
                      refine ⟨fun _ => ?_, fun c => absurd (show (Int32.ofInt (0)).toInt = 0 by decide) (show ¬ (Int32.ofInt (0)).toInt = 0 from c)⟩
                      have t38 : (v9 + Int32.ofInt 1).toInt = v9.toInt + 1 := j_inc1 (by omega)
                      exact j_use hF (ihB11 _ (by omega) (by omega)) (And.intro rfl (And.intro rfl (And.intro rfl (And.intro rfl (And.intro rfl (And.intro rfl trivial))))))
                  · have c35 : ¬ (x29).toInt ≤ (x32).toInt := c35
                    conv => whnf
                    refine ⟨fun c39 => ?_, fun c39 => ?_⟩
                    · have c39 : ¬ (((a >>> (v9 &&& 31)) &&& Int32.ofInt (1))).toInt = 0 := c39
                      have t40 : (v9 + Int32.ofInt 1).toInt = v9.toInt + 1 := j_inc1 (by omega)
                      exact j_use hF (ihB11 _ (by omega) (by omega)) (And.intro rfl (And.intro rfl (And.intro rfl (And.intro rfl (And.intro rfl (And.intro rfl trivial))))))
                    · have c39 : ¬ ¬ (((a >>> (v9 &&& 31)) &&& Int32.ofInt (1))).toInt = 0 := c39
                      conv => whnf
                      refine ⟨fun c => absurd (show (Int32.ofInt (1)).toInt = 0 from c) (by decide), fun _ => ?_⟩
                      conv => whnf
                      refine ⟨_, _, rfl, ky, rfl, j_vp (by omega) (by omega), fun x41 ex41 => ?_⟩
                      conv => whnf
                      refine ⟨_, _, rfl, kz, rfl, j_vp (by omega) (by omega), fun x42 ex42 => ?_⟩
                      have u43 := j_ub x42
                      have u44 := j_ub x41
                      conv => whnf
                      refine ⟨fun c45 => ?_, fun c45 => ?_⟩
                      · have c45 : (x41).toInt ≤ (x42).toInt := c45
                        have t46 : (v9 + Int32.ofInt 1).toInt = v9.toInt + 1 := j_inc1 (by omega)
                        exact j_use hF (ihB11 _ (by omega) (by omega)) (And.intro rfl (And.intro rfl (And.intro rfl (And.intro rfl (And.intro rfl (And.intro rfl trivial))))))
                      · have c45 : ¬ (x41).toInt ≤ (x42).toInt := c45
                        conv => whnf
                        exact ⟨Or.inl rfl, ⟨Nat.le_of_ble_eq_true rfl, Nat.le_of_ble_eq_true rfl⟩, rfl, _, rfl, Or.inl rfl⟩
          have q47 : (Int32.ofInt (0)).toInt = 0 := by decide
          exact j_use hF (L26_10 4294967296 _ (by omega) (by omega)) (And.intro rfl (And.intro rfl (And.intro rfl (And.intro rfl (And.intro rfl (And.intro rfl trivial))))))
        · have c8 : ¬ ¬ (((a >>> (v1 &&& 31)) &&& Int32.ofInt (1))).toInt = (Int32.ofInt (1)).toInt := c8
          have t48 : (v1 + Int32.ofInt 1).toInt = v1.toInt + 1 := j_inc1 (by omega)
          exact j_use hF (ihB3 _ (by omega) (by omega)) (And.intro rfl (And.intro rfl (And.intro rfl (And.intro rfl (And.intro rfl trivial)))))
  have q49 : (Int32.ofInt (0)).toInt = 0 := by decide
  exact j_use hF (L3_2 4294967296 _ (by omega) (by omega)) (And.intro rfl (And.intro rfl (And.intro rfl (And.intro rfl (And.intro rfl trivial)))))
set_option maxHeartbeats 4000000 in
set_option maxRecDepth 20000 in
theorem c_Mo_meet {ρ : Nat → Nat} {h : j_H} {m P G R Q : Nat} {s : Nat} {a : Int32} {b : Int32} (w : j_MX ρ h m P G R Q) (ks : j_kd h s = some (.inr 0)) (ns : (j_ln h s : Int) = 2 * (j_it h R 2).toInt) (ha : 0 ≤ a.toInt ∧ a.toInt < (j_it h R 2).toInt) (hb : 0 ≤ b.toInt ∧ b.toInt < (j_it h R 2).toInt) : j_Ct 195 0 0 0 0 [j_r (some s), j_i a, j_i b] h (fun v h' => h' = h ∧ ∃ r, v = some (j_i r) ∧ (r = 0 ∨ r = 1)) j_no := by
  refine j_intro km_195 (Nat.le_of_ble_eq_true rfl) ?_
  intro J hJ hF
  have wb := w.b
  refine hJ [] 400 _ _ _ _ _ _ ?_
  conv => whnf
  refine ⟨_, _, rfl, ks, rfl, j_vp (by rw [j_dbl (by omega) (by omega)]; omega) (by rw [j_dbl (by omega) (by omega)]; omega), fun x1 ex1 => ?_⟩
  conv => whnf
  refine ⟨_, _, rfl, ks, rfl, j_vp (by rw [j_dbl1 (by omega) (by omega)]; omega) (by rw [j_dbl1 (by omega) (by omega)]; omega), fun x2 ex2 => ?_⟩
  have u3 := j_ub x2
  have u4 := j_ub x1
  conv => whnf
  refine ⟨fun c5 => ?_, fun c5 => ?_⟩
  · have c5 : (x2).toInt < (x1).toInt := c5
    conv => whnf
    exact ⟨Or.inl rfl, ⟨Nat.le_of_ble_eq_true rfl, Nat.le_of_ble_eq_true rfl⟩, rfl, _, rfl, Or.inl rfl⟩
  · have c5 : ¬ (x2).toInt < (x1).toInt := c5
    conv => whnf
    refine ⟨_, _, rfl, ks, rfl, j_vp (by rw [j_dbl (by omega) (by omega)]; omega) (by rw [j_dbl (by omega) (by omega)]; omega), fun x6 ex6 => ?_⟩
    conv => whnf
    refine ⟨_, _, rfl, ks, rfl, j_vp (by rw [j_dbl1 (by omega) (by omega)]; omega) (by rw [j_dbl1 (by omega) (by omega)]; omega), fun x7 ex7 => ?_⟩
    have u8 := j_ub x7
    have u9 := j_ub x6
    conv => whnf
    refine ⟨fun c10 => ?_, fun c10 => ?_⟩
    · have c10 : (x7).toInt < (x6).toInt := c10
      conv => whnf
      exact ⟨Or.inl rfl, ⟨Nat.le_of_ble_eq_true rfl, Nat.le_of_ble_eq_true rfl⟩, rfl, _, rfl, Or.inl rfl⟩
    · have c10 : ¬ (x7).toInt < (x6).toInt := c10
      conv => whnf
      exact ⟨Or.inr rfl, ⟨Nat.le_of_ble_eq_true rfl, Nat.le_of_ble_eq_true rfl⟩, rfl, _, rfl, Or.inr rfl⟩
set_option maxHeartbeats 4000000 in
set_option maxRecDepth 20000 in
theorem c_Mo_doubles {ρ : Nat → Nat} {h : j_H} {m P G R Q : Nat} {s : Nat} (w : j_MX ρ h m P G R Q) (ks : j_kd h s = some (.inr 0)) (ns : (j_ln h s : Int) = 2 * (j_it h R 2).toInt) : j_Ct 173 3 64 0 0 [j_r (some m), j_r (some s)] h (fun v h' => h' = h ∧ ∃ r, v = some (j_i r)) j_no := by
  refine j_intro km_173 (Nat.le_of_ble_eq_true rfl) ?_
  intro J hJ hF
  have wb := w.b
  refine hJ [4, 18] 400 _ _ _ _ _ _ ?_
  have L4_3 : ∀ (k : Nat) (v1 : Int32) (v2 : Int32), 0 ≤ v2.toInt → (2147483647 - v2.toInt) < (k : Int) → J 4 [some (j_r (some m)), some (j_r (some s)), some (j_i v1), some (j_i v2), none, none, none] [] h 0 0 := by
    intro k
    induction k with
    | zero => intro v1 v2 hn hm; exact absurd hm (by have := j_ub v2; omega)
    | succ k ihB4 =>
      intro v1 v2 hn hm
      have uv1 := j_ub v1; have lv1 := j_lb v1
      have uv2 := j_ub v2; have lv2 := j_lb v2
      refine hJ [4, 18] 400 _ _ _ _ _ _ ?_
      conv => whnf
      refine ⟨_, rfl, w.km, fun o5 eo => ?_⟩
      obtain rfl : o5 = some R := eo.symm.trans w.eR
      conv => whnf
      refine ⟨w.lR.1, rfl, _, _, _, _, _, _, c_AL_size (h := h) w.lR j_Sc.rf j_sf_ok, ⟨Nat.le_of_ble_eq_true rfl, Nat.le_of_ble_eq_true rfl, Nat.le_of_ble_eq_true rfl, Nat.le_of_ble_eq_true rfl⟩, fun _ _ z => False.elim z, ?_⟩
      rintro v9 h9 ⟨e9, rfl⟩
      obtain rfl : h = h9 := e9.symm
      have u6 := j_ub v2
      conv => whnf
      refine ⟨fun c7 => ?_, fun c7 => ?_⟩
      · have c7 : ((j_it h R 2)).toInt ≤ (v2).toInt := c7
        conv => whnf
        exact ⟨trivial, ⟨Nat.le_of_ble_eq_true rfl, Nat.le_of_ble_eq_true rfl⟩, rfl, _, rfl⟩
      · have c7 : ¬ ((j_it h R 2)).toInt ≤ (v2).toInt := c7
        have L18_10 : ∀ (k : Nat) (v8 : Int32) (v9 : Int32), 0 ≤ v9.toInt → (2147483647 - v9.toInt) < (k : Int) → J 18 [some (j_r (some m)), some (j_r (some s)), some (j_i v8), some (j_i v2), some (j_i v9), none, none] [] h 0 0 := by
          intro k
          induction k with
          | zero => intro v8 v9 hn hm; exact absurd hm (by have := j_ub v9; omega)
          | succ k ihB11 =>
            intro v8 v9 hn hm
            have uv8 := j_ub v8; have lv8 := j_lb v8
            have uv9 := j_ub v9; have lv9 := j_lb v9
            refine hJ [4, 18] 400 _ _ _ _ _ _ ?_
            have u12 := j_ub v2
            have u13 := j_ub v9
            conv => whnf
            refine ⟨fun c14 => ?_, fun c14 => ?_⟩
            · have c14 : (v2).toInt ≤ (v9).toInt := c14
              have t15 : (v2 + Int32.ofInt 1).toInt = v2.toInt + 1 := j_inc1 (by omega)
              exact j_use hF (ihB4 _ _ (by omega) (by omega)) (And.intro rfl (And.intro rfl (And.intro rfl (And.intro rfl trivial))))
            · have c14 : ¬ (v2).toInt ≤ (v9).toInt := c14
              conv => whnf
              refine ⟨_, rfl, w.km, fun o16 eo => ?_⟩
              obtain rfl : o16 = some R := eo.symm.trans w.eR
              conv => whnf
              refine ⟨w.lR.1, rfl, _, _, _, _, _, _, c_AL_get (h := h) w.lR j_Sc.rf j_sf_ok (by omega) (by omega), ⟨Nat.le_of_ble_eq_true rfl, Nat.le_of_ble_eq_true rfl, Nat.le_of_ble_eq_true rfl, Nat.le_of_ble_eq_true rfl⟩, fun _ _ z => False.elim z, ?_⟩
              rintro v9 h9 ⟨e9, g17, rfl, kg17, xg17⟩
              obtain rfl : h = h9 := e9.symm
              have feg17 := w.aR.get (by omega) (by omega) xg17
              conv => whnf
              refine ⟨Or.inr ⟨_, rfl, kg17⟩, ?_⟩
              conv => whnf
              refine ⟨_, rfl, w.km, fun o18 eo => ?_⟩
              obtain rfl : o18 = some R := eo.symm.trans w.eR
              conv => whnf
              refine ⟨w.lR.1, rfl, _, _, _, _, _, _, c_AL_get (h := h) w.lR j_Sc.rf j_sf_ok (by omega) (by omega), ⟨Nat.le_of_ble_eq_true rfl, Nat.le_of_ble_eq_true rfl, Nat.le_of_ble_eq_true rfl, Nat.le_of_ble_eq_true rfl⟩, fun _ _ z => False.elim z, ?_⟩
              rintro v9 h9 ⟨e9, g19, rfl, kg19, xg19⟩
              obtain rfl : h = h9 := e9.symm
              have feg19 := w.aR.get (by omega) (by omega) xg19
              conv => whnf
              refine ⟨Or.inr ⟨_, rfl, kg19⟩, ?_⟩
              conv => whnf
              refine ⟨_, rfl, kg17, fun x20 ex20 => ?_⟩
              conv => whnf
              refine ⟨fun c21 => ?_, fun c21 => ?_⟩
              · have c21 : ¬ (x20).toInt = 0 := c21
                have t22 : (v9 + Int32.ofInt 1).toInt = v9.toInt + 1 := j_inc1 (by omega)
                exact j_use hF (ihB11 _ _ (by omega) (by omega)) (And.intro rfl (And.intro rfl (And.intro rfl (And.intro rfl (And.intro rfl trivial)))))
              · have c21 : ¬ ¬ (x20).toInt = 0 := c21
                conv => whnf
                refine ⟨_, rfl, kg19, fun x23 ex23 => ?_⟩
                conv => whnf
                refine ⟨fun c24 => ?_, fun c24 => ?_⟩
                · have c24 : ¬ (x23).toInt = 0 := c24
                  have t25 : (v9 + Int32.ofInt 1).toInt = v9.toInt + 1 := j_inc1 (by omega)
                  exact j_use hF (ihB11 _ _ (by omega) (by omega)) (And.intro rfl (And.intro rfl (And.intro rfl (And.intro rfl (And.intro rfl trivial)))))
                · have c24 : ¬ ¬ (x23).toInt = 0 := c24
                  conv => whnf
                  refine ⟨_, rfl, kg17, fun x26 ex26 => ?_⟩
                  conv => whnf
                  refine ⟨_, rfl, kg19, fun x27 ex27 => ?_⟩
                  have u28 := j_ub x27
                  have u29 := j_ub x26
                  conv => whnf
                  refine ⟨fun c30 => ?_, fun c30 => ?_⟩
                  · have c30 : ¬ (x26).toInt = (x27).toInt := c30
                    have t31 : (v9 + Int32.ofInt 1).toInt = v9.toInt + 1 := j_inc1 (by omega)
                    exact j_use hF (ihB11 _ _ (by omega) (by omega)) (And.intro rfl (And.intro rfl (And.intro rfl (And.intro rfl (And.intro rfl trivial)))))
                  · have c30 : ¬ ¬ (x26).toInt = (x27).toInt := c30
                    conv => whnf
                    refine ⟨rfl, _, _, _, _, _, _, c_Mo_meet w ks (by omega) ⟨by omega, by omega⟩ ⟨by omega, by omega⟩, ⟨Nat.le_of_ble_eq_true rfl, Nat.le_of_ble_eq_true rfl, Nat.le_of_ble_eq_true rfl, Nat.le_of_ble_eq_true rfl⟩, fun _ _ z => False.elim z, ?_⟩
                    rintro v9 h9 ⟨e9, r32, rfl, zr32⟩
                    obtain rfl : h = h9 := e9.symm
                    conv => whnf
                    refine ⟨fun c33 => ?_, fun c33 => ?_⟩
                    · have c33 : ¬ (r32).toInt = 0 := c33
                      have t34 : (v9 + Int32.ofInt 1).toInt = v9.toInt + 1 := j_inc1 (by omega)
                      exact j_use hF (ihB11 _ _ (by omega) (by omega)) (And.intro rfl (And.intro rfl (And.intro rfl (And.intro rfl (And.intro rfl trivial)))))
                    · have c33 : ¬ ¬ (r32).toInt = 0 := c33
                      have t35 : (v9 + Int32.ofInt 1).toInt = v9.toInt + 1 := j_inc1 (by omega)
                      exact j_use hF (ihB11 _ _ (by omega) (by omega)) (And.intro rfl (And.intro rfl (And.intro rfl (And.intro rfl (And.intro rfl trivial)))))
        have q36 : (Int32.ofInt (0)).toInt = 0 := by decide
        exact j_use hF (L18_10 4294967296 _ _ (by omega) (by omega)) (And.intro rfl (And.intro rfl (And.intro rfl (And.intro rfl (And.intro rfl trivial)))))
  have q37 : (Int32.ofInt (0)).toInt = 0 := by decide
  exact j_use hF (L4_3 4294967296 _ _ (by omega) (by omega)) (And.intro rfl (And.intro rfl (And.intro rfl (And.intro rfl trivial))))
set_option maxHeartbeats 4000000 in
set_option maxRecDepth 20000 in
theorem c_Mo_labels {ρ : Nat → Nat} {h : j_H} {m P G R Q : Nat} {a : Int32} (w : j_MX ρ h m P G R Q)  : j_Ct 189 4 88 0 0 [j_r (some m), j_i a] h (fun v h' => h' = h ∧ ∃ r, v = some (j_i r)) j_no := by
  refine j_intro km_189 (Nat.le_of_ble_eq_true rfl) ?_
  intro J hJ hF
  have wb := w.b
  refine hJ [4] 400 _ _ _ _ _ _ ?_
  have L4_3 : ∀ (k : Nat) (v1 : Int32) (v2 : Int32), 0 ≤ v2.toInt → (2147483647 - v2.toInt) < (k : Int) → J 4 [some (j_r (some m)), some (j_i a), some (j_i v1), some (j_i v2)] [] h 0 0 := by
    intro k
    induction k with
    | zero => intro v1 v2 hn hm; exact absurd hm (by have := j_ub v2; omega)
    | succ k ihB4 =>
      intro v1 v2 hn hm
      have uv1 := j_ub v1; have lv1 := j_lb v1
      have uv2 := j_ub v2; have lv2 := j_lb v2
      refine hJ [4] 400 _ _ _ _ _ _ ?_
      conv => whnf
      refine ⟨_, rfl, w.km, fun o5 eo => ?_⟩
      obtain rfl : o5 = some R := eo.symm.trans w.eR
      conv => whnf
      refine ⟨w.lR.1, rfl, _, _, _, _, _, _, c_AL_size (h := h) w.lR j_Sc.rf j_sf_ok, ⟨Nat.le_of_ble_eq_true rfl, Nat.le_of_ble_eq_true rfl, Nat.le_of_ble_eq_true rfl, Nat.le_of_ble_eq_true rfl⟩, fun _ _ z => False.elim z, ?_⟩
      rintro v9 h9 ⟨e9, rfl⟩
      obtain rfl : h = h9 := e9.symm
      have u6 := j_ub v2
      conv => whnf
      refine ⟨fun c7 => ?_, fun c7 => ?_⟩
      · have c7 : ((j_it h R 2)).toInt ≤ (v2).toInt := c7
        conv => whnf
        exact ⟨trivial, ⟨Nat.le_of_ble_eq_true rfl, Nat.le_of_ble_eq_true rfl⟩, rfl, _, rfl⟩
      · have c7 : ¬ ((j_it h R 2)).toInt ≤ (v2).toInt := c7
        have q8 : (Int32.ofInt (-1)).toInt = -1 := by decide
        conv => whnf
        refine ⟨w.km, rfl, _, _, _, _, _, _, c_Mo_counts w ⟨by omega, by omega⟩, ⟨Nat.le_of_ble_eq_true rfl, Nat.le_of_ble_eq_true rfl, Nat.le_of_ble_eq_true rfl, Nat.le_of_ble_eq_true rfl⟩, fun _ _ z => False.elim z, ?_⟩
        rintro v9 h9 ⟨e9, r9, rfl, zr9⟩
        obtain rfl : h = h9 := e9.symm
        conv => whnf
        refine ⟨fun c10 => ?_, fun c10 => ?_⟩
        · have c10 : (r9).toInt = 0 := c10
          have t11 : (v2 + Int32.ofInt 1).toInt = v2.toInt + 1 := j_inc1 (by omega)
          exact j_use hF (ihB4 _ _ (by omega) (by omega)) (And.intro rfl (And.intro rfl (And.intro rfl (And.intro rfl trivial))))
        · have c10 : ¬ (r9).toInt = 0 := c10
          have t12 : (v2 + Int32.ofInt 1).toInt = v2.toInt + 1 := j_inc1 (by omega)
          exact j_use hF (ihB4 _ _ (by omega) (by omega)) (And.intro rfl (And.intro rfl (And.intro rfl (And.intro rfl trivial))))
  have q13 : (Int32.ofInt (0)).toInt = 0 := by decide
  exact j_use hF (L4_3 4294967296 _ _ (by omega) (by omega)) (And.intro rfl (And.intro rfl (And.intro rfl (And.intro rfl trivial))))
set_option maxHeartbeats 4000000 in
set_option maxRecDepth 20000 in
theorem c_Mo_ofGrainNow {ρ : Nat → Nat} {h : j_H} {m P G R Q : Nat} {a : Int32} {b : Int32} (w : j_MX ρ h m P G R Q) (ha : 0 ≤ a.toInt ∧ a.toInt < (j_it h G 2).toInt) (hb : 0 ≤ b.toInt ∧ b.toInt ≤ 9) : j_Ct 200 5 111 0 0 [j_r (some m), j_i a, j_i b] h (fun v h' => h' = h ∧ ∃ r, v = some (j_i r)) j_no := by
  refine j_intro km_200 (Nat.le_of_ble_eq_true rfl) ?_
  intro J hJ hF
  have wb := w.b
  refine hJ [] 400 _ _ _ _ _ _ ?_
  conv => whnf
  refine ⟨_, rfl, w.km, fun o1 eo => ?_⟩
  obtain rfl : o1 = some G := eo.symm.trans w.eG
  conv => whnf
  refine ⟨w.lG.1, rfl, _, _, _, _, _, _, c_AL_get (h := h) w.lG j_Sc.rf j_sf_ok (by omega) (by omega), ⟨Nat.le_of_ble_eq_true rfl, Nat.le_of_ble_eq_true rfl, Nat.le_of_ble_eq_true rfl, Nat.le_of_ble_eq_true rfl⟩, fun _ _ z => False.elim z, ?_⟩
  rintro v9 h9 ⟨e9, g2, rfl, kg2, xg2⟩
  obtain rfl : h = h9 := e9.symm
  have feg2 := w.aG.get (by omega) (by omega) xg2
  conv => whnf
  refine ⟨Or.inr ⟨_, rfl, kg2⟩, ?_⟩
  conv => whnf
  refine ⟨And.intro (fun c3 => ?_) (And.intro (fun c3 => ?_) (And.intro (fun c3 => ?_) (And.intro (fun c3 => ?_) (And.intro (fun c3 => ?_) (And.intro (fun c3 => ?_) (And.intro (fun c3 => ?_) (And.intro (fun c3 => ?_) (And.intro (fun c3 => ?_) (trivial))))))))), fun c3 => ?_⟩
  · have c3 : (b).toInt = 0 := c3
    conv => whnf
    refine ⟨_, rfl, kg2, fun o4 eo => ?_⟩
    obtain ⟨b5, eb5, kb5, nb5, rb5⟩ := feg2 0 (by decide)
    obtain rfl : o4 = some b5 := eo.symm.trans eb5
    conv => whnf
    refine ⟨by decide, ?_⟩
    conv => whnf
    refine ⟨_, _, rfl, kb5, rfl, j_vp (j_div3 (by omega) (by omega)).1 (by have := (j_div3 (y := b) (by omega) (by omega)).2; omega), fun x6 ex6 => ?_⟩
    conv => whnf
    exact ⟨trivial, ⟨Nat.le_of_ble_eq_true rfl, Nat.le_of_ble_eq_true rfl⟩, rfl, _, rfl⟩
  · have c3 : (b).toInt = 1 := c3
    conv => whnf
    refine ⟨_, rfl, kg2, fun o7 eo => ?_⟩
    obtain ⟨b8, eb8, kb8, nb8, rb8⟩ := feg2 1 (by decide)
    obtain rfl : o7 = some b8 := eo.symm.trans eb8
    conv => whnf
    refine ⟨by decide, ?_⟩
    conv => whnf
    refine ⟨_, _, rfl, kb8, rfl, j_vp (j_div3 (by omega) (by omega)).1 (by have := (j_div3 (y := b) (by omega) (by omega)).2; omega), fun x9 ex9 => ?_⟩
    conv => whnf
    exact ⟨trivial, ⟨Nat.le_of_ble_eq_true rfl, Nat.le_of_ble_eq_true rfl⟩, rfl, _, rfl⟩
  · have c3 : (b).toInt = 2 := c3
    conv => whnf
    refine ⟨_, rfl, kg2, fun o10 eo => ?_⟩
    obtain ⟨b11, eb11, kb11, nb11, rb11⟩ := feg2 2 (by decide)
    obtain rfl : o10 = some b11 := eo.symm.trans eb11
    conv => whnf
    refine ⟨by decide, ?_⟩
    conv => whnf
    refine ⟨_, _, rfl, kb11, rfl, j_vp (j_div3 (by omega) (by omega)).1 (by have := (j_div3 (y := b) (by omega) (by omega)).2; omega), fun x12 ex12 => ?_⟩
    conv => whnf
    exact ⟨trivial, ⟨Nat.le_of_ble_eq_true rfl, Nat.le_of_ble_eq_true rfl⟩, rfl, _, rfl⟩
  · have c3 : (b).toInt = 3 := c3
    conv => whnf
    refine ⟨_, rfl, kg2, fun o13 eo => ?_⟩
    obtain ⟨b14, eb14, kb14, nb14, rb14⟩ := feg2 0 (by decide)
    obtain rfl : o13 = some b14 := eo.symm.trans eb14
    conv => whnf
    refine ⟨by decide, ?_⟩
    conv => whnf
    refine ⟨_, _, rfl, kb14, rfl, j_vp (j_div3 (by omega) (by omega)).1 (by have := (j_div3 (y := b) (by omega) (by omega)).2; omega), fun x15 ex15 => ?_⟩
    conv => whnf
    exact ⟨trivial, ⟨Nat.le_of_ble_eq_true rfl, Nat.le_of_ble_eq_true rfl⟩, rfl, _, rfl⟩
  · have c3 : (b).toInt = 4 := c3
    conv => whnf
    refine ⟨_, rfl, kg2, fun o16 eo => ?_⟩
    obtain ⟨b17, eb17, kb17, nb17, rb17⟩ := feg2 1 (by decide)
    obtain rfl : o16 = some b17 := eo.symm.trans eb17
    conv => whnf
    refine ⟨by decide, ?_⟩
    conv => whnf
    refine ⟨_, _, rfl, kb17, rfl, j_vp (j_div3 (by omega) (by omega)).1 (by have := (j_div3 (y := b) (by omega) (by omega)).2; omega), fun x18 ex18 => ?_⟩
    conv => whnf
    exact ⟨trivial, ⟨Nat.le_of_ble_eq_true rfl, Nat.le_of_ble_eq_true rfl⟩, rfl, _, rfl⟩
  · have c3 : (b).toInt = 5 := c3
    conv => whnf
    refine ⟨_, rfl, kg2, fun o19 eo => ?_⟩
    obtain ⟨b20, eb20, kb20, nb20, rb20⟩ := feg2 2 (by decide)
    obtain rfl : o19 = some b20 := eo.symm.trans eb20
    conv => whnf
    refine ⟨by decide, ?_⟩
    conv => whnf
    refine ⟨_, _, rfl, kb20, rfl, j_vp (j_div3 (by omega) (by omega)).1 (by have := (j_div3 (y := b) (by omega) (by omega)).2; omega), fun x21 ex21 => ?_⟩
    conv => whnf
    exact ⟨trivial, ⟨Nat.le_of_ble_eq_true rfl, Nat.le_of_ble_eq_true rfl⟩, rfl, _, rfl⟩
  · have c3 : (b).toInt = 6 := c3
    conv => whnf
    refine ⟨_, rfl, w.km, fun x22 ex22 => ?_⟩
    conv => whnf
    refine ⟨_, rfl, kg2, fun x23 ex23 => ?_⟩
    conv => whnf
    exact ⟨trivial, ⟨Nat.le_of_ble_eq_true rfl, Nat.le_of_ble_eq_true rfl⟩, rfl, _, rfl⟩
  · have c3 : (b).toInt = 7 := c3
    conv => whnf
    refine ⟨_, rfl, kg2, fun x24 ex24 => ?_⟩
    conv => whnf
    exact ⟨trivial, ⟨Nat.le_of_ble_eq_true rfl, Nat.le_of_ble_eq_true rfl⟩, rfl, _, rfl⟩
  · have c3 : (b).toInt = 8 := c3
    conv => whnf
    refine ⟨_, rfl, kg2, fun x25 ex25 => ?_⟩
    conv => whnf
    refine ⟨fun c26 => ?_, fun c26 => ?_⟩
    · have c26 : (x25).toInt = 0 := c26
      conv => whnf
      exact ⟨trivial, ⟨Nat.le_of_ble_eq_true rfl, Nat.le_of_ble_eq_true rfl⟩, rfl, _, rfl⟩
    · have c26 : ¬ (x25).toInt = 0 := c26
      conv => whnf
      exact ⟨trivial, ⟨Nat.le_of_ble_eq_true rfl, Nat.le_of_ble_eq_true rfl⟩, rfl, _, rfl⟩
  · have c3 : (b).toInt < 0 ∨ 8 < (b).toInt := c3
    conv => whnf
    refine ⟨w.km, rfl, _, _, _, _, _, _, c_Mo_labels w, ⟨Nat.le_of_ble_eq_true rfl, Nat.le_of_ble_eq_true rfl, Nat.le_of_ble_eq_true rfl, Nat.le_of_ble_eq_true rfl⟩, fun _ _ z => False.elim z, ?_⟩
    rintro v9 h9 ⟨e9, r27, rfl⟩
    obtain rfl : h = h9 := e9.symm
    conv => whnf
    exact ⟨trivial, ⟨Nat.le_of_ble_eq_true rfl, Nat.le_of_ble_eq_true rfl⟩, rfl, _, rfl⟩
set_option maxHeartbeats 4000000 in
set_option maxRecDepth 20000 in
theorem c_Mo_stands_n {ρ : Nat → Nat} {h : j_H} {m P G R Q : Nat} (w : j_MX ρ h m P G R Q) : ∀ (n : Nat) {a : Int32} (ha : 0 ≤ a.toInt ∧ a.toInt < (j_it h Q 2).toInt), a.toInt < (n : Int) → j_Ct 217 (4 + n) (300 + 40 * n) 0 0 [j_r (some m), j_i a] h (fun v h' => h' = h ∧ ∃ r, v = some (j_i r) ∧ (r = 0 ∨ r = 1)) j_no := by
  have wb := w.b
  intro n
  induction n with
  | zero => intro a ha hn; omega
  | succ n ih =>
    intro a ha hn
    refine j_intro km_217 (Nat.le_of_ble_eq_true rfl) ?_
    intro J hJ hF
    refine hJ [] 400 _ _ _ _ _ _ ?_
    conv => whnf
    refine ⟨_, rfl, w.km, fun o1 eo => ?_⟩
    obtain rfl : o1 = some Q := eo.symm.trans w.eQ
    conv => whnf
    refine ⟨w.lQ.1, rfl, _, _, _, _, _, _, c_AL_get (h := h) w.lQ j_Sc.rf j_sf_ok (by omega) (by omega), ⟨by (try dsimp only); omega, Nat.le_trans (m := 200) (Nat.le_of_ble_eq_true rfl) (by (try dsimp only); omega), Nat.le_of_ble_eq_true rfl, Nat.le_of_ble_eq_true rfl⟩, fun _ _ z => False.elim z, ?_⟩
    rintro v9 h9 ⟨e9, g2, rfl, kg2, xg2⟩
    obtain rfl : h = h9 := e9.symm
    have feg2 := w.aQ.get (by omega) (by omega) xg2
    have ng2 : j_ln h g2 = 3 := feg2.2.1
    conv => whnf
    refine ⟨Or.inr ⟨_, rfl, kg2⟩, ?_⟩
    conv => whnf
    refine ⟨_, rfl, w.km, fun o3 eo => ?_⟩
    obtain rfl : o3 = some R := eo.symm.trans w.eR
    have q4 : (Int32.ofInt (0)).toInt = 0 := by decide
    conv => whnf
    refine ⟨_, _, rfl, kg2, rfl, j_vp (by omega) (by omega), fun x5 ex5 => ?_⟩
    have hx5 : 0 ≤ x5.toInt ∧ x5.toInt < (j_it h R 2).toInt := by rw [← ex5]; exact ⟨feg2.2.2.1, feg2.2.2.2.1⟩
    conv => whnf
    refine ⟨w.lR.1, rfl, _, _, _, _, _, _, c_AL_get (h := h) w.lR j_Sc.rf j_sf_ok (by omega) (by omega), ⟨by (try dsimp only); omega, Nat.le_trans (m := 200) (Nat.le_of_ble_eq_true rfl) (by (try dsimp only); omega), Nat.le_of_ble_eq_true rfl, Nat.le_of_ble_eq_true rfl⟩, fun _ _ z => False.elim z, ?_⟩
    rintro v9 h9 ⟨e9, g6, rfl, kg6, xg6⟩
    obtain rfl : h = h9 := e9.symm
    have feg6 := w.aR.get (by omega) (by omega) xg6
    conv => whnf
    refine ⟨Or.inr ⟨_, rfl, kg6⟩, ?_⟩
    conv => whnf
    refine ⟨_, rfl, kg6, fun x7 ex7 => ?_⟩
    conv => whnf
    refine ⟨fun c8 => ?_, fun c8 => ?_⟩
    · have c8 : ¬ (x7).toInt = 0 := c8
      conv => whnf
      exact ⟨Or.inl rfl, ⟨Nat.le_of_ble_eq_true rfl, Nat.le_of_ble_eq_true rfl⟩, rfl, _, rfl, Or.inl rfl⟩
    · have c8 : ¬ ¬ (x7).toInt = 0 := c8
      conv => whnf
      refine ⟨_, rfl, w.km, fun o9 eo => ?_⟩
      obtain rfl : o9 = some P := eo.symm.trans w.eP
      conv => whnf
      refine ⟨_, rfl, kg6, fun x10 ex10 => ?_⟩
      have hx10 : 0 ≤ x10.toInt ∧ x10.toInt ≤ 1 := by rw [← ex10]; exact feg6
      have n11 := w.nP
      conv => whnf
      refine ⟨_, _, rfl, w.kP, rfl, j_vp (by omega) (by omega), fun x12 ex12 => ?_⟩
      have hx12 : x12.toInt ≠ 0 := j_nzP w ex12 (by omega) (by omega)
      have q13 : (Int32.ofInt (1)).toInt = 1 := by decide
      conv => whnf
      refine ⟨_, _, rfl, kg2, rfl, j_vp (by omega) (by omega), fun x14 ex14 => ?_⟩
      have u15 := j_ub x14
      have u16 := j_ub x12
      conv => whnf
      refine ⟨fun c17 => ?_, fun c17 => ?_⟩
      · have c17 : ¬ (x12).toInt = (x14).toInt := c17
        conv => whnf
        exact ⟨Or.inl rfl, ⟨Nat.le_of_ble_eq_true rfl, Nat.le_of_ble_eq_true rfl⟩, rfl, _, rfl, Or.inl rfl⟩
      · have c17 : ¬ ¬ (x12).toInt = (x14).toInt := c17
        have q18 : (Int32.ofInt (2)).toInt = 2 := by decide
        conv => whnf
        refine ⟨_, _, rfl, kg2, rfl, j_vp (by omega) (by omega), fun x19 ex19 => ?_⟩
        have hx19 : x19.toInt = -1 ∨ (0 ≤ x19.toInt ∧ x19.toInt < (a).toInt) := by have y := feg2.2.2.2.2; rw [j_clamp (by omega)] at y; rw [← ex19]; exact y
        have q20 : (Int32.ofInt (-1)).toInt = -1 := by decide
        have u21 := j_ub x19
        conv => whnf
        refine ⟨fun c22 => ?_, fun c22 => ?_⟩
        · have c22 : (x19).toInt = (Int32.ofInt (-1)).toInt := c22
          conv => whnf
          exact ⟨Or.inr rfl, ⟨Nat.le_of_ble_eq_true rfl, Nat.le_of_ble_eq_true rfl⟩, rfl, _, rfl, Or.inr rfl⟩
        · have c22 : ¬ (x19).toInt = (Int32.ofInt (-1)).toInt := c22
          have q23 : (Int32.ofInt (2)).toInt = 2 := by decide
          conv => whnf
          refine ⟨_, _, rfl, kg2, rfl, j_vp (by omega) (by omega), fun x24 ex24 => ?_⟩
          have hx24 : x24.toInt = -1 ∨ (0 ≤ x24.toInt ∧ x24.toInt < (a).toInt) := by have y := feg2.2.2.2.2; rw [j_clamp (by omega)] at y; rw [← ex24]; exact y
          have s25 := congrArg Int32.toInt (ex24.symm.trans ex19)
          conv => whnf
          refine ⟨w.km, rfl, _, _, _, _, _, _, ih ⟨by omega, by omega⟩ (by omega), ⟨by (try dsimp only); omega, by show 8 + (4 + 11) + _ ≤ _; (try dsimp only); omega, Nat.le_of_ble_eq_true rfl, Nat.le_of_ble_eq_true rfl⟩, fun _ _ z => False.elim z, ?_⟩
          rintro v9 h9 ⟨e9, r26, rfl, zr26⟩
          obtain rfl : h = h9 := e9.symm
          conv => whnf
          refine ⟨fun c27 => ?_, fun c27 => ?_⟩
          · have c27 : (r26).toInt = 0 := c27
            conv => whnf
            exact ⟨Or.inl rfl, ⟨Nat.le_of_ble_eq_true rfl, Nat.le_of_ble_eq_true rfl⟩, rfl, _, rfl, Or.inl rfl⟩
          · have c27 : ¬ (r26).toInt = 0 := c27
            conv => whnf
            exact ⟨Or.inr rfl, ⟨Nat.le_of_ble_eq_true rfl, Nat.le_of_ble_eq_true rfl⟩, rfl, _, rfl, Or.inr rfl⟩
theorem c_Mo_stands {ρ : Nat → Nat} {h : j_H} {m P G R Q : Nat} {a : Int32} (w : j_MX ρ h m P G R Q) (ha : 0 ≤ a.toInt ∧ a.toInt < (j_it h Q 2).toInt) : j_Ct 217 15 740 0 0 [j_r (some m), j_i a] h (fun v h' => h' = h ∧ ∃ r, v = some (j_i r) ∧ (r = 0 ∨ r = 1)) j_no := c_Mo_stands_n w 11 ha (by have := w.b; omega)
set_option maxHeartbeats 4000000 in
set_option maxRecDepth 20000 in
theorem c_Mo_standsOn_n {ρ : Nat → Nat} {h : j_H} {m P G R Q : Nat} (w : j_MX ρ h m P G R Q) : ∀ (n : Nat) {a : Int32} (ha : 0 ≤ a.toInt ∧ a.toInt < (j_it h Q 2).toInt), a.toInt < (n : Int) → j_Ct 218 (4 + n) (300 + 40 * n) 0 0 [j_r (some m), j_i a] h (fun v h' => h' = h ∧ ∃ r, v = some (j_i r)) j_no := by
  have wb := w.b
  intro n
  induction n with
  | zero => intro a ha hn; omega
  | succ n ih =>
    intro a ha hn
    refine j_intro km_218 (Nat.le_of_ble_eq_true rfl) ?_
    intro J hJ hF
    refine hJ [] 400 _ _ _ _ _ _ ?_
    conv => whnf
    refine ⟨_, rfl, w.km, fun o1 eo => ?_⟩
    obtain rfl : o1 = some Q := eo.symm.trans w.eQ
    conv => whnf
    refine ⟨w.lQ.1, rfl, _, _, _, _, _, _, c_AL_get (h := h) w.lQ j_Sc.rf j_sf_ok (by omega) (by omega), ⟨by (try dsimp only); omega, Nat.le_trans (m := 200) (Nat.le_of_ble_eq_true rfl) (by (try dsimp only); omega), Nat.le_of_ble_eq_true rfl, Nat.le_of_ble_eq_true rfl⟩, fun _ _ z => False.elim z, ?_⟩
    rintro v9 h9 ⟨e9, g2, rfl, kg2, xg2⟩
    obtain rfl : h = h9 := e9.symm
    have feg2 := w.aQ.get (by omega) (by omega) xg2
    have ng2 : j_ln h g2 = 3 := feg2.2.1
    conv => whnf
    refine ⟨Or.inr ⟨_, rfl, kg2⟩, ?_⟩
    have q3 : (Int32.ofInt (2)).toInt = 2 := by decide
    conv => whnf
    refine ⟨_, _, rfl, kg2, rfl, j_vp (by omega) (by omega), fun x4 ex4 => ?_⟩
    have hx4 : x4.toInt = -1 ∨ (0 ≤ x4.toInt ∧ x4.toInt < (a).toInt) := by have y := feg2.2.2.2.2; rw [j_clamp (by omega)] at y; rw [← ex4]; exact y
    have q5 : (Int32.ofInt (-1)).toInt = -1 := by decide
    have u6 := j_ub x4
    conv => whnf
    refine ⟨fun c7 => ?_, fun c7 => ?_⟩
    · have c7 : ¬ (x4).toInt = (Int32.ofInt (-1)).toInt := c7
      conv => whnf
      refine ⟨_, rfl, w.km, fun o8 eo => ?_⟩
      obtain rfl : o8 = some Q := eo.symm.trans w.eQ
      conv => whnf
      refine ⟨w.lQ.1, rfl, _, _, _, _, _, _, c_AL_get (h := h) w.lQ j_Sc.rf j_sf_ok (by omega) (by omega), ⟨by (try dsimp only); omega, Nat.le_trans (m := 200) (Nat.le_of_ble_eq_true rfl) (by (try dsimp only); omega), Nat.le_of_ble_eq_true rfl, Nat.le_of_ble_eq_true rfl⟩, fun _ _ z => False.elim z, ?_⟩
      rintro v9 h9 ⟨e9, g9, rfl, kg9, xg9⟩
      obtain rfl : h = h9 := e9.symm
      obtain rfl : g2 = g9 := j_same xg2 xg9
      conv => whnf
      refine ⟨Or.inr ⟨_, rfl, kg2⟩, ?_⟩
      have q10 : (Int32.ofInt (2)).toInt = 2 := by decide
      conv => whnf
      refine ⟨_, _, rfl, kg2, rfl, j_vp (by omega) (by omega), fun x11 ex11 => ?_⟩
      have hx11 : x11.toInt = -1 ∨ (0 ≤ x11.toInt ∧ x11.toInt < (a).toInt) := by have y := feg2.2.2.2.2; rw [j_clamp (by omega)] at y; rw [← ex11]; exact y
      have s12 := congrArg Int32.toInt (ex11.symm.trans ex4)
      conv => whnf
      refine ⟨w.km, rfl, _, _, _, _, _, _, ih ⟨by omega, by omega⟩ (by omega), ⟨by (try dsimp only); omega, by show 8 + (2 + 11) + _ ≤ _; (try dsimp only); omega, Nat.le_of_ble_eq_true rfl, Nat.le_of_ble_eq_true rfl⟩, fun _ _ z => False.elim z, ?_⟩
      rintro v9 h9 ⟨e9, r13, rfl⟩
      obtain rfl : h = h9 := e9.symm
      conv => whnf
      exact ⟨trivial, ⟨Nat.le_of_ble_eq_true rfl, Nat.le_of_ble_eq_true rfl⟩, rfl, _, rfl⟩
    · have c7 : ¬ ¬ (x4).toInt = (Int32.ofInt (-1)).toInt := c7
      conv => whnf
      exact ⟨trivial, ⟨Nat.le_of_ble_eq_true rfl, Nat.le_of_ble_eq_true rfl⟩, rfl, _, rfl⟩
theorem c_Mo_standsOn {ρ : Nat → Nat} {h : j_H} {m P G R Q : Nat} {a : Int32} (w : j_MX ρ h m P G R Q) (ha : 0 ≤ a.toInt ∧ a.toInt < (j_it h Q 2).toInt) : j_Ct 218 15 740 0 0 [j_r (some m), j_i a] h (fun v h' => h' = h ∧ ∃ r, v = some (j_i r)) j_no := c_Mo_standsOn_n w 11 ha (by have := w.b; omega)
set_option maxHeartbeats 4000000 in
set_option maxRecDepth 20000 in
theorem c_Mo_standing {ρ : Nat → Nat} {h : j_H} {m P G R Q : Nat}  (w : j_MX ρ h m P G R Q)  : j_Ct 215 16 763 0 0 [j_r (some m)] h (fun v h' => h' = h ∧ ∃ r, v = some (j_i r)) j_no := by
  refine j_intro km_215 (Nat.le_of_ble_eq_true rfl) ?_
  intro J hJ hF
  have wb := w.b
  refine hJ [4] 400 _ _ _ _ _ _ ?_
  have L4_3 : ∀ (k : Nat) (v1 : Int32) (v2 : Int32), 0 ≤ v2.toInt → (2147483647 - v2.toInt) < (k : Int) → J 4 [some (j_r (some m)), some (j_i v1), some (j_i v2)] [] h 0 0 := by
    intro k
    induction k with
    | zero => intro v1 v2 hn hm; exact absurd hm (by have := j_ub v2; omega)
    | succ k ihB4 =>
      intro v1 v2 hn hm
      have uv1 := j_ub v1; have lv1 := j_lb v1
      have uv2 := j_ub v2; have lv2 := j_lb v2
      refine hJ [4] 400 _ _ _ _ _ _ ?_
      conv => whnf
      refine ⟨_, rfl, w.km, fun o5 eo => ?_⟩
      obtain rfl : o5 = some Q := eo.symm.trans w.eQ
      conv => whnf
      refine ⟨w.lQ.1, rfl, _, _, _, _, _, _, c_AL_size (h := h) w.lQ j_Sc.rf j_sf_ok, ⟨Nat.le_of_ble_eq_true rfl, Nat.le_of_ble_eq_true rfl, Nat.le_of_ble_eq_true rfl, Nat.le_of_ble_eq_true rfl⟩, fun _ _ z => False.elim z, ?_⟩
      rintro v9 h9 ⟨e9, rfl⟩
      obtain rfl : h = h9 := e9.symm
      have u6 := j_ub v2
      conv => whnf
      refine ⟨fun c7 => ?_, fun c7 => ?_⟩
      · have c7 : ((j_it h Q 2)).toInt ≤ (v2).toInt := c7
        conv => whnf
        exact ⟨trivial, ⟨Nat.le_of_ble_eq_true rfl, Nat.le_of_ble_eq_true rfl⟩, rfl, _, rfl⟩
      · have c7 : ¬ ((j_it h Q 2)).toInt ≤ (v2).toInt := c7
        conv => whnf
        refine ⟨w.km, rfl, _, _, _, _, _, _, c_Mo_stands w ⟨by omega, by omega⟩, ⟨Nat.le_of_ble_eq_true rfl, Nat.le_of_ble_eq_true rfl, Nat.le_of_ble_eq_true rfl, Nat.le_of_ble_eq_true rfl⟩, fun _ _ z => False.elim z, ?_⟩
        rintro v9 h9 ⟨e9, r8, rfl, zr8⟩
        obtain rfl : h = h9 := e9.symm
        conv => whnf
        refine ⟨fun c9 => ?_, fun c9 => ?_⟩
        · have c9 : (r8).toInt = 0 := c9
          have t10 : (v2 + Int32.ofInt 1).toInt = v2.toInt + 1 := j_inc1 (by omega)
          exact j_use hF (ihB4 _ _ (by omega) (by omega)) (And.intro rfl (And.intro rfl (And.intro rfl trivial)))
        · have c9 : ¬ (r8).toInt = 0 := c9
          have t11 : (v2 + Int32.ofInt 1).toInt = v2.toInt + 1 := j_inc1 (by omega)
          exact j_use hF (ihB4 _ _ (by omega) (by omega)) (And.intro rfl (And.intro rfl (And.intro rfl trivial)))
  have q12 : (Int32.ofInt (0)).toInt = 0 := by decide
  exact j_use hF (L4_3 4294967296 _ _ (by omega) (by omega)) (And.intro rfl (And.intro rfl (And.intro rfl trivial)))
set_option maxHeartbeats 4000000 in
set_option maxRecDepth 20000 in
theorem c_Mo_ofPrintNow {ρ : Nat → Nat} {h : j_H} {m P G R Q : Nat} {a : Int32} {b : Int32} (w : j_MX ρ h m P G R Q) (ha : 0 ≤ a.toInt ∧ a.toInt < (j_it h Q 2).toInt) (hb : 0 ≤ b.toInt ∧ b.toInt ≤ 4) : j_Ct 202 16 763 0 0 [j_r (some m), j_i a, j_i b] h (fun v h' => h' = h ∧ ∃ r, v = some (j_i r)) j_no := by
  refine j_intro km_202 (Nat.le_of_ble_eq_true rfl) ?_
  intro J hJ hF
  have wb := w.b
  refine hJ [] 400 _ _ _ _ _ _ ?_
  conv => whnf
  refine ⟨_, rfl, w.km, fun o1 eo => ?_⟩
  obtain rfl : o1 = some Q := eo.symm.trans w.eQ
  conv => whnf
  refine ⟨w.lQ.1, rfl, _, _, _, _, _, _, c_AL_get (h := h) w.lQ j_Sc.rf j_sf_ok (by omega) (by omega), ⟨Nat.le_of_ble_eq_true rfl, Nat.le_of_ble_eq_true rfl, Nat.le_of_ble_eq_true rfl, Nat.le_of_ble_eq_true rfl⟩, fun _ _ z => False.elim z, ?_⟩
  rintro v9 h9 ⟨e9, g2, rfl, kg2, xg2⟩
  obtain rfl : h = h9 := e9.symm
  have feg2 := w.aQ.get (by omega) (by omega) xg2
  have ng2 : j_ln h g2 = 3 := feg2.2.1
  conv => whnf
  refine ⟨Or.inr ⟨_, rfl, kg2⟩, ?_⟩
  have q3 : (Int32.ofInt (3)).toInt = 3 := by decide
  have u4 := j_ub b
  conv => whnf
  refine ⟨fun c5 => ?_, fun c5 => ?_⟩
  · have c5 : (Int32.ofInt (3)).toInt ≤ (b).toInt := c5
    have q6 : (Int32.ofInt (3)).toInt = 3 := by decide
    have u7 := j_ub b
    conv => whnf
    refine ⟨fun c8 => ?_, fun c8 => ?_⟩
    · have c8 : ¬ (b).toInt = (Int32.ofInt (3)).toInt := c8
      conv => whnf
      refine ⟨w.km, rfl, _, _, _, _, _, _, c_Mo_standsOn w ⟨by omega, by omega⟩, ⟨Nat.le_of_ble_eq_true rfl, Nat.le_of_ble_eq_true rfl, Nat.le_of_ble_eq_true rfl, Nat.le_of_ble_eq_true rfl⟩, fun _ _ z => False.elim z, ?_⟩
      rintro v9 h9 ⟨e9, r9, rfl⟩
      obtain rfl : h = h9 := e9.symm
      conv => whnf
      exact ⟨trivial, ⟨Nat.le_of_ble_eq_true rfl, Nat.le_of_ble_eq_true rfl⟩, rfl, _, rfl⟩
    · have c8 : ¬ ¬ (b).toInt = (Int32.ofInt (3)).toInt := c8
      conv => whnf
      refine ⟨w.km, rfl, _, _, _, _, _, _, c_Mo_stands w ⟨by omega, by omega⟩, ⟨Nat.le_of_ble_eq_true rfl, Nat.le_of_ble_eq_true rfl, Nat.le_of_ble_eq_true rfl, Nat.le_of_ble_eq_true rfl⟩, fun _ _ z => False.elim z, ?_⟩
      rintro v9 h9 ⟨e9, r10, rfl, zr10⟩
      obtain rfl : h = h9 := e9.symm
      conv => whnf
      refine ⟨fun c11 => ?_, fun c11 => ?_⟩
      · have c11 : (r10).toInt = 0 := c11
        conv => whnf
        exact ⟨trivial, ⟨Nat.le_of_ble_eq_true rfl, Nat.le_of_ble_eq_true rfl⟩, rfl, _, rfl⟩
      · have c11 : ¬ (r10).toInt = 0 := c11
        conv => whnf
        exact ⟨trivial, ⟨Nat.le_of_ble_eq_true rfl, Nat.le_of_ble_eq_true rfl⟩, rfl, _, rfl⟩
  · have c5 : ¬ (Int32.ofInt (3)).toInt ≤ (b).toInt := c5
    conv => whnf
    refine ⟨_, _, rfl, kg2, rfl, j_vp (by omega) (by omega), fun x12 ex12 => ?_⟩
    conv => whnf
    exact ⟨trivial, ⟨Nat.le_of_ble_eq_true rfl, Nat.le_of_ble_eq_true rfl⟩, rfl, _, rfl⟩
set_option maxHeartbeats 4000000 in
set_option maxRecDepth 20000 in
theorem c_Mo_ofRunNow {ρ : Nat → Nat} {h : j_H} {m P G R Q : Nat} {a : Int32} {b : Int32} (w : j_MX ρ h m P G R Q) (ha : 0 ≤ a.toInt ∧ a.toInt < (j_it h R 2).toInt) (hb : 0 ≤ b.toInt ∧ b.toInt ≤ 7) : j_Ct 204 3 64 0 0 [j_r (some m), j_i a, j_i b] h (fun v h' => h' = h ∧ ∃ r, v = some (j_i r)) j_no := by
  refine j_intro km_204 (Nat.le_of_ble_eq_true rfl) ?_
  intro J hJ hF
  have wb := w.b
  refine hJ [] 400 _ _ _ _ _ _ ?_
  conv => whnf
  refine ⟨_, rfl, w.km, fun o1 eo => ?_⟩
  obtain rfl : o1 = some R := eo.symm.trans w.eR
  conv => whnf
  refine ⟨w.lR.1, rfl, _, _, _, _, _, _, c_AL_get (h := h) w.lR j_Sc.rf j_sf_ok (by omega) (by omega), ⟨Nat.le_of_ble_eq_true rfl, Nat.le_of_ble_eq_true rfl, Nat.le_of_ble_eq_true rfl, Nat.le_of_ble_eq_true rfl⟩, fun _ _ z => False.elim z, ?_⟩
  rintro v9 h9 ⟨e9, g2, rfl, kg2, xg2⟩
  obtain rfl : h = h9 := e9.symm
  have feg2 := w.aR.get (by omega) (by omega) xg2
  conv => whnf
  refine ⟨Or.inr ⟨_, rfl, kg2⟩, ?_⟩
  conv => whnf
  refine ⟨And.intro (fun c3 => ?_) (And.intro (fun c3 => ?_) (And.intro (fun c3 => ?_) (And.intro (fun c3 => ?_) (And.intro (fun c3 => ?_) (And.intro (fun c3 => ?_) (And.intro (fun c3 => ?_) (trivial))))))), fun c3 => ?_⟩
  · have c3 : (b).toInt = 0 := c3
    conv => whnf
    refine ⟨_, rfl, kg2, fun x4 ex4 => ?_⟩
    conv => whnf
    exact ⟨trivial, ⟨Nat.le_of_ble_eq_true rfl, Nat.le_of_ble_eq_true rfl⟩, rfl, _, rfl⟩
  · have c3 : (b).toInt = 1 := c3
    conv => whnf
    refine ⟨_, rfl, kg2, fun x5 ex5 => ?_⟩
    have hx5 : 0 ≤ x5.toInt ∧ x5.toInt ≤ 1 := by rw [← ex5]; exact feg2
    conv => whnf
    exact ⟨trivial, ⟨Nat.le_of_ble_eq_true rfl, Nat.le_of_ble_eq_true rfl⟩, rfl, _, rfl⟩
  · have c3 : (b).toInt = 2 := c3
    conv => whnf
    refine ⟨_, rfl, kg2, fun x6 ex6 => ?_⟩
    conv => whnf
    exact ⟨trivial, ⟨Nat.le_of_ble_eq_true rfl, Nat.le_of_ble_eq_true rfl⟩, rfl, _, rfl⟩
  · have c3 : (b).toInt = 3 := c3
    conv => whnf
    refine ⟨_, rfl, kg2, fun x7 ex7 => ?_⟩
    conv => whnf
    exact ⟨trivial, ⟨Nat.le_of_ble_eq_true rfl, Nat.le_of_ble_eq_true rfl⟩, rfl, _, rfl⟩
  · have c3 : (b).toInt = 4 := c3
    conv => whnf
    refine ⟨_, rfl, kg2, fun x8 ex8 => ?_⟩
    conv => whnf
    exact ⟨trivial, ⟨Nat.le_of_ble_eq_true rfl, Nat.le_of_ble_eq_true rfl⟩, rfl, _, rfl⟩
  · have c3 : (b).toInt = 5 := c3
    conv => whnf
    refine ⟨_, rfl, w.km, fun o9 eo => ?_⟩
    obtain rfl : o9 = some P := eo.symm.trans w.eP
    conv => whnf
    refine ⟨_, rfl, kg2, fun x10 ex10 => ?_⟩
    have hx10 : 0 ≤ x10.toInt ∧ x10.toInt ≤ 1 := by rw [← ex10]; exact feg2
    have n11 := w.nP
    conv => whnf
    refine ⟨_, _, rfl, w.kP, rfl, j_vp (by omega) (by omega), fun x12 ex12 => ?_⟩
    have hx12 : x12.toInt ≠ 0 := j_nzP w ex12 (by omega) (by omega)
    conv => whnf
    refine ⟨w.km, rfl, _, _, _, _, _, _, c_Mo_early w kg2 (by omega), ⟨Nat.le_of_ble_eq_true rfl, Nat.le_of_ble_eq_true rfl, Nat.le_of_ble_eq_true rfl, Nat.le_of_ble_eq_true rfl⟩, fun _ _ z => False.elim z, ?_⟩
    rintro v9 h9 ⟨e9, r13, rfl⟩
    obtain rfl : h = h9 := e9.symm
    conv => whnf
    exact ⟨trivial, ⟨Nat.le_of_ble_eq_true rfl, Nat.le_of_ble_eq_true rfl⟩, rfl, _, rfl⟩
  · have c3 : (b).toInt = 6 := c3
    conv => whnf
    refine ⟨_, rfl, w.km, fun o14 eo => ?_⟩
    obtain rfl : o14 = some P := eo.symm.trans w.eP
    conv => whnf
    refine ⟨_, rfl, kg2, fun x15 ex15 => ?_⟩
    have hx15 : 0 ≤ x15.toInt ∧ x15.toInt ≤ 1 := by rw [← ex15]; exact feg2
    have n16 := w.nP
    conv => whnf
    refine ⟨_, _, rfl, w.kP, rfl, j_vp (by omega) (by omega), fun x17 ex17 => ?_⟩
    have hx17 : x17.toInt ≠ 0 := j_nzP w ex17 (by omega) (by omega)
    conv => whnf
    refine ⟨w.km, rfl, _, _, _, _, _, _, c_Mo_late w kg2 (by omega), ⟨Nat.le_of_ble_eq_true rfl, Nat.le_of_ble_eq_true rfl, Nat.le_of_ble_eq_true rfl, Nat.le_of_ble_eq_true rfl⟩, fun _ _ z => False.elim z, ?_⟩
    rintro v9 h9 ⟨e9, r18, rfl⟩
    obtain rfl : h = h9 := e9.symm
    conv => whnf
    exact ⟨trivial, ⟨Nat.le_of_ble_eq_true rfl, Nat.le_of_ble_eq_true rfl⟩, rfl, _, rfl⟩
  · have c3 : (b).toInt < 0 ∨ 6 < (b).toInt := c3
    conv => whnf
    refine ⟨_, rfl, kg2, fun x19 ex19 => ?_⟩
    conv => whnf
    refine ⟨fun c20 => ?_, fun c20 => ?_⟩
    · have c20 : (x19).toInt = 0 := c20
      conv => whnf
      exact ⟨trivial, ⟨Nat.le_of_ble_eq_true rfl, Nat.le_of_ble_eq_true rfl⟩, rfl, _, rfl⟩
    · have c20 : ¬ (x19).toInt = 0 := c20
      conv => whnf
      exact ⟨trivial, ⟨Nat.le_of_ble_eq_true rfl, Nat.le_of_ble_eq_true rfl⟩, rfl, _, rfl⟩
set_option maxHeartbeats 4000000 in
set_option maxRecDepth 20000 in
theorem c_Mo_quarrelling {ρ : Nat → Nat} {h : j_H} {m P G R Q : Nat} {s : Nat} (w : j_MX ρ h m P G R Q) (ks : j_kd h s = some (.inr 0)) (ns : (j_ln h s : Int) = 2 * (j_it h R 2).toInt) : j_Ct 208 6 136 0 0 [j_r (some m), j_r (some s)] h (fun v h' => h' = h ∧ ∃ r, v = some (j_i r)) j_no := by
  refine j_intro km_208 (Nat.le_of_ble_eq_true rfl) ?_
  intro J hJ hF
  have wb := w.b
  refine hJ [4] 400 _ _ _ _ _ _ ?_
  have L4_3 : ∀ (k : Nat) (v1 : Int32) (v2 : Int32), 0 ≤ v2.toInt → (2147483647 - v2.toInt) < (k : Int) → J 4 [some (j_r (some m)), some (j_r (some s)), some (j_i v1), some (j_i v2)] [] h 0 0 := by
    intro k
    induction k with
    | zero => intro v1 v2 hn hm; exact absurd hm (by have := j_ub v2; omega)
    | succ k ihB4 =>
      intro v1 v2 hn hm
      have uv1 := j_ub v1; have lv1 := j_lb v1
      have uv2 := j_ub v2; have lv2 := j_lb v2
      refine hJ [4] 400 _ _ _ _ _ _ ?_
      conv => whnf
      refine ⟨_, rfl, w.km, fun o5 eo => ?_⟩
      obtain rfl : o5 = some G := eo.symm.trans w.eG
      conv => whnf
      refine ⟨w.lG.1, rfl, _, _, _, _, _, _, c_AL_size (h := h) w.lG j_Sc.rf j_sf_ok, ⟨Nat.le_of_ble_eq_true rfl, Nat.le_of_ble_eq_true rfl, Nat.le_of_ble_eq_true rfl, Nat.le_of_ble_eq_true rfl⟩, fun _ _ z => False.elim z, ?_⟩
      rintro v9 h9 ⟨e9, rfl⟩
      obtain rfl : h = h9 := e9.symm
      have u6 := j_ub v2
      conv => whnf
      refine ⟨fun c7 => ?_, fun c7 => ?_⟩
      · have c7 : ((j_it h G 2)).toInt ≤ (v2).toInt := c7
        conv => whnf
        exact ⟨trivial, ⟨Nat.le_of_ble_eq_true rfl, Nat.le_of_ble_eq_true rfl⟩, rfl, _, rfl⟩
      · have c7 : ¬ ((j_it h G 2)).toInt ≤ (v2).toInt := c7
        have q8 : (Int32.ofInt (-1)).toInt = -1 := by decide
        conv => whnf
        refine ⟨w.km, rfl, _, _, _, _, _, _, c_Mo_quarrels w ks (by omega), ⟨Nat.le_of_ble_eq_true rfl, Nat.le_of_ble_eq_true rfl, Nat.le_of_ble_eq_true rfl, Nat.le_of_ble_eq_true rfl⟩, fun _ _ z => False.elim z, ?_⟩
        rintro v9 h9 ⟨e9, r9, rfl, zr9⟩
        obtain rfl : h = h9 := e9.symm
        conv => whnf
        refine ⟨fun c10 => ?_, fun c10 => ?_⟩
        · have c10 : (r9).toInt = 0 := c10
          have t11 : (v2 + Int32.ofInt 1).toInt = v2.toInt + 1 := j_inc1 (by omega)
          exact j_use hF (ihB4 _ _ (by omega) (by omega)) (And.intro rfl (And.intro rfl (And.intro rfl (And.intro rfl trivial))))
        · have c10 : ¬ (r9).toInt = 0 := c10
          have t12 : (v2 + Int32.ofInt 1).toInt = v2.toInt + 1 := j_inc1 (by omega)
          exact j_use hF (ihB4 _ _ (by omega) (by omega)) (And.intro rfl (And.intro rfl (And.intro rfl (And.intro rfl trivial))))
  have q13 : (Int32.ofInt (0)).toInt = 0 := by decide
  exact j_use hF (L4_3 4294967296 _ _ (by omega) (by omega)) (And.intro rfl (And.intro rfl (And.intro rfl (And.intro rfl trivial))))
