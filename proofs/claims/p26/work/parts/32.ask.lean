set_option maxHeartbeats 4000000 in
set_option maxRecDepth 20000 in
theorem c_Integer_bitCount {h : j_H} {a : Int32}   : j_Ct 13 0 0 0 0 [j_i a] h (fun v h' => h' = h ∧ ∃ r, v = some (j_i r)) j_no := by
  refine j_intro km_13 (Nat.le_of_ble_eq_true rfl) ?_
  intro J hJ hF
  refine hJ [] 400 _ _ _ _ _ _ ?_
  conv => whnf
  exact ⟨trivial, ⟨Nat.le_of_ble_eq_true rfl, Nat.le_of_ble_eq_true rfl⟩, rfl, _, rfl⟩
set_option maxHeartbeats 4000000 in
set_option maxRecDepth 20000 in
theorem c_G_isWithin {h : j_H} {a : Int32} {b : Int32} {c : Int32}   : j_Ct 109 0 0 0 0 [j_i a, j_i b, j_i c] h (fun v h' => h' = h ∧ ∃ r, v = some (j_i r) ∧ (r = 0 ∨ r = 1)) j_no := by
  refine j_intro km_109 (Nat.le_of_ble_eq_true rfl) ?_
  intro J hJ hF
  refine hJ [] 400 _ _ _ _ _ _ ?_
  have b1 := j_ub b
  have b2 := j_ub a
  conv => whnf
  refine ⟨fun c3 => ?_, fun c3 => ?_⟩
  · skip
    conv => whnf
    exact ⟨Or.inl rfl, ⟨Nat.le_of_ble_eq_true rfl, Nat.le_of_ble_eq_true rfl⟩, rfl, _, rfl, Or.inl rfl⟩
  · skip
    have b4 := j_ub c
    have b5 := j_ub a
    conv => whnf
    refine ⟨fun c6 => ?_, fun c6 => ?_⟩
    · skip
      conv => whnf
      exact ⟨Or.inl rfl, ⟨Nat.le_of_ble_eq_true rfl, Nat.le_of_ble_eq_true rfl⟩, rfl, _, rfl, Or.inl rfl⟩
    · skip
      conv => whnf
      exact ⟨Or.inr rfl, ⟨Nat.le_of_ble_eq_true rfl, Nat.le_of_ble_eq_true rfl⟩, rfl, _, rfl, Or.inr rfl⟩
set_option maxHeartbeats 4000000 in
set_option maxRecDepth 20000 in
theorem c_G_oneIf {h : j_H} {a : Int32}   : j_Ct 125 0 0 0 0 [j_i a] h (fun v h' => h' = h ∧ ∃ r, v = some (j_i r)) j_no := by
  refine j_intro km_125 (Nat.le_of_ble_eq_true rfl) ?_
  intro J hJ hF
  refine hJ [] 400 _ _ _ _ _ _ ?_
  conv => whnf
  refine ⟨fun c1 => ?_, fun c1 => ?_⟩
  · skip
    conv => whnf
    exact ⟨trivial, ⟨Nat.le_of_ble_eq_true rfl, Nat.le_of_ble_eq_true rfl⟩, rfl, _, rfl⟩
  · skip
    conv => whnf
    exact ⟨trivial, ⟨Nat.le_of_ble_eq_true rfl, Nat.le_of_ble_eq_true rfl⟩, rfl, _, rfl⟩
set_option maxHeartbeats 4000000 in
set_option maxRecDepth 20000 in
theorem c_G_isClock {h : j_H} {a : Int32}   : j_Ct 104 0 0 0 0 [j_i a] h (fun v h' => h' = h ∧ ∃ r, v = some (j_i r) ∧ (r = 0 ∨ r = 1)) j_no := by
  refine j_intro km_104 (Nat.le_of_ble_eq_true rfl) ?_
  intro J hJ hF
  refine hJ [] 400 _ _ _ _ _ _ ?_
  conv => whnf
  refine ⟨fun c1 => ?_, fun c1 => ?_⟩
  · skip
    conv => whnf
    exact ⟨Or.inr rfl, ⟨Nat.le_of_ble_eq_true rfl, Nat.le_of_ble_eq_true rfl⟩, rfl, _, rfl, Or.inr rfl⟩
  · skip
    have q2 : ((Int32.ofInt (1))).toInt = 1 := by decide
    have b3 := j_ub a
    conv => whnf
    refine ⟨fun c4 => ?_, fun c4 => ?_⟩
    · skip
      conv => whnf
      exact ⟨Or.inl rfl, ⟨Nat.le_of_ble_eq_true rfl, Nat.le_of_ble_eq_true rfl⟩, rfl, _, rfl, Or.inl rfl⟩
    · skip
      conv => whnf
      exact ⟨Or.inr rfl, ⟨Nat.le_of_ble_eq_true rfl, Nat.le_of_ble_eq_true rfl⟩, rfl, _, rfl, Or.inr rfl⟩
set_option maxHeartbeats 4000000 in
set_option maxRecDepth 20000 in
theorem c_G_runOfPair {h : j_H} {a : Int32} {b : Int32}   : j_Ct 135 0 0 0 0 [j_i a, j_i b] h (fun v h' => h' = h ∧ ∃ r, v = some (j_i r)) j_no := by
  refine j_intro km_135 (Nat.le_of_ble_eq_true rfl) ?_
  intro J hJ hF
  refine hJ [] 400 _ _ _ _ _ _ ?_
  conv => whnf
  refine ⟨fun c1 => ?_, fun c1 => ?_⟩
  · skip
    conv => whnf
    refine ⟨fun c2 => ?_, fun c2 => ?_⟩
    · skip
      conv => whnf
      refine ⟨by decide, ?_⟩
      conv => whnf
      exact ⟨trivial, ⟨Nat.le_of_ble_eq_true rfl, Nat.le_of_ble_eq_true rfl⟩, rfl, _, rfl⟩
    · skip
      conv => whnf
      refine ⟨by decide, ?_⟩
      conv => whnf
      exact ⟨trivial, ⟨Nat.le_of_ble_eq_true rfl, Nat.le_of_ble_eq_true rfl⟩, rfl, _, rfl⟩
  · skip
    conv => whnf
    exact ⟨trivial, ⟨Nat.le_of_ble_eq_true rfl, Nat.le_of_ble_eq_true rfl⟩, rfl, _, rfl⟩
set_option maxHeartbeats 4000000 in
set_option maxRecDepth 20000 in
theorem c_Table_turnedInYear {h : j_H} {a : Int32} {b : Int32}   : j_Ct 164 0 0 0 0 [j_i a, j_i b] h (fun v h' => h' = h ∧ ∃ r, v = some (j_i r)) j_no := by
  refine j_intro km_164 (Nat.le_of_ble_eq_true rfl) ?_
  intro J hJ hF
  refine hJ [] 400 _ _ _ _ _ _ ?_
  conv => whnf
  refine ⟨fun c1 => ?_, fun c1 => ?_⟩
  · skip
    conv => whnf
    exact ⟨trivial, ⟨Nat.le_of_ble_eq_true rfl, Nat.le_of_ble_eq_true rfl⟩, rfl, _, rfl⟩
  · skip
    conv => whnf
    refine ⟨fun z => absurd (j_e0.mp z) (by omega), ?_⟩
    conv => whnf
    exact ⟨trivial, ⟨Nat.le_of_ble_eq_true rfl, Nat.le_of_ble_eq_true rfl⟩, rfl, _, rfl⟩
set_option maxHeartbeats 4000000 in
set_option maxRecDepth 20000 in
theorem c_Table_leftBehind {h : j_H} {a : Int32} {b : Int32} {c : Int32}   : j_Ct 163 1 21 0 0 [j_i a, j_i b, j_i c] h (fun v h' => h' = h ∧ ∃ r, v = some (j_i r)) j_no := by
  refine j_intro km_163 (Nat.le_of_ble_eq_true rfl) ?_
  intro J hJ hF
  refine hJ [5] 400 _ _ _ _ _ _ ?_
  have L5 : ∀ (m : Nat) (v1 : Int32) (v2 : Int32) , 0 ≤ v2.toInt → (2147483647 - v2.toInt) < (m : Int) → J 5 [some (j_i a), some (j_i b), some (j_i c), some (j_i v1), some (j_i v2), none] [] (h) 0 0 := by
    intro m
    induction m with
    | zero => intro v1 v2 hn hm; exact absurd hm (by have := j_ub v2; omega)
    | succ m ih5 =>
      intro v1 v2 hn hm
      have uv1 := j_ub v1; have lv1 := j_lb v1
      have uv2 := j_ub v2; have lv2 := j_lb v2
      refine hJ [5] 400 _ _ _ _ _ _ ?_
      have b3 := j_ub c
      conv => whnf
      refine ⟨fun c4 => ?_, fun c4 => ?_⟩
      · skip
        conv => whnf
        exact ⟨trivial, ⟨Nat.le_of_ble_eq_true rfl, Nat.le_of_ble_eq_true rfl⟩, rfl, _, rfl⟩
      · skip
        conv => whnf
        refine ⟨rfl, _, _, _, _, _, _, c_Table_turnedInYear, ⟨Nat.le_of_ble_eq_true rfl, Nat.le_of_ble_eq_true rfl, Nat.le_of_ble_eq_true rfl, Nat.le_of_ble_eq_true rfl⟩, fun _ _ z => False.elim z, ?_⟩
        rintro v9 h9 ⟨rfl, r5, rfl⟩
        conv => whnf
        refine ⟨fun c6 => ?_, fun c6 => ?_⟩
        · skip
          have t7 : (v2 + Int32.ofInt 1).toInt = v2.toInt + 1 := j_inc1 (by omega)
          exact j_use hF (ih5 _ _ (by omega) (by omega)) (And.intro rfl (And.intro rfl (And.intro rfl (And.intro rfl (And.intro rfl trivial)))))
        · skip
          conv => whnf
          exact ⟨trivial, ⟨Nat.le_of_ble_eq_true rfl, Nat.le_of_ble_eq_true rfl⟩, rfl, _, rfl⟩
  have q8 : ((Int32.ofInt (0))).toInt = 0 := by decide
  exact j_use hF (L5 4294967296 _ _ (by omega) (by omega)) (And.intro rfl (And.intro rfl (And.intro rfl (And.intro rfl (And.intro rfl trivial)))))
set_option maxHeartbeats 4000000 in
set_option maxRecDepth 20000 in
theorem c_Table_earlyBy {h : j_H} {a : Int32} {b : Int32} {c : Int32} {d : Int32}   : j_Ct 161 1 21 0 0 [j_i a, j_i b, j_i c, j_i d] h (fun v h' => h' = h ∧ ∃ r, v = some (j_i r)) j_no := by
  refine j_intro km_161 (Nat.le_of_ble_eq_true rfl) ?_
  intro J hJ hF
  refine hJ [20] 400 _ _ _ _ _ _ ?_
  conv => whnf
  refine ⟨⟨Nat.le_of_ble_eq_true rfl, Nat.le_of_ble_eq_true rfl, Nat.le_of_ble_eq_true rfl, Nat.le_of_ble_eq_true rfl⟩, ?_⟩
  have L20 : ∀ (m : Nat) (v1 : Int32) (v2 : Int32) (v3 : Int32) , 0 ≤ v3.toInt → (2147483647 - v3.toInt) < (m : Int) → J 20 [some (j_i a), some (j_i b), some (j_i c), some (j_i d), some (j_i v1), some (j_i v2), some (j_i v3), none] [] (h) 0 0 := by
    intro m
    induction m with
    | zero => intro v1 v2 v3 hn hm; exact absurd hm (by have := j_ub v3; omega)
    | succ m ih20 =>
      intro v1 v2 v3 hn hm
      have uv1 := j_ub v1; have lv1 := j_lb v1
      have uv2 := j_ub v2; have lv2 := j_lb v2
      have uv3 := j_ub v3; have lv3 := j_lb v3
      refine hJ [20] 400 _ _ _ _ _ _ ?_
      have q4 : ((Int16.ofInt (3000)).toInt32).toInt = 3000 := by decide
      conv => whnf
      refine ⟨fun c5 => ?_, fun c5 => ?_⟩
      · skip
        conv => whnf
        exact ⟨trivial, ⟨Nat.le_of_ble_eq_true rfl, Nat.le_of_ble_eq_true rfl⟩, rfl, _, rfl⟩
      · skip
        conv => whnf
        refine ⟨fun c6 => ?_, fun c6 => ?_⟩
        · skip
          conv => whnf
          refine ⟨rfl, _, _, _, _, _, _, c_Table_turnedInYear, ⟨Nat.le_of_ble_eq_true rfl, Nat.le_of_ble_eq_true rfl, Nat.le_of_ble_eq_true rfl, Nat.le_of_ble_eq_true rfl⟩, fun _ _ z => False.elim z, ?_⟩
          rintro v9 h9 ⟨rfl, r7, rfl⟩
          conv => whnf
          refine ⟨fun c8 => ?_, fun c8 => ?_⟩
          · skip
            have t9 : (v3 + Int32.ofInt 1).toInt = v3.toInt + 1 := j_inc1 (by omega)
            exact j_use hF (ih20 _ _ _ (by omega) (by omega)) (And.intro rfl (And.intro rfl (And.intro rfl (And.intro rfl (And.intro rfl (And.intro rfl (And.intro rfl trivial)))))))
          · skip
            conv => whnf
            exact ⟨trivial, ⟨Nat.le_of_ble_eq_true rfl, Nat.le_of_ble_eq_true rfl⟩, rfl, _, rfl⟩
        · skip
          conv => whnf
          exact ⟨trivial, ⟨Nat.le_of_ble_eq_true rfl, Nat.le_of_ble_eq_true rfl⟩, rfl, _, rfl⟩
  have q10 : ((Int32.ofInt (0))).toInt = 0 := by decide
  exact j_use hF (L20 4294967296 _ _ _ (by omega) (by omega)) (And.intro rfl (And.intro rfl (And.intro rfl (And.intro rfl (And.intro rfl (And.intro rfl (And.intro rfl trivial)))))))
set_option maxHeartbeats 4000000 in
set_option maxRecDepth 20000 in
theorem c_Table_lateBy {h : j_H} {a : Int32} {b : Int32} {c : Int32} {d : Int32}   : j_Ct 162 1 21 0 0 [j_i a, j_i b, j_i c, j_i d] h (fun v h' => h' = h ∧ ∃ r, v = some (j_i r)) j_no := by
  refine j_intro km_162 (Nat.le_of_ble_eq_true rfl) ?_
  intro J hJ hF
  refine hJ [20] 400 _ _ _ _ _ _ ?_
  conv => whnf
  refine ⟨⟨Nat.le_of_ble_eq_true rfl, Nat.le_of_ble_eq_true rfl, Nat.le_of_ble_eq_true rfl, Nat.le_of_ble_eq_true rfl⟩, ?_⟩
  have L20 : ∀ (m : Nat) (v1 : Int32) (v2 : Int32) (v3 : Int32) , 0 ≤ v3.toInt → (2147483647 - v3.toInt) < (m : Int) → J 20 [some (j_i a), some (j_i b), some (j_i c), some (j_i d), some (j_i v1), some (j_i v2), some (j_i v3), none] [] (h) 0 0 := by
    intro m
    induction m with
    | zero => intro v1 v2 v3 hn hm; exact absurd hm (by have := j_ub v3; omega)
    | succ m ih20 =>
      intro v1 v2 v3 hn hm
      have uv1 := j_ub v1; have lv1 := j_lb v1
      have uv2 := j_ub v2; have lv2 := j_lb v2
      have uv3 := j_ub v3; have lv3 := j_lb v3
      refine hJ [20] 400 _ _ _ _ _ _ ?_
      have q4 : ((Int16.ofInt (3000)).toInt32).toInt = 3000 := by decide
      conv => whnf
      refine ⟨fun c5 => ?_, fun c5 => ?_⟩
      · skip
        conv => whnf
        exact ⟨trivial, ⟨Nat.le_of_ble_eq_true rfl, Nat.le_of_ble_eq_true rfl⟩, rfl, _, rfl⟩
      · skip
        conv => whnf
        refine ⟨rfl, _, _, _, _, _, _, c_Table_turnedInYear, ⟨Nat.le_of_ble_eq_true rfl, Nat.le_of_ble_eq_true rfl, Nat.le_of_ble_eq_true rfl, Nat.le_of_ble_eq_true rfl⟩, fun _ _ z => False.elim z, ?_⟩
        rintro v9 h9 ⟨rfl, r6, rfl⟩
        conv => whnf
        refine ⟨fun c7 => ?_, fun c7 => ?_⟩
        · skip
          conv => whnf
          refine ⟨fun c8 => ?_, fun c8 => ?_⟩
          · skip
            have t9 : (v3 + Int32.ofInt 1).toInt = v3.toInt + 1 := j_inc1 (by omega)
            exact j_use hF (ih20 _ _ _ (by omega) (by omega)) (And.intro rfl (And.intro rfl (And.intro rfl (And.intro rfl (And.intro rfl (And.intro rfl (And.intro rfl trivial)))))))
          · skip
            conv => whnf
            exact ⟨trivial, ⟨Nat.le_of_ble_eq_true rfl, Nat.le_of_ble_eq_true rfl⟩, rfl, _, rfl⟩
        · skip
          conv => whnf
          exact ⟨trivial, ⟨Nat.le_of_ble_eq_true rfl, Nat.le_of_ble_eq_true rfl⟩, rfl, _, rfl⟩
  have q10 : ((Int32.ofInt (0))).toInt = 0 := by decide
  exact j_use hF (L20 4294967296 _ _ _ (by omega) (by omega)) (And.intro rfl (And.intro rfl (And.intro rfl (And.intro rfl (And.intro rfl (And.intro rfl (And.intro rfl trivial)))))))
set_option maxHeartbeats 4000000 in
set_option maxRecDepth 20000 in
theorem c_Motes_areAllThere {h : j_H} {y : Nat}  (ky : j_kd h y = some (.inl 5)) : j_Ct 147 0 0 0 0 [j_r (some y)] h (fun v h' => h' = h ∧ ∃ r, v = some (j_i r) ∧ (r = 0 ∨ r = 1)) j_no := by
  refine j_intro km_147 (Nat.le_of_ble_eq_true rfl) ?_
  intro J hJ hF
  refine hJ [] 400 _ _ _ _ _ _ ?_
  conv => whnf
  refine ⟨_, rfl, ky, fun x1 ex1 => ?_⟩
  conv => whnf
  refine ⟨_, rfl, ky, fun x2 ex2 => ?_⟩
  conv => whnf
  refine ⟨_, rfl, ky, fun x3 ex3 => ?_⟩
  conv => whnf
  refine ⟨_, rfl, ky, fun x4 ex4 => ?_⟩
  have b5 := j_ub x4
  conv => whnf
  refine ⟨fun c6 => ?_, fun c6 => ?_⟩
  · skip
    conv => whnf
    exact ⟨Or.inl rfl, ⟨Nat.le_of_ble_eq_true rfl, Nat.le_of_ble_eq_true rfl⟩, rfl, _, rfl, Or.inl rfl⟩
  · skip
    conv => whnf
    exact ⟨Or.inr rfl, ⟨Nat.le_of_ble_eq_true rfl, Nat.le_of_ble_eq_true rfl⟩, rfl, _, rfl, Or.inr rfl⟩
set_option maxHeartbeats 4000000 in
set_option maxRecDepth 20000 in
theorem c_Grain_bit {h : j_H} {y : Nat}  (ky : j_kd h y = some (.inl 4)) : j_Ct 144 0 0 0 0 [j_r (some y)] h (fun v h' => h' = h ∧ ∃ r, v = some (j_i r)) j_no := by
  refine j_intro km_144 (Nat.le_of_ble_eq_true rfl) ?_
  intro J hJ hF
  refine hJ [] 400 _ _ _ _ _ _ ?_
  conv => whnf
  refine ⟨_, rfl, ky, fun x1 ex1 => ?_⟩
  conv => whnf
  exact ⟨trivial, ⟨Nat.le_of_ble_eq_true rfl, Nat.le_of_ble_eq_true rfl⟩, rfl, _, rfl⟩
set_option maxHeartbeats 4000000 in
set_option maxRecDepth 20000 in
theorem c_Run_bit {h : j_H} {y : Nat}  (ky : j_kd h y = some (.inl 7)) : j_Ct 153 0 0 0 0 [j_r (some y)] h (fun v h' => h' = h ∧ ∃ r, v = some (j_i r)) j_no := by
  refine j_intro km_153 (Nat.le_of_ble_eq_true rfl) ?_
  intro J hJ hF
  refine hJ [] 400 _ _ _ _ _ _ ?_
  conv => whnf
  refine ⟨_, rfl, ky, fun x1 ex1 => ?_⟩
  conv => whnf
  exact ⟨trivial, ⟨Nat.le_of_ble_eq_true rfl, Nat.le_of_ble_eq_true rfl⟩, rfl, _, rfl⟩
set_option maxHeartbeats 4000000 in
set_option maxRecDepth 20000 in
theorem c_Run_earlyIn {h : j_H} {y : Nat} {a : Int32}  (ky : j_kd h y = some (.inl 7)) : j_Ct 156 0 0 0 0 [j_r (some y), j_i a] h (fun v h' => h' = h ∧ ∃ r, v = some (j_i r)) j_no := by
  refine j_intro km_156 (Nat.le_of_ble_eq_true rfl) ?_
  intro J hJ hF
  refine hJ [] 400 _ _ _ _ _ _ ?_
  conv => whnf
  refine ⟨_, rfl, ky, fun x1 ex1 => ?_⟩
  conv => whnf
  refine ⟨_, rfl, ky, fun x2 ex2 => ?_⟩
  conv => whnf
  exact ⟨trivial, ⟨Nat.le_of_ble_eq_true rfl, Nat.le_of_ble_eq_true rfl⟩, rfl, _, rfl⟩
set_option maxHeartbeats 4000000 in
set_option maxRecDepth 20000 in
theorem c_Run_lateIn {h : j_H} {y : Nat} {a : Int32}  (ky : j_kd h y = some (.inl 7)) : j_Ct 157 0 0 0 0 [j_r (some y), j_i a] h (fun v h' => h' = h ∧ ∃ r, v = some (j_i r)) j_no := by
  refine j_intro km_157 (Nat.le_of_ble_eq_true rfl) ?_
  intro J hJ hF
  refine hJ [] 400 _ _ _ _ _ _ ?_
  conv => whnf
  refine ⟨_, rfl, ky, fun x1 ex1 => ?_⟩
  conv => whnf
  refine ⟨_, rfl, ky, fun x2 ex2 => ?_⟩
  conv => whnf
  exact ⟨trivial, ⟨Nat.le_of_ble_eq_true rfl, Nat.le_of_ble_eq_true rfl⟩, rfl, _, rfl⟩
set_option maxHeartbeats 4000000 in
set_option maxRecDepth 20000 in
theorem c_Run_tellsOf {h : j_H} {y : Nat} {z : Nat} {a : Int32}  (ky : j_kd h y = some (.inl 7)) (kz : j_kd h z = some (.inl 4)) : j_Ct 159 0 0 0 0 [j_r (some y), j_r (some z), j_i a] h (fun v h' => h' = h ∧ ∃ r, v = some (j_i r) ∧ (r = 0 ∨ r = 1)) j_no := by
  refine j_intro km_159 (Nat.le_of_ble_eq_true rfl) ?_
  intro J hJ hF
  refine hJ [] 400 _ _ _ _ _ _ ?_
  conv => whnf
  refine ⟨_, rfl, ky, fun x1 ex1 => ?_⟩
  conv => whnf
  refine ⟨fun c2 => ?_, fun c2 => ?_⟩
  · skip
    conv => whnf
    exact ⟨Or.inl rfl, ⟨Nat.le_of_ble_eq_true rfl, Nat.le_of_ble_eq_true rfl⟩, rfl, _, rfl, Or.inl rfl⟩
  · skip
    conv => whnf
    refine ⟨_, rfl, ky, fun o3 eo => ?_⟩
    conv => whnf
    refine ⟨fun c4 => ?_, fun c4 => ?_⟩
    · skip
      have q5 : ((Int32.ofInt (-1))).toInt = -1 := by decide
      have b6 := j_ub a
      conv => whnf
      refine ⟨fun c7 => ?_, fun c7 => ?_⟩
      · skip
        conv => whnf
        exact ⟨Or.inr rfl, ⟨Nat.le_of_ble_eq_true rfl, Nat.le_of_ble_eq_true rfl⟩, rfl, _, rfl, Or.inr rfl⟩
      · skip
        conv => whnf
        refine ⟨_, rfl, ky, fun x8 ex8 => ?_⟩
        have b9 := j_ub a
        have b10 := j_ub x8
        conv => whnf
        refine ⟨fun c11 => ?_, fun c11 => ?_⟩
        · skip
          conv => whnf
          exact ⟨Or.inl rfl, ⟨Nat.le_of_ble_eq_true rfl, Nat.le_of_ble_eq_true rfl⟩, rfl, _, rfl, Or.inl rfl⟩
        · skip
          conv => whnf
          exact ⟨Or.inr rfl, ⟨Nat.le_of_ble_eq_true rfl, Nat.le_of_ble_eq_true rfl⟩, rfl, _, rfl, Or.inr rfl⟩
    · skip
      conv => whnf
      exact ⟨Or.inl rfl, ⟨Nat.le_of_ble_eq_true rfl, Nat.le_of_ble_eq_true rfl⟩, rfl, _, rfl, Or.inl rfl⟩
set_option maxHeartbeats 4000000 in
set_option maxRecDepth 20000 in
theorem c_Run_misses {h : j_H} {y : Nat} {z : Nat} {a : Int32}  (ky : j_kd h y = some (.inl 7)) (kz : j_kd h z = some (.inl 7)) : j_Ct 158 1 21 0 0 [j_r (some y), j_r (some z), j_i a] h (fun v h' => h' = h ∧ ∃ r, v = some (j_i r) ∧ (r = 0 ∨ r = 1)) j_no := by
  refine j_intro km_158 (Nat.le_of_ble_eq_true rfl) ?_
  intro J hJ hF
  refine hJ [] 400 _ _ _ _ _ _ ?_
  conv => whnf
  refine ⟨ky, rfl, _, _, _, _, _, _, c_Run_earlyIn ky, ⟨Nat.le_of_ble_eq_true rfl, Nat.le_of_ble_eq_true rfl, Nat.le_of_ble_eq_true rfl, Nat.le_of_ble_eq_true rfl⟩, fun _ _ z => False.elim z, ?_⟩
  rintro v9 h9 ⟨rfl, r1, rfl⟩
  conv => whnf
  refine ⟨kz, rfl, _, _, _, _, _, _, c_Run_lateIn kz, ⟨Nat.le_of_ble_eq_true rfl, Nat.le_of_ble_eq_true rfl, Nat.le_of_ble_eq_true rfl, Nat.le_of_ble_eq_true rfl⟩, fun _ _ z => False.elim z, ?_⟩
  rintro v9 h9 ⟨rfl, r2, rfl⟩
  have b3 := j_ub r2
  have b4 := j_ub r1
  conv => whnf
  refine ⟨fun c5 => ?_, fun c5 => ?_⟩
  · skip
    conv => whnf
    exact ⟨Or.inr rfl, ⟨Nat.le_of_ble_eq_true rfl, Nat.le_of_ble_eq_true rfl⟩, rfl, _, rfl, Or.inr rfl⟩
  · skip
    conv => whnf
    refine ⟨kz, rfl, _, _, _, _, _, _, c_Run_earlyIn kz, ⟨Nat.le_of_ble_eq_true rfl, Nat.le_of_ble_eq_true rfl, Nat.le_of_ble_eq_true rfl, Nat.le_of_ble_eq_true rfl⟩, fun _ _ z => False.elim z, ?_⟩
    rintro v9 h9 ⟨rfl, r6, rfl⟩
    conv => whnf
    refine ⟨ky, rfl, _, _, _, _, _, _, c_Run_lateIn ky, ⟨Nat.le_of_ble_eq_true rfl, Nat.le_of_ble_eq_true rfl, Nat.le_of_ble_eq_true rfl, Nat.le_of_ble_eq_true rfl⟩, fun _ _ z => False.elim z, ?_⟩
    rintro v9 h9 ⟨rfl, r7, rfl⟩
    have b8 := j_ub r7
    have b9 := j_ub r6
    conv => whnf
    refine ⟨fun c10 => ?_, fun c10 => ?_⟩
    · skip
      conv => whnf
      exact ⟨Or.inl rfl, ⟨Nat.le_of_ble_eq_true rfl, Nat.le_of_ble_eq_true rfl⟩, rfl, _, rfl, Or.inl rfl⟩
    · skip
      conv => whnf
      exact ⟨Or.inr rfl, ⟨Nat.le_of_ble_eq_true rfl, Nat.le_of_ble_eq_true rfl⟩, rfl, _, rfl, Or.inr rfl⟩
set_option maxHeartbeats 4000000 in
set_option maxRecDepth 20000 in
theorem c_Run_wouldMissItselfBy {h : j_H} {y : Nat} {a : Int32}  (ky : j_kd h y = some (.inl 7)) : j_Ct 160 2 48 0 0 [j_r (some y), j_i a] h (fun v h' => h' = h ∧ ∃ r, v = some (j_i r) ∧ (r = 0 ∨ r = 1)) j_no := by
  refine j_intro km_160 (Nat.le_of_ble_eq_true rfl) ?_
  intro J hJ hF
  refine hJ [] 400 _ _ _ _ _ _ ?_
  conv => whnf
  refine ⟨_, rfl, ky, fun x1 ex1 => ?_⟩
  conv => whnf
  refine ⟨_, rfl, ky, fun x2 ex2 => ?_⟩
  conv => whnf
  refine ⟨_, rfl, ky, fun x3 ex3 => ?_⟩
  conv => whnf
  refine ⟨rfl, _, _, _, _, _, _, c_Table_earlyBy, ⟨Nat.le_of_ble_eq_true rfl, Nat.le_of_ble_eq_true rfl, Nat.le_of_ble_eq_true rfl, Nat.le_of_ble_eq_true rfl⟩, fun _ _ z => False.elim z, ?_⟩
  rintro v9 h9 ⟨rfl, r4, rfl⟩
  conv => whnf
  refine ⟨_, rfl, ky, fun x5 ex5 => ?_⟩
  conv => whnf
  refine ⟨_, rfl, ky, fun x6 ex6 => ?_⟩
  conv => whnf
  refine ⟨_, rfl, ky, fun x7 ex7 => ?_⟩
  conv => whnf
  refine ⟨rfl, _, _, _, _, _, _, c_Table_lateBy, ⟨Nat.le_of_ble_eq_true rfl, Nat.le_of_ble_eq_true rfl, Nat.le_of_ble_eq_true rfl, Nat.le_of_ble_eq_true rfl⟩, fun _ _ z => False.elim z, ?_⟩
  rintro v9 h9 ⟨rfl, r8, rfl⟩
  conv => whnf
  refine ⟨_, rfl, ky, fun x9 ex9 => ?_⟩
  have b10 := j_ub r8
  have b11 := j_ub x9
  conv => whnf
  refine ⟨fun c12 => ?_, fun c12 => ?_⟩
  · skip
    conv => whnf
    exact ⟨Or.inr rfl, ⟨Nat.le_of_ble_eq_true rfl, Nat.le_of_ble_eq_true rfl⟩, rfl, _, rfl, Or.inr rfl⟩
  · skip
    conv => whnf
    refine ⟨_, rfl, ky, fun x13 ex13 => ?_⟩
    have b14 := j_ub x13
    have b15 := j_ub r4
    conv => whnf
    refine ⟨fun c16 => ?_, fun c16 => ?_⟩
    · skip
      conv => whnf
      exact ⟨Or.inl rfl, ⟨Nat.le_of_ble_eq_true rfl, Nat.le_of_ble_eq_true rfl⟩, rfl, _, rfl, Or.inl rfl⟩
    · skip
      conv => whnf
      exact ⟨Or.inr rfl, ⟨Nat.le_of_ble_eq_true rfl, Nat.le_of_ble_eq_true rfl⟩, rfl, _, rfl, Or.inr rfl⟩
set_option maxHeartbeats 4000000 in
set_option maxRecDepth 20000 in
theorem c_Run_countMissed {h : j_H} {it : Nat → Nat → Int32} {y : Nat} (hG : j_G h) (sc : j_Sc j_sf h it) (ky : j_kd h y = some (.inl 7)) : j_Ct 154 1 20 0 0 [j_r (some y)] (j_wi h it) (fun v h' => ∃ it', h' = j_wi h it' ∧ j_Sc j_sf h it' ∧ ∃ r, v = some (j_i r)) j_no := by
  refine j_intro km_154 (Nat.le_of_ble_eq_true rfl) ?_
  intro J hJ hF
  refine hJ [] 400 _ _ _ _ _ _ ?_
  conv => whnf
  refine ⟨_, rfl, ky, fun x1 ex1 => ?_⟩
  conv => whnf
  refine ⟨_, rfl, ky, fun o2 eo => ?_⟩
  obtain ⟨b3, eb3, kb3⟩ := hG.2.2.1 _ ky
  obtain rfl : o2 = some b3 := eo.symm.trans eb3
  conv => whnf
  refine ⟨_, rfl, kb3, fun x4 ex4 => ?_⟩
  conv => whnf
  refine ⟨rfl, _, _, _, _, _, _, c_Integer_bitCount, ⟨Nat.le_of_ble_eq_true rfl, Nat.le_of_ble_eq_true rfl, Nat.le_of_ble_eq_true rfl, Nat.le_of_ble_eq_true rfl⟩, fun _ _ z => False.elim z, ?_⟩
  rintro v9 h9 ⟨rfl, r5, rfl⟩
  conv => whnf
  exact ⟨trivial, ⟨Nat.le_of_ble_eq_true rfl, Nat.le_of_ble_eq_true rfl⟩, _, rfl, sc, _, rfl⟩
set_option maxHeartbeats 4000000 in
set_option maxRecDepth 20000 in
theorem c_G_isGrain {h : j_H} {it : Nat → Nat → Int32} {x : Nat} {a : Int32} (hW : j_WF h x) (sc : j_Sc j_sf h it)  : j_Ct 105 1 20 0 0 [j_r (some x), j_i a] (j_wi h it) (fun v h' => ∃ it', h' = j_wi h it' ∧ j_Sc j_sf h it' ∧ ∃ r, v = some (j_i r) ∧ (r = 0 ∨ r = 1) ∧ ∀ L, j_rf h x 0 = some L → r.toInt = 0 ∨ (0 ≤ a.toInt ∧ a.toInt < (j_it h L 2).toInt)) j_no := by
  refine j_intro km_105 (Nat.le_of_ble_eq_true rfl) ?_
  intro J hJ hF
  obtain ⟨kx, hG, L0, L1, L2, e0, l0, e1, l1, e2, l2, ap, pn⟩ := id hW
  have b0 := l0.2.1; have b1 := l1.2.1; have b2 := l2.2.1; have d0 := l0.2.2.1; have d1 := l1.2.2.1; have d2 := l2.2.2.1
  refine hJ [] 400 _ _ _ _ _ _ ?_
  conv => whnf
  refine ⟨fun c1 => ?_, fun c1 => ?_⟩
  · skip
    conv => whnf
    exact ⟨Or.inl rfl, ⟨Nat.le_of_ble_eq_true rfl, Nat.le_of_ble_eq_true rfl⟩, _, rfl, sc, _, rfl, Or.inl rfl, fun L eL => by obtain rfl : L0 = L := Option.some.inj (e0.symm.trans eL); have y0 : (Int32.ofInt 0).toInt = 0 := (by decide); omega⟩
  · skip
    conv => whnf
    refine ⟨_, rfl, kx, fun o2 eo => ?_⟩
    obtain rfl : o2 = some L0 := eo.symm.trans e0
    conv => whnf
    refine ⟨l0.1, rfl, _, _, _, _, _, _, c_AL_size (h := h) l0 sc j_sf_ok, ⟨Nat.le_of_ble_eq_true rfl, Nat.le_of_ble_eq_true rfl, Nat.le_of_ble_eq_true rfl, Nat.le_of_ble_eq_true rfl⟩, fun _ _ z => False.elim z, ?_⟩
    rintro v9 h9 ⟨rfl, rfl⟩
    have b3 := j_ub a
    conv => whnf
    refine ⟨fun c4 => ?_, fun c4 => ?_⟩
    · skip
      conv => whnf
      exact ⟨Or.inl rfl, ⟨Nat.le_of_ble_eq_true rfl, Nat.le_of_ble_eq_true rfl⟩, _, rfl, sc, _, rfl, Or.inl rfl, fun L eL => by obtain rfl : L0 = L := Option.some.inj (e0.symm.trans eL); have y0 : (Int32.ofInt 0).toInt = 0 := (by decide); omega⟩
    · skip
      conv => whnf
      exact ⟨Or.inr rfl, ⟨Nat.le_of_ble_eq_true rfl, Nat.le_of_ble_eq_true rfl⟩, _, rfl, sc, _, rfl, Or.inr rfl, fun L eL => by obtain rfl : L0 = L := Option.some.inj (e0.symm.trans eL); have y0 : (Int32.ofInt 0).toInt = 0 := (by decide); omega⟩
set_option maxHeartbeats 4000000 in
set_option maxRecDepth 20000 in
theorem c_G_isRun {h : j_H} {it : Nat → Nat → Int32} {x : Nat} {a : Int32} (hW : j_WF h x) (sc : j_Sc j_sf h it)  : j_Ct 107 1 20 0 0 [j_r (some x), j_i a] (j_wi h it) (fun v h' => ∃ it', h' = j_wi h it' ∧ j_Sc j_sf h it' ∧ ∃ r, v = some (j_i r) ∧ (r = 0 ∨ r = 1) ∧ ∀ L, j_rf h x 1 = some L → r.toInt = 0 ∨ (0 ≤ a.toInt ∧ a.toInt < (j_it h L 2).toInt)) j_no := by
  refine j_intro km_107 (Nat.le_of_ble_eq_true rfl) ?_
  intro J hJ hF
  obtain ⟨kx, hG, L0, L1, L2, e0, l0, e1, l1, e2, l2, ap, pn⟩ := id hW
  have b0 := l0.2.1; have b1 := l1.2.1; have b2 := l2.2.1; have d0 := l0.2.2.1; have d1 := l1.2.2.1; have d2 := l2.2.2.1
  refine hJ [] 400 _ _ _ _ _ _ ?_
  conv => whnf
  refine ⟨fun c1 => ?_, fun c1 => ?_⟩
  · skip
    conv => whnf
    exact ⟨Or.inl rfl, ⟨Nat.le_of_ble_eq_true rfl, Nat.le_of_ble_eq_true rfl⟩, _, rfl, sc, _, rfl, Or.inl rfl, fun L eL => by obtain rfl : L1 = L := Option.some.inj (e1.symm.trans eL); have y0 : (Int32.ofInt 0).toInt = 0 := (by decide); omega⟩
  · skip
    conv => whnf
    refine ⟨_, rfl, kx, fun o2 eo => ?_⟩
    obtain rfl : o2 = some L1 := eo.symm.trans e1
    conv => whnf
    refine ⟨l1.1, rfl, _, _, _, _, _, _, c_AL_size (h := h) l1 sc j_sf_ok, ⟨Nat.le_of_ble_eq_true rfl, Nat.le_of_ble_eq_true rfl, Nat.le_of_ble_eq_true rfl, Nat.le_of_ble_eq_true rfl⟩, fun _ _ z => False.elim z, ?_⟩
    rintro v9 h9 ⟨rfl, rfl⟩
    have b3 := j_ub a
    conv => whnf
    refine ⟨fun c4 => ?_, fun c4 => ?_⟩
    · skip
      conv => whnf
      exact ⟨Or.inl rfl, ⟨Nat.le_of_ble_eq_true rfl, Nat.le_of_ble_eq_true rfl⟩, _, rfl, sc, _, rfl, Or.inl rfl, fun L eL => by obtain rfl : L1 = L := Option.some.inj (e1.symm.trans eL); have y0 : (Int32.ofInt 0).toInt = 0 := (by decide); omega⟩
    · skip
      conv => whnf
      exact ⟨Or.inr rfl, ⟨Nat.le_of_ble_eq_true rfl, Nat.le_of_ble_eq_true rfl⟩, _, rfl, sc, _, rfl, Or.inr rfl, fun L eL => by obtain rfl : L1 = L := Option.some.inj (e1.symm.trans eL); have y0 : (Int32.ofInt 0).toInt = 0 := (by decide); omega⟩
set_option maxHeartbeats 4000000 in
set_option maxRecDepth 20000 in
theorem c_G_isPrint {h : j_H} {it : Nat → Nat → Int32} {x : Nat} {a : Int32} (hW : j_WF h x) (sc : j_Sc j_sf h it)  : j_Ct 106 1 20 0 0 [j_r (some x), j_i a] (j_wi h it) (fun v h' => ∃ it', h' = j_wi h it' ∧ j_Sc j_sf h it' ∧ ∃ r, v = some (j_i r) ∧ (r = 0 ∨ r = 1) ∧ ∀ L, j_rf h x 2 = some L → r.toInt = 0 ∨ (0 ≤ a.toInt ∧ a.toInt < (j_it h L 2).toInt)) j_no := by
  refine j_intro km_106 (Nat.le_of_ble_eq_true rfl) ?_
  intro J hJ hF
  obtain ⟨kx, hG, L0, L1, L2, e0, l0, e1, l1, e2, l2, ap, pn⟩ := id hW
  have b0 := l0.2.1; have b1 := l1.2.1; have b2 := l2.2.1; have d0 := l0.2.2.1; have d1 := l1.2.2.1; have d2 := l2.2.2.1
  refine hJ [] 400 _ _ _ _ _ _ ?_
  conv => whnf
  refine ⟨fun c1 => ?_, fun c1 => ?_⟩
  · skip
    conv => whnf
    exact ⟨Or.inl rfl, ⟨Nat.le_of_ble_eq_true rfl, Nat.le_of_ble_eq_true rfl⟩, _, rfl, sc, _, rfl, Or.inl rfl, fun L eL => by obtain rfl : L2 = L := Option.some.inj (e2.symm.trans eL); have y0 : (Int32.ofInt 0).toInt = 0 := (by decide); omega⟩
  · skip
    conv => whnf
    refine ⟨_, rfl, kx, fun o2 eo => ?_⟩
    obtain rfl : o2 = some L2 := eo.symm.trans e2
    conv => whnf
    refine ⟨l2.1, rfl, _, _, _, _, _, _, c_AL_size (h := h) l2 sc j_sf_ok, ⟨Nat.le_of_ble_eq_true rfl, Nat.le_of_ble_eq_true rfl, Nat.le_of_ble_eq_true rfl, Nat.le_of_ble_eq_true rfl⟩, fun _ _ z => False.elim z, ?_⟩
    rintro v9 h9 ⟨rfl, rfl⟩
    have b3 := j_ub a
    conv => whnf
    refine ⟨fun c4 => ?_, fun c4 => ?_⟩
    · skip
      conv => whnf
      exact ⟨Or.inl rfl, ⟨Nat.le_of_ble_eq_true rfl, Nat.le_of_ble_eq_true rfl⟩, _, rfl, sc, _, rfl, Or.inl rfl, fun L eL => by obtain rfl : L2 = L := Option.some.inj (e2.symm.trans eL); have y0 : (Int32.ofInt 0).toInt = 0 := (by decide); omega⟩
    · skip
      conv => whnf
      exact ⟨Or.inr rfl, ⟨Nat.le_of_ble_eq_true rfl, Nat.le_of_ble_eq_true rfl⟩, _, rfl, sc, _, rfl, Or.inr rfl, fun L eL => by obtain rfl : L2 = L := Option.some.inj (e2.symm.trans eL); have y0 : (Int32.ofInt 0).toInt = 0 := (by decide); omega⟩
set_option maxHeartbeats 4000000 in
set_option maxRecDepth 20000 in
theorem c_G_paceOf {h : j_H} {x : Nat} {a : Int32}  (kx : j_kd h x = some (.inl 8)) : j_Ct 128 0 0 0 0 [j_r (some x), j_i a] h (fun v h' => h' = h ∧ ∃ r, v = some (j_i r)) j_no := by
  refine j_intro km_128 (Nat.le_of_ble_eq_true rfl) ?_
  intro J hJ hF
  refine hJ [] 400 _ _ _ _ _ _ ?_
  conv => whnf
  refine ⟨fun c1 => ?_, fun c1 => ?_⟩
  · skip
    conv => whnf
    refine ⟨_, rfl, kx, fun x2 ex2 => ?_⟩
    conv => whnf
    exact ⟨trivial, ⟨Nat.le_of_ble_eq_true rfl, Nat.le_of_ble_eq_true rfl⟩, rfl, _, rfl⟩
  · skip
    conv => whnf
    refine ⟨_, rfl, kx, fun x3 ex3 => ?_⟩
    conv => whnf
    exact ⟨trivial, ⟨Nat.le_of_ble_eq_true rfl, Nat.le_of_ble_eq_true rfl⟩, rfl, _, rfl⟩
