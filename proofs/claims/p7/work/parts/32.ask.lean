set_option maxHeartbeats 4000000 in
set_option maxRecDepth 20000 in
theorem c_Integer_bitCount {h : j_H} {a : Int32}   : j_Ct 13 0 0 0 0 [j_i a] h (fun v h' => h' = h ∧ ∃ r, v = some (j_i r)) j_no := by
  refine j_intro km_13 (Nat.le_of_ble_eq_true rfl) ?_
  intro J hJ hF
  refine hJ [] 400 _ _ _ _ _ _ ?_
  conv => whnf
  exact ⟨trivial, ⟨Nat.le_of_ble_eq_true rfl, Nat.le_of_ble_eq_true rfl⟩, rfl, _, rfl⟩
set_option maxHeartbeats 4000000 in
set_option maxRecDepth 20000 in
theorem c_G_isWithin {h : j_H} {a : Int32} {b : Int32} {c : Int32}   : j_Ct 109 0 0 0 0 [j_i a, j_i b, j_i c] h (fun v h' => h' = h ∧ ∃ r, v = some (j_i r) ∧ (r = 0 ∨ r = 1)) j_no := by
  refine j_intro km_109 (Nat.le_of_ble_eq_true rfl) ?_
  intro J hJ hF
  refine hJ [] 400 _ _ _ _ _ _ ?_
  conv => whnf
  refine ⟨fun c1 => ?_, fun c1 => ?_⟩
  · skip
    conv => whnf
    exact ⟨Or.inl rfl, ⟨Nat.le_of_ble_eq_true rfl, Nat.le_of_ble_eq_true rfl⟩, rfl, _, rfl, Or.inl rfl⟩
  · skip
    conv => whnf
    refine ⟨fun c2 => ?_, fun c2 => ?_⟩
    · skip
      conv => whnf
      exact ⟨Or.inl rfl, ⟨Nat.le_of_ble_eq_true rfl, Nat.le_of_ble_eq_true rfl⟩, rfl, _, rfl, Or.inl rfl⟩
    · skip
      conv => whnf
      exact ⟨Or.inr rfl, ⟨Nat.le_of_ble_eq_true rfl, Nat.le_of_ble_eq_true rfl⟩, rfl, _, rfl, Or.inr rfl⟩
set_option maxHeartbeats 4000000 in
set_option maxRecDepth 20000 in
theorem c_G_oneIf {h : j_H} {a : Int32}   : j_Ct 125 0 0 0 0 [j_i a] h (fun v h' => h' = h ∧ ∃ r, v = some (j_i r)) j_no := by
  refine j_intro km_125 (Nat.le_of_ble_eq_true rfl) ?_
  intro J hJ hF
  refine hJ [] 400 _ _ _ _ _ _ ?_
  conv => whnf
  refine ⟨fun c1 => ?_, fun c1 => ?_⟩
  · skip
    conv => whnf
    exact ⟨trivial, ⟨Nat.le_of_ble_eq_true rfl, Nat.le_of_ble_eq_true rfl⟩, rfl, _, rfl⟩
  · skip
    conv => whnf
    exact ⟨trivial, ⟨Nat.le_of_ble_eq_true rfl, Nat.le_of_ble_eq_true rfl⟩, rfl, _, rfl⟩
set_option maxHeartbeats 4000000 in
set_option maxRecDepth 20000 in
theorem c_G_isClock {h : j_H} {a : Int32}   : j_Ct 104 0 0 0 0 [j_i a] h (fun v h' => h' = h ∧ ∃ r, v = some (j_i r) ∧ (r = 0 ∨ r = 1)) j_no := by
  refine j_intro km_104 (Nat.le_of_ble_eq_true rfl) ?_
  intro J hJ hF
  refine hJ [] 400 _ _ _ _ _ _ ?_
  conv => whnf
  refine ⟨fun c1 => ?_, fun c1 => ?_⟩
  · skip
    conv => whnf
    exact ⟨Or.inr rfl, ⟨Nat.le_of_ble_eq_true rfl, Nat.le_of_ble_eq_true rfl⟩, rfl, _, rfl, Or.inr rfl⟩
  · skip
    have q2 : ((Int32.ofInt (1))).toInt = 1 := by decide
    conv => whnf
    refine ⟨fun c3 => ?_, fun c3 => ?_⟩
    · skip
      conv => whnf
      exact ⟨Or.inl rfl, ⟨Nat.le_of_ble_eq_true rfl, Nat.le_of_ble_eq_true rfl⟩, rfl, _, rfl, Or.inl rfl⟩
    · skip
      conv => whnf
      exact ⟨Or.inr rfl, ⟨Nat.le_of_ble_eq_true rfl, Nat.le_of_ble_eq_true rfl⟩, rfl, _, rfl, Or.inr rfl⟩
set_option maxHeartbeats 4000000 in
set_option maxRecDepth 20000 in
theorem c_G_runOfPair {h : j_H} {a : Int32} {b : Int32}   : j_Ct 135 0 0 0 0 [j_i a, j_i b] h (fun v h' => h' = h ∧ ∃ r, v = some (j_i r)) j_no := by
  refine j_intro km_135 (Nat.le_of_ble_eq_true rfl) ?_
  intro J hJ hF
  refine hJ [] 400 _ _ _ _ _ _ ?_
  conv => whnf
  refine ⟨fun c1 => ?_, fun c1 => ?_⟩
  · skip
    conv => whnf
    refine ⟨fun c2 => ?_, fun c2 => ?_⟩
    · skip
      conv => whnf
      refine ⟨by decide, ?_⟩
      conv => whnf
      exact ⟨trivial, ⟨Nat.le_of_ble_eq_true rfl, Nat.le_of_ble_eq_true rfl⟩, rfl, _, rfl⟩
    · skip
      conv => whnf
      refine ⟨by decide, ?_⟩
      conv => whnf
      exact ⟨trivial, ⟨Nat.le_of_ble_eq_true rfl, Nat.le_of_ble_eq_true rfl⟩, rfl, _, rfl⟩
  · skip
    conv => whnf
    exact ⟨trivial, ⟨Nat.le_of_ble_eq_true rfl, Nat.le_of_ble_eq_true rfl⟩, rfl, _, rfl⟩
set_option maxHeartbeats 4000000 in
set_option maxRecDepth 20000 in
theorem c_Table_turnedInYear {h : j_H} {a : Int32} {b : Int32}   : j_Ct 164 0 0 0 0 [j_i a, j_i b] h (fun v h' => h' = h ∧ ∃ r, v = some (j_i r)) j_no := by
  refine j_intro km_164 (Nat.le_of_ble_eq_true rfl) ?_
  intro J hJ hF
  refine hJ [] 400 _ _ _ _ _ _ ?_
  conv => whnf
  refine ⟨fun c1 => ?_, fun c1 => ?_⟩
  · skip
    conv => whnf
    exact ⟨trivial, ⟨Nat.le_of_ble_eq_true rfl, Nat.le_of_ble_eq_true rfl⟩, rfl, _, rfl⟩
  · skip
    conv => whnf
    refine ⟨fun z => absurd (j_e0.mp z) (by omega), ?_⟩
    conv => whnf
    exact ⟨trivial, ⟨Nat.le_of_ble_eq_true rfl, Nat.le_of_ble_eq_true rfl⟩, rfl, _, rfl⟩
set_option maxHeartbeats 4000000 in
set_option maxRecDepth 20000 in
theorem c_Table_leftBehind {h : j_H} {a : Int32} {b : Int32} {c : Int32}   : j_Ct 163 1 21 0 0 [j_i a, j_i b, j_i c] h (fun v h' => h' = h ∧ ∃ r, v = some (j_i r)) j_no := by
  refine j_intro km_163 (Nat.le_of_ble_eq_true rfl) ?_
  intro J hJ hF
  have L5 : ∀ (m : Nat) (v0 : Int32) (v1 : Int32) (v2 : Int32) (v3 : Int32) (v4 : Int32) , 0 ≤ v4.toInt → (2147483647 - v4.toInt) < (m : Int) → J 5 [some (j_i v0), some (j_i v1), some (j_i v2), some (j_i v3), some (j_i v4), none] [] (h) 0 0 := by
    intro m
    induction m with
    | zero => intro v0 v1 v2 v3 v4 h4 hm; exact absurd hm (by have := j_ub v4; omega)
    | succ m ih5 =>
      intro v0 v1 v2 v3 v4 h4 hm
      have uv0 := j_ub v0
      have lv0 := j_lb v0
      have uv1 := j_ub v1
      have lv1 := j_lb v1
      have uv2 := j_ub v2
      have lv2 := j_lb v2
      have uv3 := j_ub v3
      have lv3 := j_lb v3
      have uv4 := j_ub v4
      have lv4 := j_lb v4
      refine hJ [5] 400 _ _ _ _ _ _ ?_
      conv => whnf
      refine ⟨fun c1 => ?_, fun c1 => ?_⟩
      · skip
        conv => whnf
        exact ⟨trivial, ⟨Nat.le_of_ble_eq_true rfl, Nat.le_of_ble_eq_true rfl⟩, rfl, _, rfl⟩
      · skip
        conv => whnf
        refine ⟨rfl, _, _, _, _, _, _, c_Table_turnedInYear, ⟨Nat.le_of_ble_eq_true rfl, Nat.le_of_ble_eq_true rfl, Nat.le_of_ble_eq_true rfl, Nat.le_of_ble_eq_true rfl⟩, fun _ _ z => z, ?_⟩
        rintro v9 h9 ⟨rfl, r2, rfl⟩
        conv => whnf
        refine ⟨fun c3 => ?_, fun c3 => ?_⟩
        · skip
          have t4 : (v4 + Int32.ofInt 1).toInt = v4.toInt + 1 := j_inc1 (by omega)
          exact j_use hF (ih5 _ _ _ _ _  (by omega) (by omega)) (And.intro rfl (And.intro rfl (And.intro rfl (And.intro rfl (And.intro rfl trivial)))))
        · skip
          conv => whnf
          exact ⟨trivial, ⟨Nat.le_of_ble_eq_true rfl, Nat.le_of_ble_eq_true rfl⟩, rfl, _, rfl⟩
  have M5 : ∀ (v0 : Int32) (v1 : Int32) (v2 : Int32) (v3 : Int32) (v4 : Int32) , 0 ≤ v4.toInt → (0:Int) ≤ 0 → J 5 [some (j_i v0), some (j_i v1), some (j_i v2), some (j_i v3), some (j_i v4), none] [] (h) 0 0 := fun v0 v1 v2 v3 v4 h4 _ => L5 4294967296 v0 v1 v2 v3 v4 h4 (by have := j_lb v4; omega)
  refine hJ [5] 400 _ _ _ _ _ _ ?_
  exact j_use hF (M5 _ _ _ _ _  (by omega) (by omega)) (And.intro rfl (And.intro rfl (And.intro rfl (And.intro rfl (And.intro rfl trivial)))))
set_option maxHeartbeats 4000000 in
set_option maxRecDepth 20000 in
theorem c_Table_earlyBy {h : j_H} {a : Int32} {b : Int32} {c : Int32} {d : Int32}   : j_Ct 161 1 21 0 0 [j_i a, j_i b, j_i c, j_i d] h (fun v h' => h' = h ∧ ∃ r, v = some (j_i r)) j_no := by
  refine j_intro km_161 (Nat.le_of_ble_eq_true rfl) ?_
  intro J hJ hF
  have L20 : ∀ (m : Nat) (v0 : Int32) (v1 : Int32) (v2 : Int32) (v3 : Int32) (v4 : Int32) (v5 : Int32) (v6 : Int32) , 0 ≤ v6.toInt → (2147483647 - v6.toInt) < (m : Int) → J 20 [some (j_i v0), some (j_i v1), some (j_i v2), some (j_i v3), some (j_i v4), some (j_i v5), some (j_i v6), none] [] (h) 0 0 := by
    intro m
    induction m with
    | zero => intro v0 v1 v2 v3 v4 v5 v6 h6 hm; exact absurd hm (by have := j_ub v6; omega)
    | succ m ih20 =>
      intro v0 v1 v2 v3 v4 v5 v6 h6 hm
      have uv0 := j_ub v0
      have lv0 := j_lb v0
      have uv1 := j_ub v1
      have lv1 := j_lb v1
      have uv2 := j_ub v2
      have lv2 := j_lb v2
      have uv3 := j_ub v3
      have lv3 := j_lb v3
      have uv4 := j_ub v4
      have lv4 := j_lb v4
      have uv5 := j_ub v5
      have lv5 := j_lb v5
      have uv6 := j_ub v6
      have lv6 := j_lb v6
      refine hJ [20] 400 _ _ _ _ _ _ ?_
      have q1 : ((Int16.ofInt (3000)).toInt32).toInt = 3000 := by decide
      conv => whnf
      refine ⟨fun c2 => ?_, fun c2 => ?_⟩
      · skip
        conv => whnf
        exact ⟨trivial, ⟨Nat.le_of_ble_eq_true rfl, Nat.le_of_ble_eq_true rfl⟩, rfl, _, rfl⟩
      · skip
        conv => whnf
        refine ⟨fun c3 => ?_, fun c3 => ?_⟩
        · skip
          conv => whnf
          refine ⟨rfl, _, _, _, _, _, _, c_Table_turnedInYear, ⟨Nat.le_of_ble_eq_true rfl, Nat.le_of_ble_eq_true rfl, Nat.le_of_ble_eq_true rfl, Nat.le_of_ble_eq_true rfl⟩, fun _ _ z => z, ?_⟩
          rintro v9 h9 ⟨rfl, r4, rfl⟩
          conv => whnf
          refine ⟨fun c5 => ?_, fun c5 => ?_⟩
          · skip
            have t6 : (v6 + Int32.ofInt 1).toInt = v6.toInt + 1 := j_inc1 (by omega)
            exact j_use hF (ih20 _ _ _ _ _ _ _  (by omega) (by omega)) (And.intro rfl (And.intro rfl (And.intro rfl (And.intro rfl (And.intro rfl (And.intro rfl (And.intro rfl trivial)))))))
          · skip
            conv => whnf
            exact ⟨trivial, ⟨Nat.le_of_ble_eq_true rfl, Nat.le_of_ble_eq_true rfl⟩, rfl, _, rfl⟩
        · skip
          conv => whnf
          exact ⟨trivial, ⟨Nat.le_of_ble_eq_true rfl, Nat.le_of_ble_eq_true rfl⟩, rfl, _, rfl⟩
  have M20 : ∀ (v0 : Int32) (v1 : Int32) (v2 : Int32) (v3 : Int32) (v4 : Int32) (v5 : Int32) (v6 : Int32) , 0 ≤ v6.toInt → (0:Int) ≤ 0 → J 20 [some (j_i v0), some (j_i v1), some (j_i v2), some (j_i v3), some (j_i v4), some (j_i v5), some (j_i v6), none] [] (h) 0 0 := fun v0 v1 v2 v3 v4 v5 v6 h6 _ => L20 4294967296 v0 v1 v2 v3 v4 v5 v6 h6 (by have := j_lb v6; omega)
  refine hJ [20] 400 _ _ _ _ _ _ ?_
  conv => whnf
  refine ⟨⟨Nat.le_of_ble_eq_true rfl, Nat.le_of_ble_eq_true rfl, Nat.le_of_ble_eq_true rfl, Nat.le_of_ble_eq_true rfl⟩, ?_⟩
  exact j_use hF (M20 _ _ _ _ _ _ _  (by omega) (by omega)) (And.intro rfl (And.intro rfl (And.intro rfl (And.intro rfl (And.intro rfl (And.intro rfl (And.intro rfl trivial)))))))
set_option maxHeartbeats 4000000 in
set_option maxRecDepth 20000 in
theorem c_Table_lateBy {h : j_H} {a : Int32} {b : Int32} {c : Int32} {d : Int32}   : j_Ct 162 1 21 0 0 [j_i a, j_i b, j_i c, j_i d] h (fun v h' => h' = h ∧ ∃ r, v = some (j_i r)) j_no := by
  refine j_intro km_162 (Nat.le_of_ble_eq_true rfl) ?_
  intro J hJ hF
  have L20 : ∀ (m : Nat) (v0 : Int32) (v1 : Int32) (v2 : Int32) (v3 : Int32) (v4 : Int32) (v5 : Int32) (v6 : Int32) , 0 ≤ v6.toInt → (2147483647 - v6.toInt) < (m : Int) → J 20 [some (j_i v0), some (j_i v1), some (j_i v2), some (j_i v3), some (j_i v4), some (j_i v5), some (j_i v6), none] [] (h) 0 0 := by
    intro m
    induction m with
    | zero => intro v0 v1 v2 v3 v4 v5 v6 h6 hm; exact absurd hm (by have := j_ub v6; omega)
    | succ m ih20 =>
      intro v0 v1 v2 v3 v4 v5 v6 h6 hm
      have uv0 := j_ub v0
      have lv0 := j_lb v0
      have uv1 := j_ub v1
      have lv1 := j_lb v1
      have uv2 := j_ub v2
      have lv2 := j_lb v2
      have uv3 := j_ub v3
      have lv3 := j_lb v3
      have uv4 := j_ub v4
      have lv4 := j_lb v4
      have uv5 := j_ub v5
      have lv5 := j_lb v5
      have uv6 := j_ub v6
      have lv6 := j_lb v6
      refine hJ [20] 400 _ _ _ _ _ _ ?_
      have q1 : ((Int16.ofInt (3000)).toInt32).toInt = 3000 := by decide
      conv => whnf
      refine ⟨fun c2 => ?_, fun c2 => ?_⟩
      · skip
        conv => whnf
        exact ⟨trivial, ⟨Nat.le_of_ble_eq_true rfl, Nat.le_of_ble_eq_true rfl⟩, rfl, _, rfl⟩
      · skip
        conv => whnf
        refine ⟨rfl, _, _, _, _, _, _, c_Table_turnedInYear, ⟨Nat.le_of_ble_eq_true rfl, Nat.le_of_ble_eq_true rfl, Nat.le_of_ble_eq_true rfl, Nat.le_of_ble_eq_true rfl⟩, fun _ _ z => z, ?_⟩
        rintro v9 h9 ⟨rfl, r3, rfl⟩
        conv => whnf
        refine ⟨fun c4 => ?_, fun c4 => ?_⟩
        · skip
          conv => whnf
          refine ⟨fun c5 => ?_, fun c5 => ?_⟩
          · skip
            have t6 : (v6 + Int32.ofInt 1).toInt = v6.toInt + 1 := j_inc1 (by omega)
            exact j_use hF (ih20 _ _ _ _ _ _ _  (by omega) (by omega)) (And.intro rfl (And.intro rfl (And.intro rfl (And.intro rfl (And.intro rfl (And.intro rfl (And.intro rfl trivial)))))))
          · skip
            conv => whnf
            exact ⟨trivial, ⟨Nat.le_of_ble_eq_true rfl, Nat.le_of_ble_eq_true rfl⟩, rfl, _, rfl⟩
        · skip
          conv => whnf
          exact ⟨trivial, ⟨Nat.le_of_ble_eq_true rfl, Nat.le_of_ble_eq_true rfl⟩, rfl, _, rfl⟩
  have M20 : ∀ (v0 : Int32) (v1 : Int32) (v2 : Int32) (v3 : Int32) (v4 : Int32) (v5 : Int32) (v6 : Int32) , 0 ≤ v6.toInt → (0:Int) ≤ 0 → J 20 [some (j_i v0), some (j_i v1), some (j_i v2), some (j_i v3), some (j_i v4), some (j_i v5), some (j_i v6), none] [] (h) 0 0 := fun v0 v1 v2 v3 v4 v5 v6 h6 _ => L20 4294967296 v0 v1 v2 v3 v4 v5 v6 h6 (by have := j_lb v6; omega)
  refine hJ [20] 400 _ _ _ _ _ _ ?_
  conv => whnf
  refine ⟨⟨Nat.le_of_ble_eq_true rfl, Nat.le_of_ble_eq_true rfl, Nat.le_of_ble_eq_true rfl, Nat.le_of_ble_eq_true rfl⟩, ?_⟩
  exact j_use hF (M20 _ _ _ _ _ _ _  (by omega) (by omega)) (And.intro rfl (And.intro rfl (And.intro rfl (And.intro rfl (And.intro rfl (And.intro rfl (And.intro rfl trivial)))))))
set_option maxHeartbeats 4000000 in
set_option maxRecDepth 20000 in
theorem c_Motes_areAllThere {h : j_H} {y : Nat}  (ky : j_kd h y = some (.inl 5)) : j_Ct 147 0 0 0 0 [j_r (some y)] h (fun v h' => h' = h ∧ ∃ r, v = some (j_i r) ∧ (r = 0 ∨ r = 1)) j_no := by
  refine j_intro km_147 (Nat.le_of_ble_eq_true rfl) ?_
  intro J hJ hF
  refine hJ [] 400 _ _ _ _ _ _ ?_
  conv => whnf
  refine ⟨_, rfl, ky, fun x1 ex1 => ?_⟩
  conv => whnf
  refine ⟨_, rfl, ky, fun x2 ex2 => ?_⟩
  conv => whnf
  refine ⟨_, rfl, ky, fun x3 ex3 => ?_⟩
  conv => whnf
  refine ⟨_, rfl, ky, fun x4 ex4 => ?_⟩
  conv => whnf
  refine ⟨fun c5 => ?_, fun c5 => ?_⟩
  · skip
    conv => whnf
    exact ⟨Or.inl rfl, ⟨Nat.le_of_ble_eq_true rfl, Nat.le_of_ble_eq_true rfl⟩, rfl, _, rfl, Or.inl rfl⟩
  · skip
    conv => whnf
    exact ⟨Or.inr rfl, ⟨Nat.le_of_ble_eq_true rfl, Nat.le_of_ble_eq_true rfl⟩, rfl, _, rfl, Or.inr rfl⟩
set_option maxHeartbeats 4000000 in
set_option maxRecDepth 20000 in
theorem c_Grain_bit {h : j_H} {y : Nat}  (ky : j_kd h y = some (.inl 4)) : j_Ct 144 0 0 0 0 [j_r (some y)] h (fun v h' => h' = h ∧ ∃ r, v = some (j_i r)) j_no := by
  refine j_intro km_144 (Nat.le_of_ble_eq_true rfl) ?_
  intro J hJ hF
  refine hJ [] 400 _ _ _ _ _ _ ?_
  conv => whnf
  refine ⟨_, rfl, ky, fun x1 ex1 => ?_⟩
  conv => whnf
  exact ⟨trivial, ⟨Nat.le_of_ble_eq_true rfl, Nat.le_of_ble_eq_true rfl⟩, rfl, _, rfl⟩
set_option maxHeartbeats 4000000 in
set_option maxRecDepth 20000 in
theorem c_Grain_of {h : j_H} {it : Nat → Nat → Int32} {y : Nat} {a : Int32} (hG : j_G h) (sc : j_Sc j_sf h it) (ky : j_kd h y = some (.inl 4)) : j_Ct 145 0 0 0 0 [j_r (some y), j_i a] (j_wi h it) (fun v h' => ∃ it', h' = j_wi h it' ∧ j_Sc j_sf h it' ∧ ∃ r, v = some (j_r (some r)) ∧ j_kd h r = some (.inl 5)) j_no := by
  refine j_intro km_145 (Nat.le_of_ble_eq_true rfl) ?_
  intro J hJ hF
  refine hJ [] 400 _ _ _ _ _ _ ?_
  conv => whnf
  refine ⟨fun c1 => ?_, fun c1 => ?_⟩
  · skip
    conv => whnf
    refine ⟨_, rfl, ky, fun o2 eo => ?_⟩
    obtain ⟨b3, eb3, kb3⟩ := hG.2.1 _ ky
    obtain rfl : o2 = some b3 := eo.symm.trans eb3
    conv => whnf
    exact ⟨trivial, ⟨Nat.le_of_ble_eq_true rfl, Nat.le_of_ble_eq_true rfl⟩, _, rfl, sc, _, rfl, kb3⟩
  · skip
    conv => whnf
    refine ⟨_, rfl, ky, fun o4 eo => ?_⟩
    obtain ⟨b5, eb5, kb5⟩ := hG.1 _ ky
    obtain rfl : o4 = some b5 := eo.symm.trans eb5
    conv => whnf
    exact ⟨trivial, ⟨Nat.le_of_ble_eq_true rfl, Nat.le_of_ble_eq_true rfl⟩, _, rfl, sc, _, rfl, kb5⟩
set_option maxHeartbeats 4000000 in
set_option maxRecDepth 20000 in
theorem c_Run_bit {h : j_H} {y : Nat}  (ky : j_kd h y = some (.inl 7)) : j_Ct 153 0 0 0 0 [j_r (some y)] h (fun v h' => h' = h ∧ ∃ r, v = some (j_i r)) j_no := by
  refine j_intro km_153 (Nat.le_of_ble_eq_true rfl) ?_
  intro J hJ hF
  refine hJ [] 400 _ _ _ _ _ _ ?_
  conv => whnf
  refine ⟨_, rfl, ky, fun x1 ex1 => ?_⟩
  conv => whnf
  exact ⟨trivial, ⟨Nat.le_of_ble_eq_true rfl, Nat.le_of_ble_eq_true rfl⟩, rfl, _, rfl⟩
set_option maxHeartbeats 4000000 in
set_option maxRecDepth 20000 in
theorem c_Run_earlyIn {h : j_H} {y : Nat} {a : Int32}  (ky : j_kd h y = some (.inl 7)) : j_Ct 156 0 0 0 0 [j_r (some y), j_i a] h (fun v h' => h' = h ∧ ∃ r, v = some (j_i r)) j_no := by
  refine j_intro km_156 (Nat.le_of_ble_eq_true rfl) ?_
  intro J hJ hF
  refine hJ [] 400 _ _ _ _ _ _ ?_
  conv => whnf
  refine ⟨_, rfl, ky, fun x1 ex1 => ?_⟩
  conv => whnf
  refine ⟨_, rfl, ky, fun x2 ex2 => ?_⟩
  conv => whnf
  exact ⟨trivial, ⟨Nat.le_of_ble_eq_true rfl, Nat.le_of_ble_eq_true rfl⟩, rfl, _, rfl⟩
set_option maxHeartbeats 4000000 in
set_option maxRecDepth 20000 in
theorem c_Run_lateIn {h : j_H} {y : Nat} {a : Int32}  (ky : j_kd h y = some (.inl 7)) : j_Ct 157 0 0 0 0 [j_r (some y), j_i a] h (fun v h' => h' = h ∧ ∃ r, v = some (j_i r)) j_no := by
  refine j_intro km_157 (Nat.le_of_ble_eq_true rfl) ?_
  intro J hJ hF
  refine hJ [] 400 _ _ _ _ _ _ ?_
  conv => whnf
  refine ⟨_, rfl, ky, fun x1 ex1 => ?_⟩
  conv => whnf
  refine ⟨_, rfl, ky, fun x2 ex2 => ?_⟩
  conv => whnf
  exact ⟨trivial, ⟨Nat.le_of_ble_eq_true rfl, Nat.le_of_ble_eq_true rfl⟩, rfl, _, rfl⟩
set_option maxHeartbeats 4000000 in
set_option maxRecDepth 20000 in
theorem c_Run_tellsOf {h : j_H} {y : Nat} {z : Nat} {a : Int32}  (ky : j_kd h y = some (.inl 7)) (kz : j_kd h z = some (.inl 4)) : j_Ct 159 0 0 0 0 [j_r (some y), j_r (some z), j_i a] h (fun v h' => h' = h ∧ ∃ r, v = some (j_i r) ∧ (r = 0 ∨ r = 1)) j_no := by
  refine j_intro km_159 (Nat.le_of_ble_eq_true rfl) ?_
  intro J hJ hF
  refine hJ [] 400 _ _ _ _ _ _ ?_
  conv => whnf
  refine ⟨_, rfl, ky, fun x1 ex1 => ?_⟩
  conv => whnf
  refine ⟨fun c2 => ?_, fun c2 => ?_⟩
  · skip
    conv => whnf
    exact ⟨Or.inl rfl, ⟨Nat.le_of_ble_eq_true rfl, Nat.le_of_ble_eq_true rfl⟩, rfl, _, rfl, Or.inl rfl⟩
  · skip
    conv => whnf
    refine ⟨_, rfl, ky, fun o3 eo => ?_⟩
    conv => whnf
    refine ⟨fun c4 => ?_, fun c4 => ?_⟩
    · skip
      have q5 : ((Int32.ofInt (-1))).toInt = -1 := by decide
      conv => whnf
      refine ⟨fun c6 => ?_, fun c6 => ?_⟩
      · skip
        conv => whnf
        exact ⟨Or.inr rfl, ⟨Nat.le_of_ble_eq_true rfl, Nat.le_of_ble_eq_true rfl⟩, rfl, _, rfl, Or.inr rfl⟩
      · skip
        conv => whnf
        refine ⟨_, rfl, ky, fun x7 ex7 => ?_⟩
        conv => whnf
        refine ⟨fun c8 => ?_, fun c8 => ?_⟩
        · skip
          conv => whnf
          exact ⟨Or.inl rfl, ⟨Nat.le_of_ble_eq_true rfl, Nat.le_of_ble_eq_true rfl⟩, rfl, _, rfl, Or.inl rfl⟩
        · skip
          conv => whnf
          exact ⟨Or.inr rfl, ⟨Nat.le_of_ble_eq_true rfl, Nat.le_of_ble_eq_true rfl⟩, rfl, _, rfl, Or.inr rfl⟩
    · skip
      conv => whnf
      exact ⟨Or.inl rfl, ⟨Nat.le_of_ble_eq_true rfl, Nat.le_of_ble_eq_true rfl⟩, rfl, _, rfl, Or.inl rfl⟩
set_option maxHeartbeats 4000000 in
set_option maxRecDepth 20000 in
theorem c_Run_misses {h : j_H} {y : Nat} {z : Nat} {a : Int32}  (ky : j_kd h y = some (.inl 7)) (kz : j_kd h z = some (.inl 7)) : j_Ct 158 1 21 0 0 [j_r (some y), j_r (some z), j_i a] h (fun v h' => h' = h ∧ ∃ r, v = some (j_i r) ∧ (r = 0 ∨ r = 1)) j_no := by
  refine j_intro km_158 (Nat.le_of_ble_eq_true rfl) ?_
  intro J hJ hF
  refine hJ [] 400 _ _ _ _ _ _ ?_
  conv => whnf
  refine ⟨ky, rfl, _, _, _, _, _, _, c_Run_earlyIn ky, ⟨Nat.le_of_ble_eq_true rfl, Nat.le_of_ble_eq_true rfl, Nat.le_of_ble_eq_true rfl, Nat.le_of_ble_eq_true rfl⟩, fun _ _ z => z, ?_⟩
  rintro v9 h9 ⟨rfl, r1, rfl⟩
  conv => whnf
  refine ⟨kz, rfl, _, _, _, _, _, _, c_Run_lateIn kz, ⟨Nat.le_of_ble_eq_true rfl, Nat.le_of_ble_eq_true rfl, Nat.le_of_ble_eq_true rfl, Nat.le_of_ble_eq_true rfl⟩, fun _ _ z => z, ?_⟩
  rintro v9 h9 ⟨rfl, r2, rfl⟩
  conv => whnf
  refine ⟨fun c3 => ?_, fun c3 => ?_⟩
  · skip
    conv => whnf
    exact ⟨Or.inr rfl, ⟨Nat.le_of_ble_eq_true rfl, Nat.le_of_ble_eq_true rfl⟩, rfl, _, rfl, Or.inr rfl⟩
  · skip
    conv => whnf
    refine ⟨kz, rfl, _, _, _, _, _, _, c_Run_earlyIn kz, ⟨Nat.le_of_ble_eq_true rfl, Nat.le_of_ble_eq_true rfl, Nat.le_of_ble_eq_true rfl, Nat.le_of_ble_eq_true rfl⟩, fun _ _ z => z, ?_⟩
    rintro v9 h9 ⟨rfl, r4, rfl⟩
    conv => whnf
    refine ⟨ky, rfl, _, _, _, _, _, _, c_Run_lateIn ky, ⟨Nat.le_of_ble_eq_true rfl, Nat.le_of_ble_eq_true rfl, Nat.le_of_ble_eq_true rfl, Nat.le_of_ble_eq_true rfl⟩, fun _ _ z => z, ?_⟩
    rintro v9 h9 ⟨rfl, r5, rfl⟩
    conv => whnf
    refine ⟨fun c6 => ?_, fun c6 => ?_⟩
    · skip
      conv => whnf
      exact ⟨Or.inl rfl, ⟨Nat.le_of_ble_eq_true rfl, Nat.le_of_ble_eq_true rfl⟩, rfl, _, rfl, Or.inl rfl⟩
    · skip
      conv => whnf
      exact ⟨Or.inr rfl, ⟨Nat.le_of_ble_eq_true rfl, Nat.le_of_ble_eq_true rfl⟩, rfl, _, rfl, Or.inr rfl⟩
set_option maxHeartbeats 4000000 in
set_option maxRecDepth 20000 in
theorem c_Run_wouldMissItselfBy {h : j_H} {y : Nat} {a : Int32}  (ky : j_kd h y = some (.inl 7)) : j_Ct 160 2 48 0 0 [j_r (some y), j_i a] h (fun v h' => h' = h ∧ ∃ r, v = some (j_i r) ∧ (r = 0 ∨ r = 1)) j_no := by
  refine j_intro km_160 (Nat.le_of_ble_eq_true rfl) ?_
  intro J hJ hF
  refine hJ [] 400 _ _ _ _ _ _ ?_
  conv => whnf
  refine ⟨_, rfl, ky, fun x1 ex1 => ?_⟩
  conv => whnf
  refine ⟨_, rfl, ky, fun x2 ex2 => ?_⟩
  conv => whnf
  refine ⟨_, rfl, ky, fun x3 ex3 => ?_⟩
  conv => whnf
  refine ⟨rfl, _, _, _, _, _, _, c_Table_earlyBy, ⟨Nat.le_of_ble_eq_true rfl, Nat.le_of_ble_eq_true rfl, Nat.le_of_ble_eq_true rfl, Nat.le_of_ble_eq_true rfl⟩, fun _ _ z => z, ?_⟩
  rintro v9 h9 ⟨rfl, r4, rfl⟩
  conv => whnf
  refine ⟨_, rfl, ky, fun x5 ex5 => ?_⟩
  conv => whnf
  refine ⟨_, rfl, ky, fun x6 ex6 => ?_⟩
  conv => whnf
  refine ⟨_, rfl, ky, fun x7 ex7 => ?_⟩
  conv => whnf
  refine ⟨rfl, _, _, _, _, _, _, c_Table_lateBy, ⟨Nat.le_of_ble_eq_true rfl, Nat.le_of_ble_eq_true rfl, Nat.le_of_ble_eq_true rfl, Nat.le_of_ble_eq_true rfl⟩, fun _ _ z => z, ?_⟩
  rintro v9 h9 ⟨rfl, r8, rfl⟩
  conv => whnf
  refine ⟨_, rfl, ky, fun x9 ex9 => ?_⟩
  conv => whnf
  refine ⟨fun c10 => ?_, fun c10 => ?_⟩
  · skip
    conv => whnf
    exact ⟨Or.inr rfl, ⟨Nat.le_of_ble_eq_true rfl, Nat.le_of_ble_eq_true rfl⟩, rfl, _, rfl, Or.inr rfl⟩
  · skip
    conv => whnf
    refine ⟨_, rfl, ky, fun x11 ex11 => ?_⟩
    conv => whnf
    refine ⟨fun c12 => ?_, fun c12 => ?_⟩
    · skip
      conv => whnf
      exact ⟨Or.inl rfl, ⟨Nat.le_of_ble_eq_true rfl, Nat.le_of_ble_eq_true rfl⟩, rfl, _, rfl, Or.inl rfl⟩
    · skip
      conv => whnf
      exact ⟨Or.inr rfl, ⟨Nat.le_of_ble_eq_true rfl, Nat.le_of_ble_eq_true rfl⟩, rfl, _, rfl, Or.inr rfl⟩
set_option maxHeartbeats 4000000 in
set_option maxRecDepth 20000 in
theorem c_Run_countMissed {h : j_H} {it : Nat → Nat → Int32} {y : Nat} (hG : j_G h) (sc : j_Sc j_sf h it) (ky : j_kd h y = some (.inl 7)) : j_Ct 154 1 20 0 0 [j_r (some y)] (j_wi h it) (fun v h' => ∃ it', h' = j_wi h it' ∧ j_Sc j_sf h it' ∧ ∃ r, v = some (j_i r)) j_no := by
  refine j_intro km_154 (Nat.le_of_ble_eq_true rfl) ?_
  intro J hJ hF
  refine hJ [] 400 _ _ _ _ _ _ ?_
  conv => whnf
  refine ⟨_, rfl, ky, fun x1 ex1 => ?_⟩
  conv => whnf
  refine ⟨_, rfl, ky, fun o2 eo => ?_⟩
  obtain ⟨b3, eb3, kb3⟩ := hG.2.2.1 _ ky
  obtain rfl : o2 = some b3 := eo.symm.trans eb3
  conv => whnf
  refine ⟨_, rfl, kb3, fun x4 ex4 => ?_⟩
  conv => whnf
  refine ⟨rfl, _, _, _, _, _, _, c_Integer_bitCount, ⟨Nat.le_of_ble_eq_true rfl, Nat.le_of_ble_eq_true rfl, Nat.le_of_ble_eq_true rfl, Nat.le_of_ble_eq_true rfl⟩, fun _ _ z => z, ?_⟩
  rintro v9 h9 ⟨rfl, r5, rfl⟩
  conv => whnf
  exact ⟨trivial, ⟨Nat.le_of_ble_eq_true rfl, Nat.le_of_ble_eq_true rfl⟩, _, rfl, sc, _, rfl⟩
set_option maxHeartbeats 4000000 in
set_option maxRecDepth 20000 in
theorem c_G_isGrain {h : j_H} {it : Nat → Nat → Int32} {x : Nat} {a : Int32} (hW : j_WF h x) (sc : j_Sc j_sf h it)  : j_Ct 105 1 20 0 0 [j_r (some x), j_i a] (j_wi h it) (fun v h' => ∃ it', h' = j_wi h it' ∧ j_Sc j_sf h it' ∧ ∃ r, v = some (j_i r) ∧ (r = 0 ∨ r = 1)) j_no := by
  refine j_intro km_105 (Nat.le_of_ble_eq_true rfl) ?_
  intro J hJ hF
  obtain ⟨kx, hG, L0, L1, L2, e0, l0, e1, l1, e2, l2⟩ := id hW
  have b0 := l0.2.1; have b1 := l1.2.1; have b2 := l2.2.1; have d0 := l0.2.2.1; have d1 := l1.2.2.1; have d2 := l2.2.2.1
  refine hJ [] 400 _ _ _ _ _ _ ?_
  conv => whnf
  refine ⟨fun c1 => ?_, fun c1 => ?_⟩
  · skip
    conv => whnf
    exact ⟨Or.inl rfl, ⟨Nat.le_of_ble_eq_true rfl, Nat.le_of_ble_eq_true rfl⟩, _, rfl, sc, _, rfl, Or.inl rfl⟩
  · skip
    conv => whnf
    refine ⟨_, rfl, kx, fun o2 eo => ?_⟩
    obtain rfl : o2 = some L0 := eo.symm.trans e0
    conv => whnf
    refine ⟨l0.1, rfl, _, _, _, _, _, _, c_AL_size l0 sc j_sf_ok, ⟨Nat.le_of_ble_eq_true rfl, Nat.le_of_ble_eq_true rfl, Nat.le_of_ble_eq_true rfl, Nat.le_of_ble_eq_true rfl⟩, fun _ _ z => z, ?_⟩
    rintro v9 h9 ⟨rfl, rfl⟩
    conv => whnf
    refine ⟨fun c3 => ?_, fun c3 => ?_⟩
    · skip
      conv => whnf
      exact ⟨Or.inl rfl, ⟨Nat.le_of_ble_eq_true rfl, Nat.le_of_ble_eq_true rfl⟩, _, rfl, sc, _, rfl, Or.inl rfl⟩
    · skip
      conv => whnf
      exact ⟨Or.inr rfl, ⟨Nat.le_of_ble_eq_true rfl, Nat.le_of_ble_eq_true rfl⟩, _, rfl, sc, _, rfl, Or.inr rfl⟩
set_option maxHeartbeats 4000000 in
set_option maxRecDepth 20000 in
theorem c_G_isRun {h : j_H} {it : Nat → Nat → Int32} {x : Nat} {a : Int32} (hW : j_WF h x) (sc : j_Sc j_sf h it)  : j_Ct 107 1 20 0 0 [j_r (some x), j_i a] (j_wi h it) (fun v h' => ∃ it', h' = j_wi h it' ∧ j_Sc j_sf h it' ∧ ∃ r, v = some (j_i r) ∧ (r = 0 ∨ r = 1)) j_no := by
  refine j_intro km_107 (Nat.le_of_ble_eq_true rfl) ?_
  intro J hJ hF
  obtain ⟨kx, hG, L0, L1, L2, e0, l0, e1, l1, e2, l2⟩ := id hW
  have b0 := l0.2.1; have b1 := l1.2.1; have b2 := l2.2.1; have d0 := l0.2.2.1; have d1 := l1.2.2.1; have d2 := l2.2.2.1
  refine hJ [] 400 _ _ _ _ _ _ ?_
  conv => whnf
  refine ⟨fun c1 => ?_, fun c1 => ?_⟩
  · skip
    conv => whnf
    exact ⟨Or.inl rfl, ⟨Nat.le_of_ble_eq_true rfl, Nat.le_of_ble_eq_true rfl⟩, _, rfl, sc, _, rfl, Or.inl rfl⟩
  · skip
    conv => whnf
    refine ⟨_, rfl, kx, fun o2 eo => ?_⟩
    obtain rfl : o2 = some L1 := eo.symm.trans e1
    conv => whnf
    refine ⟨l1.1, rfl, _, _, _, _, _, _, c_AL_size l1 sc j_sf_ok, ⟨Nat.le_of_ble_eq_true rfl, Nat.le_of_ble_eq_true rfl, Nat.le_of_ble_eq_true rfl, Nat.le_of_ble_eq_true rfl⟩, fun _ _ z => z, ?_⟩
    rintro v9 h9 ⟨rfl, rfl⟩
    conv => whnf
    refine ⟨fun c3 => ?_, fun c3 => ?_⟩
    · skip
      conv => whnf
      exact ⟨Or.inl rfl, ⟨Nat.le_of_ble_eq_true rfl, Nat.le_of_ble_eq_true rfl⟩, _, rfl, sc, _, rfl, Or.inl rfl⟩
    · skip
      conv => whnf
      exact ⟨Or.inr rfl, ⟨Nat.le_of_ble_eq_true rfl, Nat.le_of_ble_eq_true rfl⟩, _, rfl, sc, _, rfl, Or.inr rfl⟩
set_option maxHeartbeats 4000000 in
set_option maxRecDepth 20000 in
theorem c_G_isPrint {h : j_H} {it : Nat → Nat → Int32} {x : Nat} {a : Int32} (hW : j_WF h x) (sc : j_Sc j_sf h it)  : j_Ct 106 1 20 0 0 [j_r (some x), j_i a] (j_wi h it) (fun v h' => ∃ it', h' = j_wi h it' ∧ j_Sc j_sf h it' ∧ ∃ r, v = some (j_i r) ∧ (r = 0 ∨ r = 1)) j_no := by
  refine j_intro km_106 (Nat.le_of_ble_eq_true rfl) ?_
  intro J hJ hF
  obtain ⟨kx, hG, L0, L1, L2, e0, l0, e1, l1, e2, l2⟩ := id hW
  have b0 := l0.2.1; have b1 := l1.2.1; have b2 := l2.2.1; have d0 := l0.2.2.1; have d1 := l1.2.2.1; have d2 := l2.2.2.1
  refine hJ [] 400 _ _ _ _ _ _ ?_
  conv => whnf
  refine ⟨fun c1 => ?_, fun c1 => ?_⟩
  · skip
    conv => whnf
    exact ⟨Or.inl rfl, ⟨Nat.le_of_ble_eq_true rfl, Nat.le_of_ble_eq_true rfl⟩, _, rfl, sc, _, rfl, Or.inl rfl⟩
  · skip
    conv => whnf
    refine ⟨_, rfl, kx, fun o2 eo => ?_⟩
    obtain rfl : o2 = some L2 := eo.symm.trans e2
    conv => whnf
    refine ⟨l2.1, rfl, _, _, _, _, _, _, c_AL_size l2 sc j_sf_ok, ⟨Nat.le_of_ble_eq_true rfl, Nat.le_of_ble_eq_true rfl, Nat.le_of_ble_eq_true rfl, Nat.le_of_ble_eq_true rfl⟩, fun _ _ z => z, ?_⟩
    rintro v9 h9 ⟨rfl, rfl⟩
    conv => whnf
    refine ⟨fun c3 => ?_, fun c3 => ?_⟩
    · skip
      conv => whnf
      exact ⟨Or.inl rfl, ⟨Nat.le_of_ble_eq_true rfl, Nat.le_of_ble_eq_true rfl⟩, _, rfl, sc, _, rfl, Or.inl rfl⟩
    · skip
      conv => whnf
      exact ⟨Or.inr rfl, ⟨Nat.le_of_ble_eq_true rfl, Nat.le_of_ble_eq_true rfl⟩, _, rfl, sc, _, rfl, Or.inr rfl⟩
set_option maxHeartbeats 4000000 in
set_option maxRecDepth 20000 in
theorem c_G_paceOf {h : j_H} {it : Nat → Nat → Int32} {x : Nat} {a : Int32} (hW : j_WF h x) (sc : j_Sc j_sf h it)  : j_Ct 128 0 0 0 0 [j_r (some x), j_i a] (j_wi h it) (fun v h' => ∃ it', h' = j_wi h it' ∧ j_Sc j_sf h it' ∧ ∃ r, v = some (j_i r)) j_no := by
  refine j_intro km_128 (Nat.le_of_ble_eq_true rfl) ?_
  intro J hJ hF
  obtain ⟨kx, hG, L0, L1, L2, e0, l0, e1, l1, e2, l2⟩ := id hW
  have b0 := l0.2.1; have b1 := l1.2.1; have b2 := l2.2.1; have d0 := l0.2.2.1; have d1 := l1.2.2.1; have d2 := l2.2.2.1
  refine hJ [] 400 _ _ _ _ _ _ ?_
  conv => whnf
  refine ⟨fun c1 => ?_, fun c1 => ?_⟩
  · skip
    conv => whnf
    refine ⟨_, rfl, kx, fun x2 ex2 => ?_⟩
    conv => whnf
    exact ⟨trivial, ⟨Nat.le_of_ble_eq_true rfl, Nat.le_of_ble_eq_true rfl⟩, _, rfl, sc, _, rfl⟩
  · skip
    conv => whnf
    refine ⟨_, rfl, kx, fun x3 ex3 => ?_⟩
    conv => whnf
    exact ⟨trivial, ⟨Nat.le_of_ble_eq_true rfl, Nat.le_of_ble_eq_true rfl⟩, _, rfl, sc, _, rfl⟩
set_option maxHeartbeats 4000000 in
set_option maxRecDepth 20000 in
theorem c_G_countRunsThatStand {h : j_H} {it : Nat → Nat → Int32} {x : Nat} (hW : j_WF h x) (sc : j_Sc j_sf h it)  : j_Ct 91 3 64 0 0 [j_r (some x)] (j_wi h it) (fun v h' => ∃ it', h' = j_wi h it' ∧ j_Sc j_sf h it' ∧ ∃ r, v = some (j_i r)) j_no := by
  refine j_intro km_91 (Nat.le_of_ble_eq_true rfl) ?_
  intro J hJ hF
  obtain ⟨kx, hG, L0, L1, L2, e0, l0, e1, l1, e2, l2⟩ := id hW
  have b0 := l0.2.1; have b1 := l1.2.1; have b2 := l2.2.1; have d0 := l0.2.2.1; have d1 := l1.2.2.1; have d2 := l2.2.2.1
  have L4 : ∀ (m : Nat) (v1 : Int32) (v2 : Int32) (it : Nat → Nat → Int32) , j_Sc j_sf h it → 0 ≤ v2.toInt → (2147483647 - v2.toInt) < (m : Int) → J 4 [some (j_r (some x)), some (j_i v1), some (j_i v2)] [] (j_wi h it) 0 0 := by
    intro m
    induction m with
    | zero => intro v1 v2 it sc h2 hm; exact absurd hm (by have := j_ub v2; omega)
    | succ m ih4 =>
      intro v1 v2 it sc h2 hm
      have uv1 := j_ub v1
      have lv1 := j_lb v1
      have uv2 := j_ub v2
      have lv2 := j_lb v2
      refine hJ [4] 400 _ _ _ _ _ _ ?_
      conv => whnf
      refine ⟨_, rfl, kx, fun o1 eo => ?_⟩
      obtain rfl : o1 = some L1 := eo.symm.trans e1
      conv => whnf
      refine ⟨l1.1, rfl, _, _, _, _, _, _, c_AL_size l1 sc j_sf_ok, ⟨Nat.le_of_ble_eq_true rfl, Nat.le_of_ble_eq_true rfl, Nat.le_of_ble_eq_true rfl, Nat.le_of_ble_eq_true rfl⟩, fun _ _ z => z, ?_⟩
      rintro v9 h9 ⟨rfl, rfl⟩
      conv => whnf
      refine ⟨fun c2 => ?_, fun c2 => ?_⟩
      · skip
        conv => whnf
        exact ⟨trivial, ⟨Nat.le_of_ble_eq_true rfl, Nat.le_of_ble_eq_true rfl⟩, _, rfl, sc, _, rfl⟩
      · skip
        conv => whnf
        refine ⟨_, rfl, kx, fun o3 eo => ?_⟩
        obtain rfl : o3 = some L1 := eo.symm.trans e1
        conv => whnf
        refine ⟨l1.1, rfl, _, _, _, _, _, _, c_AL_get l1 sc j_sf_ok (by omega) (by omega), ⟨Nat.le_of_ble_eq_true rfl, Nat.le_of_ble_eq_true rfl, Nat.le_of_ble_eq_true rfl, Nat.le_of_ble_eq_true rfl⟩, fun _ _ z => z, ?_⟩
        rintro v9 h9 ⟨rfl, g4, rfl, kg4⟩
        conv => whnf
        refine ⟨Or.inr ⟨_, rfl, kg4⟩, ?_⟩
        conv => whnf
        refine ⟨_, rfl, kg4, fun x5 ex5 => ?_⟩
        conv => whnf
        refine ⟨rfl, _, _, _, _, _, _, c_G_oneIf, ⟨Nat.le_of_ble_eq_true rfl, Nat.le_of_ble_eq_true rfl, Nat.le_of_ble_eq_true rfl, Nat.le_of_ble_eq_true rfl⟩, fun _ _ z => z, ?_⟩
        rintro v9 h9 ⟨rfl, r6, rfl⟩
        have t7 : (v2 + Int32.ofInt 1).toInt = v2.toInt + 1 := j_inc1 (by omega)
        exact j_use hF (ih4 _ _ _ sc (by omega) (by omega)) (And.intro rfl (And.intro rfl (And.intro rfl trivial)))
  have M4 : ∀ (v1 : Int32) (v2 : Int32) (it : Nat → Nat → Int32) , j_Sc j_sf h it → 0 ≤ v2.toInt → (0:Int) ≤ 0 → J 4 [some (j_r (some x)), some (j_i v1), some (j_i v2)] [] (j_wi h it) 0 0 := fun v1 v2 it sc h2 _ => L4 4294967296 v1 v2 it sc h2 (by have := j_lb v2; omega)
  refine hJ [4] 400 _ _ _ _ _ _ ?_
  exact j_use hF (M4 _ _ _ sc (by omega) (by omega)) (And.intro rfl (And.intro rfl (And.intro rfl trivial)))
set_option maxHeartbeats 4000000 in
set_option maxRecDepth 20000 in
theorem c_G_countRunsLabelled {h : j_H} {it : Nat → Nat → Int32} {x : Nat} {z : Nat} (hW : j_WF h x) (sc : j_Sc j_sf h it) (kz : j_kd h z = some (.inl 4)) : j_Ct 90 3 64 0 0 [j_r (some x), j_r (some z)] (j_wi h it) (fun v h' => ∃ it', h' = j_wi h it' ∧ j_Sc j_sf h it' ∧ ∃ r, v = some (j_i r)) j_no := by
  refine j_intro km_90 (Nat.le_of_ble_eq_true rfl) ?_
  intro J hJ hF
  obtain ⟨kx, hG, L0, L1, L2, e0, l0, e1, l1, e2, l2⟩ := id hW
  have b0 := l0.2.1; have b1 := l1.2.1; have b2 := l2.2.1; have d0 := l0.2.2.1; have d1 := l1.2.2.1; have d2 := l2.2.2.1
  have L4 : ∀ (m : Nat) (v2 : Int32) (v3 : Int32) (it : Nat → Nat → Int32) , j_Sc j_sf h it → 0 ≤ v3.toInt → (2147483647 - v3.toInt) < (m : Int) → J 4 [some (j_r (some x)), some (j_r (some z)), some (j_i v2), some (j_i v3), none] [] (j_wi h it) 0 0 := by
    intro m
    induction m with
    | zero => intro v2 v3 it sc h3 hm; exact absurd hm (by have := j_ub v3; omega)
    | succ m ih4 =>
      intro v2 v3 it sc h3 hm
      have uv2 := j_ub v2
      have lv2 := j_lb v2
      have uv3 := j_ub v3
      have lv3 := j_lb v3
      refine hJ [4] 400 _ _ _ _ _ _ ?_
      conv => whnf
      refine ⟨_, rfl, kx, fun o1 eo => ?_⟩
      obtain rfl : o1 = some L1 := eo.symm.trans e1
      conv => whnf
      refine ⟨l1.1, rfl, _, _, _, _, _, _, c_AL_size l1 sc j_sf_ok, ⟨Nat.le_of_ble_eq_true rfl, Nat.le_of_ble_eq_true rfl, Nat.le_of_ble_eq_true rfl, Nat.le_of_ble_eq_true rfl⟩, fun _ _ z => z, ?_⟩
      rintro v9 h9 ⟨rfl, rfl⟩
      conv => whnf
      refine ⟨fun c2 => ?_, fun c2 => ?_⟩
      · skip
        conv => whnf
        exact ⟨trivial, ⟨Nat.le_of_ble_eq_true rfl, Nat.le_of_ble_eq_true rfl⟩, _, rfl, sc, _, rfl⟩
      · skip
        conv => whnf
        refine ⟨_, rfl, kx, fun o3 eo => ?_⟩
        obtain rfl : o3 = some L1 := eo.symm.trans e1
        conv => whnf
        refine ⟨l1.1, rfl, _, _, _, _, _, _, c_AL_get l1 sc j_sf_ok (by omega) (by omega), ⟨Nat.le_of_ble_eq_true rfl, Nat.le_of_ble_eq_true rfl, Nat.le_of_ble_eq_true rfl, Nat.le_of_ble_eq_true rfl⟩, fun _ _ z => z, ?_⟩
        rintro v9 h9 ⟨rfl, g4, rfl, kg4⟩
        conv => whnf
        refine ⟨Or.inr ⟨_, rfl, kg4⟩, ?_⟩
        conv => whnf
        refine ⟨_, rfl, kg4, fun x5 ex5 => ?_⟩
        conv => whnf
        refine ⟨fun c6 => ?_, fun c6 => ?_⟩
        · skip
          conv => whnf
          refine ⟨rfl, _, _, _, _, _, _, c_G_oneIf, ⟨Nat.le_of_ble_eq_true rfl, Nat.le_of_ble_eq_true rfl, Nat.le_of_ble_eq_true rfl, Nat.le_of_ble_eq_true rfl⟩, fun _ _ z => z, ?_⟩
          rintro v9 h9 ⟨rfl, r7, rfl⟩
          have t8 : (v3 + Int32.ofInt 1).toInt = v3.toInt + 1 := j_inc1 (by omega)
          exact j_use hF (ih4 _ _ _ sc (by omega) (by omega)) (And.intro rfl (And.intro rfl (And.intro rfl (And.intro rfl trivial))))
        · skip
          conv => whnf
          refine ⟨_, rfl, kg4, fun o9 eo => ?_⟩
          obtain ⟨b10, eb10, kb10⟩ := hG.2.2.1 _ kg4
          obtain rfl : o9 = some b10 := eo.symm.trans eb10
          conv => whnf
          refine ⟨fun c11 => ?_, fun c11 => ?_⟩
          · skip
            conv => whnf
            refine ⟨rfl, _, _, _, _, _, _, c_G_oneIf, ⟨Nat.le_of_ble_eq_true rfl, Nat.le_of_ble_eq_true rfl, Nat.le_of_ble_eq_true rfl, Nat.le_of_ble_eq_true rfl⟩, fun _ _ z => z, ?_⟩
            rintro v9 h9 ⟨rfl, r12, rfl⟩
            have t13 : (v3 + Int32.ofInt 1).toInt = v3.toInt + 1 := j_inc1 (by omega)
            exact j_use hF (ih4 _ _ _ sc (by omega) (by omega)) (And.intro rfl (And.intro rfl (And.intro rfl (And.intro rfl trivial))))
          · skip
            conv => whnf
            refine ⟨rfl, _, _, _, _, _, _, c_G_oneIf, ⟨Nat.le_of_ble_eq_true rfl, Nat.le_of_ble_eq_true rfl, Nat.le_of_ble_eq_true rfl, Nat.le_of_ble_eq_true rfl⟩, fun _ _ z => z, ?_⟩
            rintro v9 h9 ⟨rfl, r14, rfl⟩
            have t15 : (v3 + Int32.ofInt 1).toInt = v3.toInt + 1 := j_inc1 (by omega)
            exact j_use hF (ih4 _ _ _ sc (by omega) (by omega)) (And.intro rfl (And.intro rfl (And.intro rfl (And.intro rfl trivial))))
  have M4 : ∀ (v2 : Int32) (v3 : Int32) (it : Nat → Nat → Int32) , j_Sc j_sf h it → 0 ≤ v3.toInt → (0:Int) ≤ 0 → J 4 [some (j_r (some x)), some (j_r (some z)), some (j_i v2), some (j_i v3), none] [] (j_wi h it) 0 0 := fun v2 v3 it sc h3 _ => L4 4294967296 v2 v3 it sc h3 (by have := j_lb v3; omega)
  refine hJ [4] 400 _ _ _ _ _ _ ?_
  exact j_use hF (M4 _ _ _ sc (by omega) (by omega)) (And.intro rfl (And.intro rfl (And.intro rfl (And.intro rfl trivial))))
set_option maxHeartbeats 4000000 in
set_option maxRecDepth 20000 in
theorem c_G_countPrintsThatStand {h : j_H} {it : Nat → Nat → Int32} {x : Nat} (hW : j_WF h x) (sc : j_Sc j_sf h it)  : j_Ct 88 3 64 0 0 [j_r (some x)] (j_wi h it) (fun v h' => ∃ it', h' = j_wi h it' ∧ j_Sc j_sf h it' ∧ ∃ r, v = some (j_i r)) j_no := by
  refine j_intro km_88 (Nat.le_of_ble_eq_true rfl) ?_
  intro J hJ hF
  obtain ⟨kx, hG, L0, L1, L2, e0, l0, e1, l1, e2, l2⟩ := id hW
  have b0 := l0.2.1; have b1 := l1.2.1; have b2 := l2.2.1; have d0 := l0.2.2.1; have d1 := l1.2.2.1; have d2 := l2.2.2.1
  have L4 : ∀ (m : Nat) (v1 : Int32) (v2 : Int32) (it : Nat → Nat → Int32) , j_Sc j_sf h it → 0 ≤ v2.toInt → (2147483647 - v2.toInt) < (m : Int) → J 4 [some (j_r (some x)), some (j_i v1), some (j_i v2)] [] (j_wi h it) 0 0 := by
    intro m
    induction m with
    | zero => intro v1 v2 it sc h2 hm; exact absurd hm (by have := j_ub v2; omega)
    | succ m ih4 =>
      intro v1 v2 it sc h2 hm
      have uv1 := j_ub v1
      have lv1 := j_lb v1
      have uv2 := j_ub v2
      have lv2 := j_lb v2
      refine hJ [4] 400 _ _ _ _ _ _ ?_
      conv => whnf
      refine ⟨_, rfl, kx, fun o1 eo => ?_⟩
      obtain rfl : o1 = some L2 := eo.symm.trans e2
      conv => whnf
      refine ⟨l2.1, rfl, _, _, _, _, _, _, c_AL_size l2 sc j_sf_ok, ⟨Nat.le_of_ble_eq_true rfl, Nat.le_of_ble_eq_true rfl, Nat.le_of_ble_eq_true rfl, Nat.le_of_ble_eq_true rfl⟩, fun _ _ z => z, ?_⟩
      rintro v9 h9 ⟨rfl, rfl⟩
      conv => whnf
      refine ⟨fun c2 => ?_, fun c2 => ?_⟩
      · skip
        conv => whnf
        exact ⟨trivial, ⟨Nat.le_of_ble_eq_true rfl, Nat.le_of_ble_eq_true rfl⟩, _, rfl, sc, _, rfl⟩
      · skip
        conv => whnf
        refine ⟨_, rfl, kx, fun o3 eo => ?_⟩
        obtain rfl : o3 = some L2 := eo.symm.trans e2
        conv => whnf
        refine ⟨l2.1, rfl, _, _, _, _, _, _, c_AL_get l2 sc j_sf_ok (by omega) (by omega), ⟨Nat.le_of_ble_eq_true rfl, Nat.le_of_ble_eq_true rfl, Nat.le_of_ble_eq_true rfl, Nat.le_of_ble_eq_true rfl⟩, fun _ _ z => z, ?_⟩
        rintro v9 h9 ⟨rfl, g4, rfl, kg4⟩
        conv => whnf
        refine ⟨Or.inr ⟨_, rfl, kg4⟩, ?_⟩
        conv => whnf
        refine ⟨kx, rfl, _, _, _, _, _, _, c_G_allStandFrom hW sc (Or.inr ⟨_, rfl, kg4⟩), ⟨Nat.le_of_ble_eq_true rfl, Nat.le_of_ble_eq_true rfl, Nat.le_of_ble_eq_true rfl, Nat.le_of_ble_eq_true rfl⟩, fun _ _ z => z, ?_⟩
        rintro v9 h9 ⟨it6, rfl, sit6, r5, rfl, zr5⟩
        conv => whnf
        refine ⟨rfl, _, _, _, _, _, _, c_G_oneIf, ⟨Nat.le_of_ble_eq_true rfl, Nat.le_of_ble_eq_true rfl, Nat.le_of_ble_eq_true rfl, Nat.le_of_ble_eq_true rfl⟩, fun _ _ z => z, ?_⟩
        rintro v9 h9 ⟨rfl, r7, rfl⟩
        have t8 : (v2 + Int32.ofInt 1).toInt = v2.toInt + 1 := j_inc1 (by omega)
        exact j_use hF (ih4 _ _ _ sit6 (by omega) (by omega)) (And.intro rfl (And.intro rfl (And.intro rfl trivial)))
  have M4 : ∀ (v1 : Int32) (v2 : Int32) (it : Nat → Nat → Int32) , j_Sc j_sf h it → 0 ≤ v2.toInt → (0:Int) ≤ 0 → J 4 [some (j_r (some x)), some (j_i v1), some (j_i v2)] [] (j_wi h it) 0 0 := fun v1 v2 it sc h2 _ => L4 4294967296 v1 v2 it sc h2 (by have := j_lb v2; omega)
  refine hJ [4] 400 _ _ _ _ _ _ ?_
  exact j_use hF (M4 _ _ _ sc (by omega) (by omega)) (And.intro rfl (And.intro rfl (And.intro rfl trivial)))
set_option maxHeartbeats 4000000 in
set_option maxRecDepth 20000 in
theorem c_G_earlyOf {h : j_H} {it : Nat → Nat → Int32} {x : Nat} {z : Nat} {a : Int32} {b : Int32} (hW : j_WF h x) (sc : j_Sc j_sf h it) (kz : j_kd h z = some (.inl 4)) : j_Ct 97 3 64 0 0 [j_r (some x), j_r (some z), j_i a, j_i b] (j_wi h it) (fun v h' => ∃ it', h' = j_wi h it' ∧ j_Sc j_sf h it' ∧ ∃ r, v = some (j_i r)) j_no := by
  refine j_intro km_97 (Nat.le_of_ble_eq_true rfl) ?_
  intro J hJ hF
  obtain ⟨kx, hG, L0, L1, L2, e0, l0, e1, l1, e2, l2⟩ := id hW
  have b0 := l0.2.1; have b1 := l1.2.1; have b2 := l2.2.1; have d0 := l0.2.2.1; have d1 := l1.2.2.1; have d2 := l2.2.2.1
  have L6 : ∀ (m : Nat) (v2 : Int32) (v3 : Int32) (v4 : Int32) (v5 : Int32) (it : Nat → Nat → Int32) , j_Sc j_sf h it → 0 ≤ v5.toInt → (2147483647 - v5.toInt) < (m : Int) → J 6 [some (j_r (some x)), some (j_r (some z)), some (j_i v2), some (j_i v3), some (j_i v4), some (j_i v5), none] [] (j_wi h it) 0 0 := by
    intro m
    induction m with
    | zero => intro v2 v3 v4 v5 it sc h5 hm; exact absurd hm (by have := j_ub v5; omega)
    | succ m ih6 =>
      intro v2 v3 v4 v5 it sc h5 hm
      have uv2 := j_ub v2
      have lv2 := j_lb v2
      have uv3 := j_ub v3
      have lv3 := j_lb v3
      have uv4 := j_ub v4
      have lv4 := j_lb v4
      have uv5 := j_ub v5
      have lv5 := j_lb v5
      refine hJ [6] 400 _ _ _ _ _ _ ?_
      conv => whnf
      refine ⟨_, rfl, kx, fun o1 eo => ?_⟩
      obtain rfl : o1 = some L1 := eo.symm.trans e1
      conv => whnf
      refine ⟨l1.1, rfl, _, _, _, _, _, _, c_AL_size l1 sc j_sf_ok, ⟨Nat.le_of_ble_eq_true rfl, Nat.le_of_ble_eq_true rfl, Nat.le_of_ble_eq_true rfl, Nat.le_of_ble_eq_true rfl⟩, fun _ _ z => z, ?_⟩
      rintro v9 h9 ⟨rfl, rfl⟩
      conv => whnf
      refine ⟨fun c2 => ?_, fun c2 => ?_⟩
      · skip
        conv => whnf
        exact ⟨trivial, ⟨Nat.le_of_ble_eq_true rfl, Nat.le_of_ble_eq_true rfl⟩, _, rfl, sc, _, rfl⟩
      · skip
        conv => whnf
        refine ⟨_, rfl, kx, fun o3 eo => ?_⟩
        obtain rfl : o3 = some L1 := eo.symm.trans e1
        conv => whnf
        refine ⟨l1.1, rfl, _, _, _, _, _, _, c_AL_get l1 sc j_sf_ok (by omega) (by omega), ⟨Nat.le_of_ble_eq_true rfl, Nat.le_of_ble_eq_true rfl, Nat.le_of_ble_eq_true rfl, Nat.le_of_ble_eq_true rfl⟩, fun _ _ z => z, ?_⟩
        rintro v9 h9 ⟨rfl, g4, rfl, kg4⟩
        conv => whnf
        refine ⟨Or.inr ⟨_, rfl, kg4⟩, ?_⟩
        conv => whnf
        refine ⟨_, rfl, kg4, fun x5 ex5 => ?_⟩
        conv => whnf
        refine ⟨fun c6 => ?_, fun c6 => ?_⟩
        · skip
          have t7 : (v5 + Int32.ofInt 1).toInt = v5.toInt + 1 := j_inc1 (by omega)
          exact j_use hF (ih6 _ _ _ _ _ sc (by omega) (by omega)) (And.intro rfl (And.intro rfl (And.intro rfl (And.intro rfl (And.intro rfl (And.intro rfl trivial))))))
        · skip
          conv => whnf
          refine ⟨kg4, rfl, _, _, _, _, _, _, c_Run_tellsOf kg4 kz, ⟨Nat.le_of_ble_eq_true rfl, Nat.le_of_ble_eq_true rfl, Nat.le_of_ble_eq_true rfl, Nat.le_of_ble_eq_true rfl⟩, fun _ _ z => z, ?_⟩
          rintro v9 h9 ⟨rfl, r8, rfl, zr8⟩
          conv => whnf
          refine ⟨fun c9 => ?_, fun c9 => ?_⟩
          · skip
            have t10 : (v5 + Int32.ofInt 1).toInt = v5.toInt + 1 := j_inc1 (by omega)
            exact j_use hF (ih6 _ _ _ _ _ sc (by omega) (by omega)) (And.intro rfl (And.intro rfl (And.intro rfl (And.intro rfl (And.intro rfl (And.intro rfl trivial))))))
          · skip
            conv => whnf
            refine ⟨_, rfl, kx, fun x11 ex11 => ?_⟩
            conv => whnf
            refine ⟨kg4, rfl, _, _, _, _, _, _, c_Run_earlyIn kg4, ⟨Nat.le_of_ble_eq_true rfl, Nat.le_of_ble_eq_true rfl, Nat.le_of_ble_eq_true rfl, Nat.le_of_ble_eq_true rfl⟩, fun _ _ z => z, ?_⟩
            rintro v9 h9 ⟨rfl, r12, rfl⟩
            conv => whnf
            refine ⟨⟨Nat.le_of_ble_eq_true rfl, Nat.le_of_ble_eq_true rfl, Nat.le_of_ble_eq_true rfl, Nat.le_of_ble_eq_true rfl⟩, ?_⟩
            have t13 : (v5 + Int32.ofInt 1).toInt = v5.toInt + 1 := j_inc1 (by omega)
            exact j_use hF (ih6 _ _ _ _ _ sc (by omega) (by omega)) (And.intro rfl (And.intro rfl (And.intro rfl (And.intro rfl (And.intro rfl (And.intro rfl trivial))))))
  have M6 : ∀ (v2 : Int32) (v3 : Int32) (v4 : Int32) (v5 : Int32) (it : Nat → Nat → Int32) , j_Sc j_sf h it → 0 ≤ v5.toInt → (0:Int) ≤ 0 → J 6 [some (j_r (some x)), some (j_r (some z)), some (j_i v2), some (j_i v3), some (j_i v4), some (j_i v5), none] [] (j_wi h it) 0 0 := fun v2 v3 v4 v5 it sc h5 _ => L6 4294967296 v2 v3 v4 v5 it sc h5 (by have := j_lb v5; omega)
  refine hJ [6] 400 _ _ _ _ _ _ ?_
  exact j_use hF (M6 _ _ _ _ _ sc (by omega) (by omega)) (And.intro rfl (And.intro rfl (And.intro rfl (And.intro rfl (And.intro rfl (And.intro rfl trivial))))))
set_option maxHeartbeats 4000000 in
set_option maxRecDepth 20000 in
theorem c_G_lateOf {h : j_H} {it : Nat → Nat → Int32} {x : Nat} {z : Nat} {a : Int32} {b : Int32} (hW : j_WF h x) (sc : j_Sc j_sf h it) (kz : j_kd h z = some (.inl 4)) : j_Ct 112 3 64 0 0 [j_r (some x), j_r (some z), j_i a, j_i b] (j_wi h it) (fun v h' => ∃ it', h' = j_wi h it' ∧ j_Sc j_sf h it' ∧ ∃ r, v = some (j_i r)) j_no := by
  refine j_intro km_112 (Nat.le_of_ble_eq_true rfl) ?_
  intro J hJ hF
  obtain ⟨kx, hG, L0, L1, L2, e0, l0, e1, l1, e2, l2⟩ := id hW
  have b0 := l0.2.1; have b1 := l1.2.1; have b2 := l2.2.1; have d0 := l0.2.2.1; have d1 := l1.2.2.1; have d2 := l2.2.2.1
  have L8 : ∀ (m : Nat) (v2 : Int32) (v3 : Int32) (v4 : Int32) (v5 : Int32) (it : Nat → Nat → Int32) , j_Sc j_sf h it → 0 ≤ v5.toInt → (2147483647 - v5.toInt) < (m : Int) → J 8 [some (j_r (some x)), some (j_r (some z)), some (j_i v2), some (j_i v3), some (j_i v4), some (j_i v5), none] [] (j_wi h it) 0 0 := by
    intro m
    induction m with
    | zero => intro v2 v3 v4 v5 it sc h5 hm; exact absurd hm (by have := j_ub v5; omega)
    | succ m ih8 =>
      intro v2 v3 v4 v5 it sc h5 hm
      have uv2 := j_ub v2
      have lv2 := j_lb v2
      have uv3 := j_ub v3
      have lv3 := j_lb v3
      have uv4 := j_ub v4
      have lv4 := j_lb v4
      have uv5 := j_ub v5
      have lv5 := j_lb v5
      refine hJ [8] 400 _ _ _ _ _ _ ?_
      conv => whnf
      refine ⟨_, rfl, kx, fun o1 eo => ?_⟩
      obtain rfl : o1 = some L1 := eo.symm.trans e1
      conv => whnf
      refine ⟨l1.1, rfl, _, _, _, _, _, _, c_AL_size l1 sc j_sf_ok, ⟨Nat.le_of_ble_eq_true rfl, Nat.le_of_ble_eq_true rfl, Nat.le_of_ble_eq_true rfl, Nat.le_of_ble_eq_true rfl⟩, fun _ _ z => z, ?_⟩
      rintro v9 h9 ⟨rfl, rfl⟩
      conv => whnf
      refine ⟨fun c2 => ?_, fun c2 => ?_⟩
      · skip
        conv => whnf
        exact ⟨trivial, ⟨Nat.le_of_ble_eq_true rfl, Nat.le_of_ble_eq_true rfl⟩, _, rfl, sc, _, rfl⟩
      · skip
        conv => whnf
        refine ⟨_, rfl, kx, fun o3 eo => ?_⟩
        obtain rfl : o3 = some L1 := eo.symm.trans e1
        conv => whnf
        refine ⟨l1.1, rfl, _, _, _, _, _, _, c_AL_get l1 sc j_sf_ok (by omega) (by omega), ⟨Nat.le_of_ble_eq_true rfl, Nat.le_of_ble_eq_true rfl, Nat.le_of_ble_eq_true rfl, Nat.le_of_ble_eq_true rfl⟩, fun _ _ z => z, ?_⟩
        rintro v9 h9 ⟨rfl, g4, rfl, kg4⟩
        conv => whnf
        refine ⟨Or.inr ⟨_, rfl, kg4⟩, ?_⟩
        conv => whnf
        refine ⟨_, rfl, kg4, fun x5 ex5 => ?_⟩
        conv => whnf
        refine ⟨fun c6 => ?_, fun c6 => ?_⟩
        · skip
          have t7 : (v5 + Int32.ofInt 1).toInt = v5.toInt + 1 := j_inc1 (by omega)
          exact j_use hF (ih8 _ _ _ _ _ sc (by omega) (by omega)) (And.intro rfl (And.intro rfl (And.intro rfl (And.intro rfl (And.intro rfl (And.intro rfl trivial))))))
        · skip
          conv => whnf
          refine ⟨kg4, rfl, _, _, _, _, _, _, c_Run_tellsOf kg4 kz, ⟨Nat.le_of_ble_eq_true rfl, Nat.le_of_ble_eq_true rfl, Nat.le_of_ble_eq_true rfl, Nat.le_of_ble_eq_true rfl⟩, fun _ _ z => z, ?_⟩
          rintro v9 h9 ⟨rfl, r8, rfl, zr8⟩
          conv => whnf
          refine ⟨fun c9 => ?_, fun c9 => ?_⟩
          · skip
            have t10 : (v5 + Int32.ofInt 1).toInt = v5.toInt + 1 := j_inc1 (by omega)
            exact j_use hF (ih8 _ _ _ _ _ sc (by omega) (by omega)) (And.intro rfl (And.intro rfl (And.intro rfl (And.intro rfl (And.intro rfl (And.intro rfl trivial))))))
          · skip
            conv => whnf
            refine ⟨_, rfl, kx, fun x11 ex11 => ?_⟩
            conv => whnf
            refine ⟨kg4, rfl, _, _, _, _, _, _, c_Run_lateIn kg4, ⟨Nat.le_of_ble_eq_true rfl, Nat.le_of_ble_eq_true rfl, Nat.le_of_ble_eq_true rfl, Nat.le_of_ble_eq_true rfl⟩, fun _ _ z => z, ?_⟩
            rintro v9 h9 ⟨rfl, r12, rfl⟩
            conv => whnf
            refine ⟨⟨Nat.le_of_ble_eq_true rfl, Nat.le_of_ble_eq_true rfl, Nat.le_of_ble_eq_true rfl, Nat.le_of_ble_eq_true rfl⟩, ?_⟩
            have t13 : (v5 + Int32.ofInt 1).toInt = v5.toInt + 1 := j_inc1 (by omega)
            exact j_use hF (ih8 _ _ _ _ _ sc (by omega) (by omega)) (And.intro rfl (And.intro rfl (And.intro rfl (And.intro rfl (And.intro rfl (And.intro rfl trivial))))))
  have M8 : ∀ (v2 : Int32) (v3 : Int32) (v4 : Int32) (v5 : Int32) (it : Nat → Nat → Int32) , j_Sc j_sf h it → 0 ≤ v5.toInt → (0:Int) ≤ 0 → J 8 [some (j_r (some x)), some (j_r (some z)), some (j_i v2), some (j_i v3), some (j_i v4), some (j_i v5), none] [] (j_wi h it) 0 0 := fun v2 v3 v4 v5 it sc h5 _ => L8 4294967296 v2 v3 v4 v5 it sc h5 (by have := j_lb v5; omega)
  refine hJ [8] 400 _ _ _ _ _ _ ?_
  exact j_use hF (M8 _ _ _ _ _ sc (by omega) (by omega)) (And.intro rfl (And.intro rfl (And.intro rfl (And.intro rfl (And.intro rfl (And.intro rfl trivial))))))
set_option maxHeartbeats 4000000 in
set_option maxRecDepth 20000 in
theorem c_G_countQuarrels {h : j_H} {it : Nat → Nat → Int32} {x : Nat} (hW : j_WF h x) (sc : j_Sc j_sf h it)  : j_Ct 89 4 90 0 0 [j_r (some x)] (j_wi h it) (fun v h' => ∃ it', h' = j_wi h it' ∧ j_Sc j_sf h it' ∧ ∃ r, v = some (j_i r)) j_no := by
  refine j_intro km_89 (Nat.le_of_ble_eq_true rfl) ?_
  intro J hJ hF
  obtain ⟨kx, hG, L0, L1, L2, e0, l0, e1, l1, e2, l2⟩ := id hW
  have b0 := l0.2.1; have b1 := l1.2.1; have b2 := l2.2.1; have d0 := l0.2.2.1; have d1 := l1.2.2.1; have d2 := l2.2.2.1
  have L4 : ∀ (m : Nat) (v1 : Int32) (v2 : Int32) (it : Nat → Nat → Int32) , j_Sc j_sf h it → 0 ≤ v2.toInt → (2147483647 - v2.toInt) < (m : Int) → J 4 [some (j_r (some x)), some (j_i v1), some (j_i v2), none] [] (j_wi h it) 0 0 := by
    intro m
    induction m with
    | zero => intro v1 v2 it sc h2 hm; exact absurd hm (by have := j_ub v2; omega)
    | succ m ih4 =>
      intro v1 v2 it sc h2 hm
      have uv1 := j_ub v1
      have lv1 := j_lb v1
      have uv2 := j_ub v2
      have lv2 := j_lb v2
      refine hJ [4] 400 _ _ _ _ _ _ ?_
      conv => whnf
      refine ⟨_, rfl, kx, fun o1 eo => ?_⟩
      obtain rfl : o1 = some L0 := eo.symm.trans e0
      conv => whnf
      refine ⟨l0.1, rfl, _, _, _, _, _, _, c_AL_size l0 sc j_sf_ok, ⟨Nat.le_of_ble_eq_true rfl, Nat.le_of_ble_eq_true rfl, Nat.le_of_ble_eq_true rfl, Nat.le_of_ble_eq_true rfl⟩, fun _ _ z => z, ?_⟩
      rintro v9 h9 ⟨rfl, rfl⟩
      conv => whnf
      refine ⟨fun c2 => ?_, fun c2 => ?_⟩
      · skip
        conv => whnf
        exact ⟨trivial, ⟨Nat.le_of_ble_eq_true rfl, Nat.le_of_ble_eq_true rfl⟩, _, rfl, sc, _, rfl⟩
      · skip
        conv => whnf
        refine ⟨_, rfl, kx, fun o3 eo => ?_⟩
        obtain rfl : o3 = some L0 := eo.symm.trans e0
        conv => whnf
        refine ⟨l0.1, rfl, _, _, _, _, _, _, c_AL_get l0 sc j_sf_ok (by omega) (by omega), ⟨Nat.le_of_ble_eq_true rfl, Nat.le_of_ble_eq_true rfl, Nat.le_of_ble_eq_true rfl, Nat.le_of_ble_eq_true rfl⟩, fun _ _ z => z, ?_⟩
        rintro v9 h9 ⟨rfl, g4, rfl, kg4⟩
        conv => whnf
        refine ⟨Or.inr ⟨_, rfl, kg4⟩, ?_⟩
        conv => whnf
        refine ⟨kx, rfl, _, _, _, _, _, _, c_G_earlyOf hW sc kg4, ⟨Nat.le_of_ble_eq_true rfl, Nat.le_of_ble_eq_true rfl, Nat.le_of_ble_eq_true rfl, Nat.le_of_ble_eq_true rfl⟩, fun _ _ z => z, ?_⟩
        rintro v9 h9 ⟨it6, rfl, sit6, r5, rfl⟩
        conv => whnf
        refine ⟨kx, rfl, _, _, _, _, _, _, c_G_lateOf hW sit6 kg4, ⟨Nat.le_of_ble_eq_true rfl, Nat.le_of_ble_eq_true rfl, Nat.le_of_ble_eq_true rfl, Nat.le_of_ble_eq_true rfl⟩, fun _ _ z => z, ?_⟩
        rintro v9 h9 ⟨it8, rfl, sit8, r7, rfl⟩
        conv => whnf
        refine ⟨fun c9 => ?_, fun c9 => ?_⟩
        · skip
          conv => whnf
          refine ⟨rfl, _, _, _, _, _, _, c_G_oneIf, ⟨Nat.le_of_ble_eq_true rfl, Nat.le_of_ble_eq_true rfl, Nat.le_of_ble_eq_true rfl, Nat.le_of_ble_eq_true rfl⟩, fun _ _ z => z, ?_⟩
          rintro v9 h9 ⟨rfl, r10, rfl⟩
          have t11 : (v2 + Int32.ofInt 1).toInt = v2.toInt + 1 := j_inc1 (by omega)
          exact j_use hF (ih4 _ _ _ sit8 (by omega) (by omega)) (And.intro rfl (And.intro rfl (And.intro rfl trivial)))
        · skip
          conv => whnf
          refine ⟨rfl, _, _, _, _, _, _, c_G_oneIf, ⟨Nat.le_of_ble_eq_true rfl, Nat.le_of_ble_eq_true rfl, Nat.le_of_ble_eq_true rfl, Nat.le_of_ble_eq_true rfl⟩, fun _ _ z => z, ?_⟩
          rintro v9 h9 ⟨rfl, r12, rfl⟩
          have t13 : (v2 + Int32.ofInt 1).toInt = v2.toInt + 1 := j_inc1 (by omega)
          exact j_use hF (ih4 _ _ _ sit8 (by omega) (by omega)) (And.intro rfl (And.intro rfl (And.intro rfl trivial)))
  have M4 : ∀ (v1 : Int32) (v2 : Int32) (it : Nat → Nat → Int32) , j_Sc j_sf h it → 0 ≤ v2.toInt → (0:Int) ≤ 0 → J 4 [some (j_r (some x)), some (j_i v1), some (j_i v2), none] [] (j_wi h it) 0 0 := fun v1 v2 it sc h2 _ => L4 4294967296 v1 v2 it sc h2 (by have := j_lb v2; omega)
  refine hJ [4] 400 _ _ _ _ _ _ ?_
  exact j_use hF (M4 _ _ _ sc (by omega) (by omega)) (And.intro rfl (And.intro rfl (And.intro rfl trivial)))
set_option maxHeartbeats 4000000 in
set_option maxRecDepth 20000 in
theorem c_G_countMotesEver {h : j_H} {it : Nat → Nat → Int32} {x : Nat} (hW : j_WF h x) (sc : j_Sc j_sf h it)  : j_Ct 86 3 64 0 0 [j_r (some x)] (j_wi h it) (fun v h' => ∃ it', h' = j_wi h it' ∧ j_Sc j_sf h it' ∧ ∃ r, v = some (j_i r)) j_no := by
  refine j_intro km_86 (Nat.le_of_ble_eq_true rfl) ?_
  intro J hJ hF
  obtain ⟨kx, hG, L0, L1, L2, e0, l0, e1, l1, e2, l2⟩ := id hW
  have b0 := l0.2.1; have b1 := l1.2.1; have b2 := l2.2.1; have d0 := l0.2.2.1; have d1 := l1.2.2.1; have d2 := l2.2.2.1
  have L4 : ∀ (m : Nat) (v1 : Int32) (v2 : Int32) (it : Nat → Nat → Int32) , j_Sc j_sf h it → 0 ≤ v2.toInt → (2147483647 - v2.toInt) < (m : Int) → J 4 [some (j_r (some x)), some (j_i v1), some (j_i v2), none] [] (j_wi h it) 0 0 := by
    intro m
    induction m with
    | zero => intro v1 v2 it sc h2 hm; exact absurd hm (by have := j_ub v2; omega)
    | succ m ih4 =>
      intro v1 v2 it sc h2 hm
      have uv1 := j_ub v1
      have lv1 := j_lb v1
      have uv2 := j_ub v2
      have lv2 := j_lb v2
      refine hJ [4] 400 _ _ _ _ _ _ ?_
      conv => whnf
      refine ⟨_, rfl, kx, fun o1 eo => ?_⟩
      obtain rfl : o1 = some L0 := eo.symm.trans e0
      conv => whnf
      refine ⟨l0.1, rfl, _, _, _, _, _, _, c_AL_size l0 sc j_sf_ok, ⟨Nat.le_of_ble_eq_true rfl, Nat.le_of_ble_eq_true rfl, Nat.le_of_ble_eq_true rfl, Nat.le_of_ble_eq_true rfl⟩, fun _ _ z => z, ?_⟩
      rintro v9 h9 ⟨rfl, rfl⟩
      conv => whnf
      refine ⟨fun c2 => ?_, fun c2 => ?_⟩
      · skip
        conv => whnf
        exact ⟨trivial, ⟨Nat.le_of_ble_eq_true rfl, Nat.le_of_ble_eq_true rfl⟩, _, rfl, sc, _, rfl⟩
      · skip
        conv => whnf
        refine ⟨_, rfl, kx, fun o3 eo => ?_⟩
        obtain rfl : o3 = some L0 := eo.symm.trans e0
        conv => whnf
        refine ⟨l0.1, rfl, _, _, _, _, _, _, c_AL_get l0 sc j_sf_ok (by omega) (by omega), ⟨Nat.le_of_ble_eq_true rfl, Nat.le_of_ble_eq_true rfl, Nat.le_of_ble_eq_true rfl, Nat.le_of_ble_eq_true rfl⟩, fun _ _ z => z, ?_⟩
        rintro v9 h9 ⟨rfl, g4, rfl, kg4⟩
        conv => whnf
        refine ⟨Or.inr ⟨_, rfl, kg4⟩, ?_⟩
        conv => whnf
        refine ⟨_, rfl, kg4, fun o5 eo => ?_⟩
        obtain ⟨b6, eb6, kb6⟩ := hG.1 _ kg4
        obtain rfl : o5 = some b6 := eo.symm.trans eb6
        conv => whnf
        refine ⟨_, rfl, kb6, fun x7 ex7 => ?_⟩
        conv => whnf
        refine ⟨_, rfl, kg4, fun o8 eo => ?_⟩
        obtain ⟨b9, eb9, kb9⟩ := hG.2.1 _ kg4
        obtain rfl : o8 = some b9 := eo.symm.trans eb9
        conv => whnf
        refine ⟨_, rfl, kb9, fun x10 ex10 => ?_⟩
        have t11 : (v2 + Int32.ofInt 1).toInt = v2.toInt + 1 := j_inc1 (by omega)
        exact j_use hF (ih4 _ _ _ sc (by omega) (by omega)) (And.intro rfl (And.intro rfl (And.intro rfl trivial)))
  have M4 : ∀ (v1 : Int32) (v2 : Int32) (it : Nat → Nat → Int32) , j_Sc j_sf h it → 0 ≤ v2.toInt → (0:Int) ≤ 0 → J 4 [some (j_r (some x)), some (j_i v1), some (j_i v2), none] [] (j_wi h it) 0 0 := fun v1 v2 it sc h2 _ => L4 4294967296 v1 v2 it sc h2 (by have := j_lb v2; omega)
  refine hJ [4] 400 _ _ _ _ _ _ ?_
  exact j_use hF (M4 _ _ _ sc (by omega) (by omega)) (And.intro rfl (And.intro rfl (And.intro rfl trivial)))
set_option maxHeartbeats 4000000 in
set_option maxRecDepth 20000 in
theorem c_G_narrowedEarly {h : j_H} {it : Nat → Nat → Int32} {x : Nat} {z : Nat} (hW : j_WF h x) (sc : j_Sc j_sf h it) (kz : j_kd h z = some (.inl 4)) : j_Ct 119 4 90 0 0 [j_r (some x), j_r (some z)] (j_wi h it) (fun v h' => ∃ it', h' = j_wi h it' ∧ j_Sc j_sf h it' ∧ ∃ r, v = some (j_i r)) j_no := by
  refine j_intro km_119 (Nat.le_of_ble_eq_true rfl) ?_
  intro J hJ hF
  obtain ⟨kx, hG, L0, L1, L2, e0, l0, e1, l1, e2, l2⟩ := id hW
  have b0 := l0.2.1; have b1 := l1.2.1; have b2 := l2.2.1; have d0 := l0.2.2.1; have d1 := l1.2.2.1; have d2 := l2.2.2.1
  have L10 : ∀ (m : Nat) (v2 : Int32) (v3 : Int32) (it : Nat → Nat → Int32) , j_Sc j_sf h it → 0 ≤ v3.toInt → (2147483647 - v3.toInt) < (m : Int) → J 10 [some (j_r (some x)), some (j_r (some z)), some (j_i v2), some (j_i v3), none] [] (j_wi h it) 0 0 := by
    intro m
    induction m with
    | zero => intro v2 v3 it sc h3 hm; exact absurd hm (by have := j_ub v3; omega)
    | succ m ih10 =>
      intro v2 v3 it sc h3 hm
      have uv2 := j_ub v2
      have lv2 := j_lb v2
      have uv3 := j_ub v3
      have lv3 := j_lb v3
      refine hJ [10] 400 _ _ _ _ _ _ ?_
      conv => whnf
      refine ⟨_, rfl, kx, fun o1 eo => ?_⟩
      obtain rfl : o1 = some L0 := eo.symm.trans e0
      conv => whnf
      refine ⟨l0.1, rfl, _, _, _, _, _, _, c_AL_size l0 sc j_sf_ok, ⟨Nat.le_of_ble_eq_true rfl, Nat.le_of_ble_eq_true rfl, Nat.le_of_ble_eq_true rfl, Nat.le_of_ble_eq_true rfl⟩, fun _ _ z => z, ?_⟩
      rintro v9 h9 ⟨rfl, rfl⟩
      conv => whnf
      refine ⟨fun c2 => ?_, fun c2 => ?_⟩
      · skip
        conv => whnf
        exact ⟨trivial, ⟨Nat.le_of_ble_eq_true rfl, Nat.le_of_ble_eq_true rfl⟩, _, rfl, sc, _, rfl⟩
      · skip
        conv => whnf
        refine ⟨_, rfl, kx, fun o3 eo => ?_⟩
        obtain rfl : o3 = some L0 := eo.symm.trans e0
        conv => whnf
        refine ⟨l0.1, rfl, _, _, _, _, _, _, c_AL_get l0 sc j_sf_ok (by omega) (by omega), ⟨Nat.le_of_ble_eq_true rfl, Nat.le_of_ble_eq_true rfl, Nat.le_of_ble_eq_true rfl, Nat.le_of_ble_eq_true rfl⟩, fun _ _ z => z, ?_⟩
        rintro v9 h9 ⟨rfl, g4, rfl, kg4⟩
        conv => whnf
        refine ⟨Or.inr ⟨_, rfl, kg4⟩, ?_⟩
        conv => whnf
        refine ⟨_, rfl, kg4, fun x5 ex5 => ?_⟩
        conv => whnf
        refine ⟨_, rfl, kz, fun x6 ex6 => ?_⟩
        conv => whnf
        refine ⟨fun c7 => ?_, fun c7 => ?_⟩
        · skip
          have t8 : (v3 + Int32.ofInt 1).toInt = v3.toInt + 1 := j_inc1 (by omega)
          exact j_use hF (ih10 _ _ _ sc (by omega) (by omega)) (And.intro rfl (And.intro rfl (And.intro rfl (And.intro rfl trivial))))
        · skip
          conv => whnf
          refine ⟨kx, rfl, _, _, _, _, _, _, c_G_earlyOf hW sc kg4, ⟨Nat.le_of_ble_eq_true rfl, Nat.le_of_ble_eq_true rfl, Nat.le_of_ble_eq_true rfl, Nat.le_of_ble_eq_true rfl⟩, fun _ _ z => z, ?_⟩
          rintro v9 h9 ⟨it10, rfl, sit10, r9, rfl⟩
          conv => whnf
          refine ⟨⟨Nat.le_of_ble_eq_true rfl, Nat.le_of_ble_eq_true rfl, Nat.le_of_ble_eq_true rfl, Nat.le_of_ble_eq_true rfl⟩, ?_⟩
          have t11 : (v3 + Int32.ofInt 1).toInt = v3.toInt + 1 := j_inc1 (by omega)
          exact j_use hF (ih10 _ _ _ sit10 (by omega) (by omega)) (And.intro rfl (And.intro rfl (And.intro rfl (And.intro rfl trivial))))
  have M10 : ∀ (v2 : Int32) (v3 : Int32) (it : Nat → Nat → Int32) , j_Sc j_sf h it → 0 ≤ v3.toInt → (0:Int) ≤ 0 → J 10 [some (j_r (some x)), some (j_r (some z)), some (j_i v2), some (j_i v3), none] [] (j_wi h it) 0 0 := fun v2 v3 it sc h3 _ => L10 4294967296 v2 v3 it sc h3 (by have := j_lb v3; omega)
  refine hJ [10] 400 _ _ _ _ _ _ ?_
  conv => whnf
  refine ⟨kx, rfl, _, _, _, _, _, _, c_G_earlyOf hW sc kz, ⟨Nat.le_of_ble_eq_true rfl, Nat.le_of_ble_eq_true rfl, Nat.le_of_ble_eq_true rfl, Nat.le_of_ble_eq_true rfl⟩, fun _ _ z => z, ?_⟩
  rintro v9 h9 ⟨it13, rfl, sit13, r12, rfl⟩
  exact j_use hF (M10 _ _ _ sit13 (by omega) (by omega)) (And.intro rfl (And.intro rfl (And.intro rfl (And.intro rfl trivial))))
set_option maxHeartbeats 4000000 in
set_option maxRecDepth 20000 in
theorem c_G_narrowedLate {h : j_H} {it : Nat → Nat → Int32} {x : Nat} {z : Nat} (hW : j_WF h x) (sc : j_Sc j_sf h it) (kz : j_kd h z = some (.inl 4)) : j_Ct 120 4 90 0 0 [j_r (some x), j_r (some z)] (j_wi h it) (fun v h' => ∃ it', h' = j_wi h it' ∧ j_Sc j_sf h it' ∧ ∃ r, v = some (j_i r)) j_no := by
  refine j_intro km_120 (Nat.le_of_ble_eq_true rfl) ?_
  intro J hJ hF
  obtain ⟨kx, hG, L0, L1, L2, e0, l0, e1, l1, e2, l2⟩ := id hW
  have b0 := l0.2.1; have b1 := l1.2.1; have b2 := l2.2.1; have d0 := l0.2.2.1; have d1 := l1.2.2.1; have d2 := l2.2.2.1
  have L10 : ∀ (m : Nat) (v2 : Int32) (v3 : Int32) (it : Nat → Nat → Int32) , j_Sc j_sf h it → 0 ≤ v3.toInt → (2147483647 - v3.toInt) < (m : Int) → J 10 [some (j_r (some x)), some (j_r (some z)), some (j_i v2), some (j_i v3), none] [] (j_wi h it) 0 0 := by
    intro m
    induction m with
    | zero => intro v2 v3 it sc h3 hm; exact absurd hm (by have := j_ub v3; omega)
    | succ m ih10 =>
      intro v2 v3 it sc h3 hm
      have uv2 := j_ub v2
      have lv2 := j_lb v2
      have uv3 := j_ub v3
      have lv3 := j_lb v3
      refine hJ [10] 400 _ _ _ _ _ _ ?_
      conv => whnf
      refine ⟨_, rfl, kx, fun o1 eo => ?_⟩
      obtain rfl : o1 = some L0 := eo.symm.trans e0
      conv => whnf
      refine ⟨l0.1, rfl, _, _, _, _, _, _, c_AL_size l0 sc j_sf_ok, ⟨Nat.le_of_ble_eq_true rfl, Nat.le_of_ble_eq_true rfl, Nat.le_of_ble_eq_true rfl, Nat.le_of_ble_eq_true rfl⟩, fun _ _ z => z, ?_⟩
      rintro v9 h9 ⟨rfl, rfl⟩
      conv => whnf
      refine ⟨fun c2 => ?_, fun c2 => ?_⟩
      · skip
        conv => whnf
        exact ⟨trivial, ⟨Nat.le_of_ble_eq_true rfl, Nat.le_of_ble_eq_true rfl⟩, _, rfl, sc, _, rfl⟩
      · skip
        conv => whnf
        refine ⟨_, rfl, kx, fun o3 eo => ?_⟩
        obtain rfl : o3 = some L0 := eo.symm.trans e0
        conv => whnf
        refine ⟨l0.1, rfl, _, _, _, _, _, _, c_AL_get l0 sc j_sf_ok (by omega) (by omega), ⟨Nat.le_of_ble_eq_true rfl, Nat.le_of_ble_eq_true rfl, Nat.le_of_ble_eq_true rfl, Nat.le_of_ble_eq_true rfl⟩, fun _ _ z => z, ?_⟩
        rintro v9 h9 ⟨rfl, g4, rfl, kg4⟩
        conv => whnf
        refine ⟨Or.inr ⟨_, rfl, kg4⟩, ?_⟩
        conv => whnf
        refine ⟨_, rfl, kg4, fun x5 ex5 => ?_⟩
        conv => whnf
        refine ⟨_, rfl, kz, fun x6 ex6 => ?_⟩
        conv => whnf
        refine ⟨fun c7 => ?_, fun c7 => ?_⟩
        · skip
          have t8 : (v3 + Int32.ofInt 1).toInt = v3.toInt + 1 := j_inc1 (by omega)
          exact j_use hF (ih10 _ _ _ sc (by omega) (by omega)) (And.intro rfl (And.intro rfl (And.intro rfl (And.intro rfl trivial))))
        · skip
          conv => whnf
          refine ⟨kx, rfl, _, _, _, _, _, _, c_G_lateOf hW sc kg4, ⟨Nat.le_of_ble_eq_true rfl, Nat.le_of_ble_eq_true rfl, Nat.le_of_ble_eq_true rfl, Nat.le_of_ble_eq_true rfl⟩, fun _ _ z => z, ?_⟩
          rintro v9 h9 ⟨it10, rfl, sit10, r9, rfl⟩
          conv => whnf
          refine ⟨⟨Nat.le_of_ble_eq_true rfl, Nat.le_of_ble_eq_true rfl, Nat.le_of_ble_eq_true rfl, Nat.le_of_ble_eq_true rfl⟩, ?_⟩
          have t11 : (v3 + Int32.ofInt 1).toInt = v3.toInt + 1 := j_inc1 (by omega)
          exact j_use hF (ih10 _ _ _ sit10 (by omega) (by omega)) (And.intro rfl (And.intro rfl (And.intro rfl (And.intro rfl trivial))))
  have M10 : ∀ (v2 : Int32) (v3 : Int32) (it : Nat → Nat → Int32) , j_Sc j_sf h it → 0 ≤ v3.toInt → (0:Int) ≤ 0 → J 10 [some (j_r (some x)), some (j_r (some z)), some (j_i v2), some (j_i v3), none] [] (j_wi h it) 0 0 := fun v2 v3 it sc h3 _ => L10 4294967296 v2 v3 it sc h3 (by have := j_lb v3; omega)
  refine hJ [10] 400 _ _ _ _ _ _ ?_
  conv => whnf
  refine ⟨kx, rfl, _, _, _, _, _, _, c_G_lateOf hW sc kz, ⟨Nat.le_of_ble_eq_true rfl, Nat.le_of_ble_eq_true rfl, Nat.le_of_ble_eq_true rfl, Nat.le_of_ble_eq_true rfl⟩, fun _ _ z => z, ?_⟩
  rintro v9 h9 ⟨it13, rfl, sit13, r12, rfl⟩
  exact j_use hF (M10 _ _ _ sit13 (by omega) (by omega)) (And.intro rfl (And.intro rfl (And.intro rfl (And.intro rfl trivial))))
set_option maxHeartbeats 4000000 in
set_option maxRecDepth 20000 in
theorem c_G_allGrains {h : j_H} {it : Nat → Nat → Int32} {x : Nat} (hW : j_WF h x) (sc : j_Sc j_sf h it)  : j_Ct 80 1 20 0 0 [j_r (some x)] (j_wi h it) (fun v h' => ∃ it', h' = j_wi h it' ∧ j_Sc j_sf h it' ∧ ∃ r, v = some (j_i r)) j_no := by
  refine j_intro km_80 (Nat.le_of_ble_eq_true rfl) ?_
  intro J hJ hF
  obtain ⟨kx, hG, L0, L1, L2, e0, l0, e1, l1, e2, l2⟩ := id hW
  have b0 := l0.2.1; have b1 := l1.2.1; have b2 := l2.2.1; have d0 := l0.2.2.1; have d1 := l1.2.2.1; have d2 := l2.2.2.1
  refine hJ [] 400 _ _ _ _ _ _ ?_
  conv => whnf
  refine ⟨_, rfl, kx, fun o1 eo => ?_⟩
  obtain rfl : o1 = some L0 := eo.symm.trans e0
  conv => whnf
  refine ⟨l0.1, rfl, _, _, _, _, _, _, c_AL_size l0 sc j_sf_ok, ⟨Nat.le_of_ble_eq_true rfl, Nat.le_of_ble_eq_true rfl, Nat.le_of_ble_eq_true rfl, Nat.le_of_ble_eq_true rfl⟩, fun _ _ z => z, ?_⟩
  rintro v9 h9 ⟨rfl, rfl⟩
  conv => whnf
  exact ⟨trivial, ⟨Nat.le_of_ble_eq_true rfl, Nat.le_of_ble_eq_true rfl⟩, _, rfl, sc, _, rfl⟩
set_option maxHeartbeats 4000000 in
set_option maxRecDepth 20000 in
theorem c_G_agree {h : j_H} {it : Nat → Nat → Int32} {x : Nat} {a : Int32} (hW : j_WF h x) (sc : j_Sc j_sf h it)  : j_Ct 79 3 64 0 0 [j_r (some x), j_i a] (j_wi h it) (fun v h' => ∃ it', h' = j_wi h it' ∧ j_Sc j_sf h it' ∧ ∃ r, v = some (j_i r) ∧ (r = 0 ∨ r = 1)) j_no := by
  refine j_intro km_79 (Nat.le_of_ble_eq_true rfl) ?_
  intro J hJ hF
  obtain ⟨kx, hG, L0, L1, L2, e0, l0, e1, l1, e2, l2⟩ := id hW
  have b0 := l0.2.1; have b1 := l1.2.1; have b2 := l2.2.1; have d0 := l0.2.2.1; have d1 := l1.2.2.1; have d2 := l2.2.2.1
  have L2 : ∀ (m : Nat) (v1 : Int32) (v2 : Int32) (it : Nat → Nat → Int32) , j_Sc j_sf h it → 0 ≤ v2.toInt → (2147483647 - v2.toInt) < (m : Int) → J 2 [some (j_r (some x)), some (j_i v1), some (j_i v2), none] [] (j_wi h it) 0 0 := by
    intro m
    induction m with
    | zero => intro v1 v2 it sc h2 hm; exact absurd hm (by have := j_ub v2; omega)
    | succ m ih2 =>
      intro v1 v2 it sc h2 hm
      have uv1 := j_ub v1
      have lv1 := j_lb v1
      have uv2 := j_ub v2
      have lv2 := j_lb v2
      refine hJ [2] 400 _ _ _ _ _ _ ?_
      conv => whnf
      refine ⟨_, rfl, kx, fun o1 eo => ?_⟩
      obtain rfl : o1 = some L0 := eo.symm.trans e0
      conv => whnf
      refine ⟨l0.1, rfl, _, _, _, _, _, _, c_AL_size l0 sc j_sf_ok, ⟨Nat.le_of_ble_eq_true rfl, Nat.le_of_ble_eq_true rfl, Nat.le_of_ble_eq_true rfl, Nat.le_of_ble_eq_true rfl⟩, fun _ _ z => z, ?_⟩
      rintro v9 h9 ⟨rfl, rfl⟩
      conv => whnf
      refine ⟨fun c2 => ?_, fun c2 => ?_⟩
      · skip
        conv => whnf
        exact ⟨Or.inr rfl, ⟨Nat.le_of_ble_eq_true rfl, Nat.le_of_ble_eq_true rfl⟩, _, rfl, sc, _, rfl, Or.inr rfl⟩
      · skip
        conv => whnf
        refine ⟨_, rfl, kx, fun o3 eo => ?_⟩
        obtain rfl : o3 = some L0 := eo.symm.trans e0
        conv => whnf
        refine ⟨l0.1, rfl, _, _, _, _, _, _, c_AL_get l0 sc j_sf_ok (by omega) (by omega), ⟨Nat.le_of_ble_eq_true rfl, Nat.le_of_ble_eq_true rfl, Nat.le_of_ble_eq_true rfl, Nat.le_of_ble_eq_true rfl⟩, fun _ _ z => z, ?_⟩
        rintro v9 h9 ⟨rfl, g4, rfl, kg4⟩
        conv => whnf
        refine ⟨Or.inr ⟨_, rfl, kg4⟩, ?_⟩
        conv => whnf
        refine ⟨kg4, rfl, _, _, _, _, _, _, c_Grain_bit kg4, ⟨Nat.le_of_ble_eq_true rfl, Nat.le_of_ble_eq_true rfl, Nat.le_of_ble_eq_true rfl, Nat.le_of_ble_eq_true rfl⟩, fun _ _ z => z, ?_⟩
        rintro v9 h9 ⟨rfl, r5, rfl⟩
        conv => whnf
        refine ⟨fun c6 => ?_, fun c6 => ?_⟩
        · skip
          have t7 : (v2 + Int32.ofInt 1).toInt = v2.toInt + 1 := j_inc1 (by omega)
          exact j_use hF (ih2 _ _ _ sc (by omega) (by omega)) (And.intro rfl (And.intro rfl (And.intro rfl trivial)))
        · skip
          conv => whnf
          refine ⟨_, rfl, kg4, fun x8 ex8 => ?_⟩
          conv => whnf
          refine ⟨fun c9 => ?_, fun c9 => ?_⟩
          · skip
            have t10 : (v2 + Int32.ofInt 1).toInt = v2.toInt + 1 := j_inc1 (by omega)
            exact j_use hF (ih2 _ _ _ sc (by omega) (by omega)) (And.intro rfl (And.intro rfl (And.intro rfl trivial)))
          · skip
            conv => whnf
            exact ⟨Or.inl rfl, ⟨Nat.le_of_ble_eq_true rfl, Nat.le_of_ble_eq_true rfl⟩, _, rfl, sc, _, rfl, Or.inl rfl⟩
  have M2 : ∀ (v1 : Int32) (v2 : Int32) (it : Nat → Nat → Int32) , j_Sc j_sf h it → 0 ≤ v2.toInt → (0:Int) ≤ 0 → J 2 [some (j_r (some x)), some (j_i v1), some (j_i v2), none] [] (j_wi h it) 0 0 := fun v1 v2 it sc h2 _ => L2 4294967296 v1 v2 it sc h2 (by have := j_lb v2; omega)
  refine hJ [2] 400 _ _ _ _ _ _ ?_
  exact j_use hF (M2 _ _ _ sc (by omega) (by omega)) (And.intro rfl (And.intro rfl (And.intro rfl trivial)))
set_option maxHeartbeats 4000000 in
set_option maxRecDepth 20000 in
theorem c_G_markIfOver {h : j_H} {it : Nat → Nat → Int32} {y : Nat} {z : Nat} (hG : j_G h) (sc : j_Sc j_sf h it) (ky : j_kd h y = some (.inl 4)) (kz : j_kd h z = some (.inl 4)) : j_Ct 116 1 20 0 0 [j_r (some y), j_r (some z)] (j_wi h it) (fun v h' => ∃ it', h' = j_wi h it' ∧ j_Sc j_sf h it' ∧ v = none) j_no := by
  refine j_intro km_116 (Nat.le_of_ble_eq_true rfl) ?_
  intro J hJ hF
  refine hJ [] 400 _ _ _ _ _ _ ?_
  conv => whnf
  refine ⟨_, rfl, ky, fun x1 ex1 => ?_⟩
  conv => whnf
  refine ⟨_, rfl, kz, fun x2 ex2 => ?_⟩
  conv => whnf
  refine ⟨fun c3 => ?_, fun c3 => ?_⟩
  · skip
    conv => whnf
    exact ⟨rfl, ⟨Nat.le_of_ble_eq_true rfl, Nat.le_of_ble_eq_true rfl⟩, _, rfl, sc, rfl⟩
  · skip
    conv => whnf
    refine ⟨_, rfl, ky, fun x4 ex4 => ?_⟩
    conv => whnf
    refine ⟨_, rfl, kz, fun x5 ex5 => ?_⟩
    conv => whnf
    refine ⟨fun c6 => ?_, fun c6 => ?_⟩
    · skip
      conv => whnf
      exact ⟨rfl, ⟨Nat.le_of_ble_eq_true rfl, Nat.le_of_ble_eq_true rfl⟩, _, rfl, sc, rfl⟩
    · skip
      conv => whnf
      refine ⟨_, rfl, ky, fun x7 ex7 => ?_⟩
      conv => whnf
      refine ⟨kz, rfl, _, _, _, _, _, _, c_Grain_bit kz, ⟨Nat.le_of_ble_eq_true rfl, Nat.le_of_ble_eq_true rfl, Nat.le_of_ble_eq_true rfl, Nat.le_of_ble_eq_true rfl⟩, fun _ _ z => z, ?_⟩
      rintro v9 h9 ⟨rfl, r8, rfl⟩
      conv => whnf
      refine ⟨_, rfl, ky, ?_⟩
      conv => whnf
      exact ⟨rfl, ⟨Nat.le_of_ble_eq_true rfl, Nat.le_of_ble_eq_true rfl⟩, _, rfl, (j_Sc.put sc ky (show j_sf 4 8 = true from rfl)), rfl⟩
set_option maxHeartbeats 4000000 in
set_option maxRecDepth 20000 in
theorem c_G_markClashes {h : j_H} {it : Nat → Nat → Int32} {x : Nat} (hW : j_WF h x) (sc : j_Sc j_sf h it)  : j_Ct 114 4 90 0 0 [j_r (some x)] (j_wi h it) (fun v h' => ∃ it', h' = j_wi h it' ∧ j_Sc j_sf h it' ∧ v = none) j_no := by
  refine j_intro km_114 (Nat.le_of_ble_eq_true rfl) ?_
  intro J hJ hF
  obtain ⟨kx, hG, L0, L1, L2, e0, l0, e1, l1, e2, l2⟩ := id hW
  have b0 := l0.2.1; have b1 := l1.2.1; have b2 := l2.2.1; have d0 := l0.2.2.1; have d1 := l1.2.2.1; have d2 := l2.2.2.1
  have L78 : ∀ (m : Nat) (v1 : Int32) (it : Nat → Nat → Int32) , j_Sc j_sf h it → 0 ≤ v1.toInt → (2147483647 - v1.toInt) < (m : Int) → J 78 [some (j_r (some x)), some (j_i v1), none] [] (j_wi h it) 0 0 := by
    intro m
    induction m with
    | zero => intro v1 it sc h1 hm; exact absurd hm (by have := j_ub v1; omega)
    | succ m ih78 =>
      intro v1 it sc h1 hm
      have uv1 := j_ub v1
      have lv1 := j_lb v1
      have L91 : ∀ (m : Nat) (v1 : Int32) (v2 : Int32) (it : Nat → Nat → Int32) , j_Sc j_sf h it → 0 ≤ v2.toInt → 0 ≤ v1.toInt → 0 ≤ v1.toInt → (2147483647 - v2.toInt) < (m : Int) → J 91 [some (j_r (some x)), some (j_i v1), some (j_i v2)] [] (j_wi h it) 0 0 := by
        intro m
        induction m with
        | zero => intro v1 v2 it sc h2 h1 h1 hm; exact absurd hm (by have := j_ub v2; omega)
        | succ m ih91 =>
          intro v1 v2 it sc h2 h1 h1 hm
          have uv1 := j_ub v1
          have lv1 := j_lb v1
          have uv2 := j_ub v2
          have lv2 := j_lb v2
          refine hJ [2, 78, 91] 400 _ _ _ _ _ _ ?_
          conv => whnf
          refine ⟨_, rfl, kx, fun o1 eo => ?_⟩
          obtain rfl : o1 = some L0 := eo.symm.trans e0
          conv => whnf
          refine ⟨l0.1, rfl, _, _, _, _, _, _, c_AL_size l0 sc j_sf_ok, ⟨Nat.le_of_ble_eq_true rfl, Nat.le_of_ble_eq_true rfl, Nat.le_of_ble_eq_true rfl, Nat.le_of_ble_eq_true rfl⟩, fun _ _ z => z, ?_⟩
          rintro v9 h9 ⟨rfl, rfl⟩
          conv => whnf
          refine ⟨fun c2 => ?_, fun c2 => ?_⟩
          · skip
            have t3 : (v1 + Int32.ofInt 1).toInt = v1.toInt + 1 := j_inc1 (by omega)
            exact j_use hF (ih78 _ _ sc (by omega) (by omega)) (And.intro rfl (And.intro rfl trivial))
          · skip
            conv => whnf
            refine ⟨_, rfl, kx, fun o4 eo => ?_⟩
            obtain rfl : o4 = some L0 := eo.symm.trans e0
            conv => whnf
            refine ⟨l0.1, rfl, _, _, _, _, _, _, c_AL_get l0 sc j_sf_ok (by omega) (by omega), ⟨Nat.le_of_ble_eq_true rfl, Nat.le_of_ble_eq_true rfl, Nat.le_of_ble_eq_true rfl, Nat.le_of_ble_eq_true rfl⟩, fun _ _ z => z, ?_⟩
            rintro v9 h9 ⟨rfl, g5, rfl, kg5⟩
            conv => whnf
            refine ⟨Or.inr ⟨_, rfl, kg5⟩, ?_⟩
            conv => whnf
            refine ⟨_, rfl, kx, fun o6 eo => ?_⟩
            obtain rfl : o6 = some L0 := eo.symm.trans e0
            conv => whnf
            refine ⟨l0.1, rfl, _, _, _, _, _, _, c_AL_get l0 sc j_sf_ok (by omega) (by omega), ⟨Nat.le_of_ble_eq_true rfl, Nat.le_of_ble_eq_true rfl, Nat.le_of_ble_eq_true rfl, Nat.le_of_ble_eq_true rfl⟩, fun _ _ z => z, ?_⟩
            rintro v9 h9 ⟨rfl, g7, rfl, kg7⟩
            conv => whnf
            refine ⟨Or.inr ⟨_, rfl, kg7⟩, ?_⟩
            conv => whnf
            refine ⟨rfl, _, _, _, _, _, _, c_G_markIfOver hG sc kg5 kg7, ⟨Nat.le_of_ble_eq_true rfl, Nat.le_of_ble_eq_true rfl, Nat.le_of_ble_eq_true rfl, Nat.le_of_ble_eq_true rfl⟩, fun _ _ z => z, ?_⟩
            rintro v9 h9 ⟨it9, rfl, sit9, rfl⟩
            have t10 : (v2 + Int32.ofInt 1).toInt = v2.toInt + 1 := j_inc1 (by omega)
            exact j_use hF (ih91 _ _ _ sit9 (by omega) (by omega) (by omega) (by omega)) (And.intro rfl (And.intro rfl (And.intro rfl trivial)))
      have M91 : ∀ (v1 : Int32) (v2 : Int32) (it : Nat → Nat → Int32) , j_Sc j_sf h it → 0 ≤ v2.toInt → 0 ≤ v1.toInt → 0 ≤ v1.toInt → (0:Int) ≤ 0 → J 91 [some (j_r (some x)), some (j_i v1), some (j_i v2)] [] (j_wi h it) 0 0 := fun v1 v2 it sc h2 h1 h1 _ => L91 4294967296 v1 v2 it sc h2 h1 h1 (by have := j_lb v2; omega)
      refine hJ [2, 78, 91] 400 _ _ _ _ _ _ ?_
      conv => whnf
      refine ⟨_, rfl, kx, fun o11 eo => ?_⟩
      obtain rfl : o11 = some L0 := eo.symm.trans e0
      conv => whnf
      refine ⟨l0.1, rfl, _, _, _, _, _, _, c_AL_size l0 sc j_sf_ok, ⟨Nat.le_of_ble_eq_true rfl, Nat.le_of_ble_eq_true rfl, Nat.le_of_ble_eq_true rfl, Nat.le_of_ble_eq_true rfl⟩, fun _ _ z => z, ?_⟩
      rintro v9 h9 ⟨rfl, rfl⟩
      conv => whnf
      refine ⟨fun c12 => ?_, fun c12 => ?_⟩
      · skip
        conv => whnf
        exact ⟨rfl, ⟨Nat.le_of_ble_eq_true rfl, Nat.le_of_ble_eq_true rfl⟩, _, rfl, sc, rfl⟩
      · skip
        exact j_use hF (M91 _ _ _ sc (by omega) (by omega) (by omega) (by omega)) (And.intro rfl (And.intro rfl (And.intro rfl trivial)))
  have M78 : ∀ (v1 : Int32) (it : Nat → Nat → Int32) , j_Sc j_sf h it → 0 ≤ v1.toInt → (0:Int) ≤ 0 → J 78 [some (j_r (some x)), some (j_i v1), none] [] (j_wi h it) 0 0 := fun v1 it sc h1 _ => L78 4294967296 v1 it sc h1 (by have := j_lb v1; omega)
  have L2 : ∀ (m : Nat) (v1 : Int32) (it : Nat → Nat → Int32) , j_Sc j_sf h it → 0 ≤ v1.toInt → (2147483647 - v1.toInt) < (m : Int) → J 2 [some (j_r (some x)), some (j_i v1), none] [] (j_wi h it) 0 0 := by
    intro m
    induction m with
    | zero => intro v1 it sc h1 hm; exact absurd hm (by have := j_ub v1; omega)
    | succ m ih2 =>
      intro v1 it sc h1 hm
      have uv1 := j_ub v1
      have lv1 := j_lb v1
      refine hJ [2, 78, 91] 400 _ _ _ _ _ _ ?_
      conv => whnf
      refine ⟨_, rfl, kx, fun o13 eo => ?_⟩
      obtain rfl : o13 = some L0 := eo.symm.trans e0
      conv => whnf
      refine ⟨l0.1, rfl, _, _, _, _, _, _, c_AL_size l0 sc j_sf_ok, ⟨Nat.le_of_ble_eq_true rfl, Nat.le_of_ble_eq_true rfl, Nat.le_of_ble_eq_true rfl, Nat.le_of_ble_eq_true rfl⟩, fun _ _ z => z, ?_⟩
      rintro v9 h9 ⟨rfl, rfl⟩
      conv => whnf
      refine ⟨fun c14 => ?_, fun c14 => ?_⟩
      · skip
        exact j_use hF (M78 _ _ sc (by omega) (by omega)) (And.intro rfl (And.intro rfl trivial))
      · skip
        conv => whnf
        refine ⟨_, rfl, kx, fun o15 eo => ?_⟩
        obtain rfl : o15 = some L0 := eo.symm.trans e0
        conv => whnf
        refine ⟨l0.1, rfl, _, _, _, _, _, _, c_AL_get l0 sc j_sf_ok (by omega) (by omega), ⟨Nat.le_of_ble_eq_true rfl, Nat.le_of_ble_eq_true rfl, Nat.le_of_ble_eq_true rfl, Nat.le_of_ble_eq_true rfl⟩, fun _ _ z => z, ?_⟩
        rintro v9 h9 ⟨rfl, g16, rfl, kg16⟩
        conv => whnf
        refine ⟨Or.inr ⟨_, rfl, kg16⟩, ?_⟩
        conv => whnf
        refine ⟨kx, rfl, _, _, _, _, _, _, c_G_earlyOf hW sc kg16, ⟨Nat.le_of_ble_eq_true rfl, Nat.le_of_ble_eq_true rfl, Nat.le_of_ble_eq_true rfl, Nat.le_of_ble_eq_true rfl⟩, fun _ _ z => z, ?_⟩
        rintro v9 h9 ⟨it18, rfl, sit18, r17, rfl⟩
        conv => whnf
        refine ⟨_, rfl, kg16, ?_⟩
        conv => whnf
        refine ⟨kx, rfl, _, _, _, _, _, _, c_G_lateOf hW (j_Sc.put sit18 kg16 (show j_sf 4 6 = true from rfl)) kg16, ⟨Nat.le_of_ble_eq_true rfl, Nat.le_of_ble_eq_true rfl, Nat.le_of_ble_eq_true rfl, Nat.le_of_ble_eq_true rfl⟩, fun _ _ z => z, ?_⟩
        rintro v9 h9 ⟨it21, rfl, sit21, r20, rfl⟩
        conv => whnf
        refine ⟨_, rfl, kg16, ?_⟩
        conv => whnf
        refine ⟨_, rfl, kg16, fun x23 ex23 => ?_⟩
        conv => whnf
        refine ⟨_, rfl, kg16, fun x24 ex24 => ?_⟩
        conv => whnf
        refine ⟨fun c25 => ?_, fun c25 => ?_⟩
        · skip
          conv => whnf
          refine ⟨_, rfl, kg16, ?_⟩
          have t27 : (v1 + Int32.ofInt 1).toInt = v1.toInt + 1 := j_inc1 (by omega)
          exact j_use hF (ih2 _ _ (j_Sc.put (j_Sc.put sit21 kg16 (show j_sf 4 7 = true from rfl)) kg16 (show j_sf 4 8 = true from rfl)) (by omega) (by omega)) (And.intro rfl (And.intro rfl trivial))
        · skip
          conv => whnf
          refine ⟨kg16, rfl, _, _, _, _, _, _, c_Grain_bit kg16, ⟨Nat.le_of_ble_eq_true rfl, Nat.le_of_ble_eq_true rfl, Nat.le_of_ble_eq_true rfl, Nat.le_of_ble_eq_true rfl⟩, fun _ _ z => z, ?_⟩
          rintro v9 h9 ⟨rfl, r28, rfl⟩
          conv => whnf
          refine ⟨_, rfl, kg16, ?_⟩
          have t30 : (v1 + Int32.ofInt 1).toInt = v1.toInt + 1 := j_inc1 (by omega)
          exact j_use hF (ih2 _ _ (j_Sc.put (j_Sc.put sit21 kg16 (show j_sf 4 7 = true from rfl)) kg16 (show j_sf 4 8 = true from rfl)) (by omega) (by omega)) (And.intro rfl (And.intro rfl trivial))
  have M2 : ∀ (v1 : Int32) (it : Nat → Nat → Int32) , j_Sc j_sf h it → 0 ≤ v1.toInt → (0:Int) ≤ 0 → J 2 [some (j_r (some x)), some (j_i v1), none] [] (j_wi h it) 0 0 := fun v1 it sc h1 _ => L2 4294967296 v1 it sc h1 (by have := j_lb v1; omega)
  refine hJ [2, 78, 91] 400 _ _ _ _ _ _ ?_
  exact j_use hF (M2 _ _ sc (by omega) (by omega)) (And.intro rfl (And.intro rfl trivial))
set_option maxHeartbeats 4000000 in
set_option maxRecDepth 20000 in
theorem c_G_findFewest {h : j_H} {it : Nat → Nat → Int32} {x : Nat} (hW : j_WF h x) (sc : j_Sc j_sf h it)  : j_Ct 100 5 112 0 0 [j_r (some x)] (j_wi h it) (fun v h' => ∃ it', h' = j_wi h it' ∧ j_Sc j_sf h it' ∧ ∃ r, v = some (j_i r)) j_no := by
  refine j_intro km_100 (Nat.le_of_ble_eq_true rfl) ?_
  intro J hJ hF
  obtain ⟨kx, hG, L0, L1, L2, e0, l0, e1, l1, e2, l2⟩ := id hW
  have b0 := l0.2.1; have b1 := l1.2.1; have b2 := l2.2.1; have d0 := l0.2.2.1; have d1 := l1.2.2.1; have d2 := l2.2.2.1
  have L13 : ∀ (m : Nat) (v1 : Int32) (v2 : Int32) (v3 : Int32) (it : Nat → Nat → Int32) , j_Sc j_sf h it → 0 ≤ v3.toInt → (2147483647 - v3.toInt) < (m : Int) → J 13 [some (j_r (some x)), some (j_i v1), some (j_i v2), some (j_i v3)] [] (j_wi h it) 0 0 := by
    intro m
    induction m with
    | zero => intro v1 v2 v3 it sc h3 hm; exact absurd hm (by have := j_ub v3; omega)
    | succ m ih13 =>
      intro v1 v2 v3 it sc h3 hm
      have uv1 := j_ub v1
      have lv1 := j_lb v1
      have uv2 := j_ub v2
      have lv2 := j_lb v2
      have uv3 := j_ub v3
      have lv3 := j_lb v3
      refine hJ [13] 400 _ _ _ _ _ _ ?_
      conv => whnf
      refine ⟨fun c1 => ?_, fun c1 => ?_⟩
      · skip
        conv => whnf
        exact ⟨trivial, ⟨Nat.le_of_ble_eq_true rfl, Nat.le_of_ble_eq_true rfl⟩, _, rfl, sc, _, rfl⟩
      · skip
        conv => whnf
        refine ⟨rfl, _, _, _, _, _, _, c_Integer_bitCount, ⟨Nat.le_of_ble_eq_true rfl, Nat.le_of_ble_eq_true rfl, Nat.le_of_ble_eq_true rfl, Nat.le_of_ble_eq_true rfl⟩, fun _ _ z => z, ?_⟩
        rintro v9 h9 ⟨rfl, r2, rfl⟩
        conv => whnf
        refine ⟨rfl, _, _, _, _, _, _, c_Integer_bitCount, ⟨Nat.le_of_ble_eq_true rfl, Nat.le_of_ble_eq_true rfl, Nat.le_of_ble_eq_true rfl, Nat.le_of_ble_eq_true rfl⟩, fun _ _ z => z, ?_⟩
        rintro v9 h9 ⟨rfl, r3, rfl⟩
        conv => whnf
        refine ⟨fun c4 => ?_, fun c4 => ?_⟩
        · skip
          have t5 : (v3 + Int32.ofInt 1).toInt = v3.toInt + 1 := j_inc1 (by omega)
          exact j_use hF (ih13 _ _ _ _ sc (by omega) (by omega)) (And.intro rfl (And.intro rfl (And.intro rfl (And.intro rfl trivial))))
        · skip
          conv => whnf
          refine ⟨kx, rfl, _, _, _, _, _, _, c_G_agree hW sc, ⟨Nat.le_of_ble_eq_true rfl, Nat.le_of_ble_eq_true rfl, Nat.le_of_ble_eq_true rfl, Nat.le_of_ble_eq_true rfl⟩, fun _ _ z => z, ?_⟩
          rintro v9 h9 ⟨it7, rfl, sit7, r6, rfl, zr6⟩
          conv => whnf
          refine ⟨fun c8 => ?_, fun c8 => ?_⟩
          · skip
            have t9 : (v3 + Int32.ofInt 1).toInt = v3.toInt + 1 := j_inc1 (by omega)
            exact j_use hF (ih13 _ _ _ _ sit7 (by omega) (by omega)) (And.intro rfl (And.intro rfl (And.intro rfl (And.intro rfl trivial))))
          · skip
            have t10 : (v3 + Int32.ofInt 1).toInt = v3.toInt + 1 := j_inc1 (by omega)
            exact j_use hF (ih13 _ _ _ _ sit7 (by omega) (by omega)) (And.intro rfl (And.intro rfl (And.intro rfl (And.intro rfl trivial))))
  have M13 : ∀ (v1 : Int32) (v2 : Int32) (v3 : Int32) (it : Nat → Nat → Int32) , j_Sc j_sf h it → 0 ≤ v3.toInt → (0:Int) ≤ 0 → J 13 [some (j_r (some x)), some (j_i v1), some (j_i v2), some (j_i v3)] [] (j_wi h it) 0 0 := fun v1 v2 v3 it sc h3 _ => L13 4294967296 v1 v2 v3 it sc h3 (by have := j_lb v3; omega)
  refine hJ [13] 400 _ _ _ _ _ _ ?_
  conv => whnf
  refine ⟨kx, rfl, _, _, _, _, _, _, c_G_markClashes hW sc, ⟨Nat.le_of_ble_eq_true rfl, Nat.le_of_ble_eq_true rfl, Nat.le_of_ble_eq_true rfl, Nat.le_of_ble_eq_true rfl⟩, fun _ _ z => z, ?_⟩
  rintro v9 h9 ⟨it12, rfl, sit12, rfl⟩
  conv => whnf
  refine ⟨kx, rfl, _, _, _, _, _, _, c_G_allGrains hW sit12, ⟨Nat.le_of_ble_eq_true rfl, Nat.le_of_ble_eq_true rfl, Nat.le_of_ble_eq_true rfl, Nat.le_of_ble_eq_true rfl⟩, fun _ _ z => z, ?_⟩
  rintro v9 h9 ⟨it14, rfl, sit14, r13, rfl⟩
  exact j_use hF (M13 _ _ _ _ sit14 (by omega) (by omega)) (And.intro rfl (And.intro rfl (And.intro rfl (And.intro rfl trivial))))
set_option maxHeartbeats 4000000 in
set_option maxRecDepth 20000 in
theorem c_G_markIfMissed {h : j_H} {it : Nat → Nat → Int32} {x : Nat} {y : Nat} {z : Nat} (hW : j_WF h x) (sc : j_Sc j_sf h it) (ky : j_kd h y = some (.inl 7)) (kz : j_kd h z = some (.inl 7)) : j_Ct 115 2 43 0 0 [j_r (some x), j_r (some y), j_r (some z)] (j_wi h it) (fun v h' => ∃ it', h' = j_wi h it' ∧ j_Sc j_sf h it' ∧ v = none) j_no := by
  refine j_intro km_115 (Nat.le_of_ble_eq_true rfl) ?_
  intro J hJ hF
  obtain ⟨kx, hG, L0, L1, L2, e0, l0, e1, l1, e2, l2⟩ := id hW
  have b0 := l0.2.1; have b1 := l1.2.1; have b2 := l2.2.1; have d0 := l0.2.2.1; have d1 := l1.2.2.1; have d2 := l2.2.2.1
  refine hJ [] 400 _ _ _ _ _ _ ?_
  conv => whnf
  refine ⟨_, rfl, ky, fun x1 ex1 => ?_⟩
  conv => whnf
  refine ⟨fun c2 => ?_, fun c2 => ?_⟩
  · skip
    conv => whnf
    exact ⟨rfl, ⟨Nat.le_of_ble_eq_true rfl, Nat.le_of_ble_eq_true rfl⟩, _, rfl, sc, rfl⟩
  · skip
    conv => whnf
    refine ⟨_, rfl, kz, fun x3 ex3 => ?_⟩
    conv => whnf
    refine ⟨fun c4 => ?_, fun c4 => ?_⟩
    · skip
      conv => whnf
      exact ⟨rfl, ⟨Nat.le_of_ble_eq_true rfl, Nat.le_of_ble_eq_true rfl⟩, _, rfl, sc, rfl⟩
    · skip
      conv => whnf
      refine ⟨_, rfl, kx, fun x5 ex5 => ?_⟩
      conv => whnf
      refine ⟨ky, rfl, _, _, _, _, _, _, c_Run_misses ky kz, ⟨Nat.le_of_ble_eq_true rfl, Nat.le_of_ble_eq_true rfl, Nat.le_of_ble_eq_true rfl, Nat.le_of_ble_eq_true rfl⟩, fun _ _ z => z, ?_⟩
      rintro v9 h9 ⟨rfl, r6, rfl, zr6⟩
      conv => whnf
      refine ⟨fun c7 => ?_, fun c7 => ?_⟩
      · skip
        conv => whnf
        exact ⟨rfl, ⟨Nat.le_of_ble_eq_true rfl, Nat.le_of_ble_eq_true rfl⟩, _, rfl, sc, rfl⟩
      · skip
        conv => whnf
        refine ⟨_, rfl, ky, fun x8 ex8 => ?_⟩
        conv => whnf
        refine ⟨kz, rfl, _, _, _, _, _, _, c_Run_bit kz, ⟨Nat.le_of_ble_eq_true rfl, Nat.le_of_ble_eq_true rfl, Nat.le_of_ble_eq_true rfl, Nat.le_of_ble_eq_true rfl⟩, fun _ _ z => z, ?_⟩
        rintro v9 h9 ⟨rfl, r9, rfl⟩
        conv => whnf
        refine ⟨_, rfl, ky, ?_⟩
        conv => whnf
        refine ⟨_, rfl, kz, fun x11 ex11 => ?_⟩
        conv => whnf
        refine ⟨ky, rfl, _, _, _, _, _, _, c_Run_bit ky, ⟨Nat.le_of_ble_eq_true rfl, Nat.le_of_ble_eq_true rfl, Nat.le_of_ble_eq_true rfl, Nat.le_of_ble_eq_true rfl⟩, fun _ _ z => z, ?_⟩
        rintro v9 h9 ⟨rfl, r12, rfl⟩
        conv => whnf
        refine ⟨_, rfl, kz, ?_⟩
        conv => whnf
        exact ⟨rfl, ⟨Nat.le_of_ble_eq_true rfl, Nat.le_of_ble_eq_true rfl⟩, _, rfl, (j_Sc.put (j_Sc.put sc ky (show j_sf 7 10 = true from rfl)) kz (show j_sf 7 10 = true from rfl)), rfl⟩
set_option maxHeartbeats 4000000 in
set_option maxRecDepth 20000 in
theorem c_G_markRuns {h : j_H} {it : Nat → Nat → Int32} {x : Nat} (hW : j_WF h x) (sc : j_Sc j_sf h it)  : j_Ct 117 3 65 0 0 [j_r (some x)] (j_wi h it) (fun v h' => ∃ it', h' = j_wi h it' ∧ j_Sc j_sf h it' ∧ v = none) j_no := by
  refine j_intro km_117 (Nat.le_of_ble_eq_true rfl) ?_
  intro J hJ hF
  obtain ⟨kx, hG, L0, L1, L2, e0, l0, e1, l1, e2, l2⟩ := id hW
  have b0 := l0.2.1; have b1 := l1.2.1; have b2 := l2.2.1; have d0 := l0.2.2.1; have d1 := l1.2.2.1; have d2 := l2.2.2.1
  have L95 : ∀ (m : Nat) (v1 : Int32) (it : Nat → Nat → Int32) , j_Sc j_sf h it → 0 ≤ v1.toInt → (2147483647 - v1.toInt) < (m : Int) → J 95 [some (j_r (some x)), some (j_i v1), none] [] (j_wi h it) 0 0 := by
    intro m
    induction m with
    | zero => intro v1 it sc h1 hm; exact absurd hm (by have := j_ub v1; omega)
    | succ m ih95 =>
      intro v1 it sc h1 hm
      have uv1 := j_ub v1
      have lv1 := j_lb v1
      have L108 : ∀ (m : Nat) (v1 : Int32) (v2 : Int32) (it : Nat → Nat → Int32) , j_Sc j_sf h it → 0 ≤ v2.toInt → 0 ≤ v1.toInt → 0 ≤ v1.toInt → 0 ≤ v1.toInt → (2147483647 - v2.toInt) < (m : Int) → J 108 [some (j_r (some x)), some (j_i v1), some (j_i v2)] [] (j_wi h it) 0 0 := by
        intro m
        induction m with
        | zero => intro v1 v2 it sc h2 h1 h1 h1 hm; exact absurd hm (by have := j_ub v2; omega)
        | succ m ih108 =>
          intro v1 v2 it sc h2 h1 h1 h1 hm
          have uv1 := j_ub v1
          have lv1 := j_lb v1
          have uv2 := j_ub v2
          have lv2 := j_lb v2
          refine hJ [2, 36, 95, 108] 400 _ _ _ _ _ _ ?_
          conv => whnf
          refine ⟨fun c1 => ?_, fun c1 => ?_⟩
          · skip
            have t2 : (v1 + Int32.ofInt 1).toInt = v1.toInt + 1 := j_inc1 (by omega)
            exact j_use hF (ih95 _ _ sc (by omega) (by omega)) (And.intro rfl (And.intro rfl trivial))
          · skip
            conv => whnf
            refine ⟨_, rfl, kx, fun o3 eo => ?_⟩
            obtain rfl : o3 = some L1 := eo.symm.trans e1
            conv => whnf
            refine ⟨l1.1, rfl, _, _, _, _, _, _, c_AL_get l1 sc j_sf_ok (by omega) (by omega), ⟨Nat.le_of_ble_eq_true rfl, Nat.le_of_ble_eq_true rfl, Nat.le_of_ble_eq_true rfl, Nat.le_of_ble_eq_true rfl⟩, fun _ _ z => z, ?_⟩
            rintro v9 h9 ⟨rfl, g4, rfl, kg4⟩
            conv => whnf
            refine ⟨Or.inr ⟨_, rfl, kg4⟩, ?_⟩
            conv => whnf
            refine ⟨_, rfl, kx, fun o5 eo => ?_⟩
            obtain rfl : o5 = some L1 := eo.symm.trans e1
            conv => whnf
            refine ⟨l1.1, rfl, _, _, _, _, _, _, c_AL_get l1 sc j_sf_ok (by omega) (by omega), ⟨Nat.le_of_ble_eq_true rfl, Nat.le_of_ble_eq_true rfl, Nat.le_of_ble_eq_true rfl, Nat.le_of_ble_eq_true rfl⟩, fun _ _ z => z, ?_⟩
            rintro v9 h9 ⟨rfl, g6, rfl, kg6⟩
            conv => whnf
            refine ⟨Or.inr ⟨_, rfl, kg6⟩, ?_⟩
            conv => whnf
            refine ⟨kx, rfl, _, _, _, _, _, _, c_G_markIfMissed hW sc kg4 kg6, ⟨Nat.le_of_ble_eq_true rfl, Nat.le_of_ble_eq_true rfl, Nat.le_of_ble_eq_true rfl, Nat.le_of_ble_eq_true rfl⟩, fun _ _ z => z, ?_⟩
            rintro v9 h9 ⟨it8, rfl, sit8, rfl⟩
            have t9 : (v2 + Int32.ofInt 1).toInt = v2.toInt + 1 := j_inc1 (by omega)
            exact j_use hF (ih108 _ _ _ sit8 (by omega) (by omega) (by omega) (by omega) (by omega)) (And.intro rfl (And.intro rfl (And.intro rfl trivial)))
      have M108 : ∀ (v1 : Int32) (v2 : Int32) (it : Nat → Nat → Int32) , j_Sc j_sf h it → 0 ≤ v2.toInt → 0 ≤ v1.toInt → 0 ≤ v1.toInt → 0 ≤ v1.toInt → (0:Int) ≤ 0 → J 108 [some (j_r (some x)), some (j_i v1), some (j_i v2)] [] (j_wi h it) 0 0 := fun v1 v2 it sc h2 h1 h1 h1 _ => L108 4294967296 v1 v2 it sc h2 h1 h1 h1 (by have := j_lb v2; omega)
      refine hJ [2, 36, 95, 108] 400 _ _ _ _ _ _ ?_
      conv => whnf
      refine ⟨_, rfl, kx, fun o10 eo => ?_⟩
      obtain rfl : o10 = some L1 := eo.symm.trans e1
      conv => whnf
      refine ⟨l1.1, rfl, _, _, _, _, _, _, c_AL_size l1 sc j_sf_ok, ⟨Nat.le_of_ble_eq_true rfl, Nat.le_of_ble_eq_true rfl, Nat.le_of_ble_eq_true rfl, Nat.le_of_ble_eq_true rfl⟩, fun _ _ z => z, ?_⟩
      rintro v9 h9 ⟨rfl, rfl⟩
      conv => whnf
      refine ⟨fun c11 => ?_, fun c11 => ?_⟩
      · skip
        conv => whnf
        exact ⟨rfl, ⟨Nat.le_of_ble_eq_true rfl, Nat.le_of_ble_eq_true rfl⟩, _, rfl, sc, rfl⟩
      · skip
        exact j_use hF (M108 _ _ _ sc (by omega) (by omega) (by omega) (by omega) (by omega)) (And.intro rfl (And.intro rfl (And.intro rfl trivial)))
  have M95 : ∀ (v1 : Int32) (it : Nat → Nat → Int32) , j_Sc j_sf h it → 0 ≤ v1.toInt → (0:Int) ≤ 0 → J 95 [some (j_r (some x)), some (j_i v1), none] [] (j_wi h it) 0 0 := fun v1 it sc h1 _ => L95 4294967296 v1 it sc h1 (by have := j_lb v1; omega)
  have L36 : ∀ (m : Nat) (v1 : Int32) (it : Nat → Nat → Int32) , j_Sc j_sf h it → 0 ≤ v1.toInt → (2147483647 - v1.toInt) < (m : Int) → J 36 [some (j_r (some x)), some (j_i v1), none] [] (j_wi h it) 0 0 := by
    intro m
    induction m with
    | zero => intro v1 it sc h1 hm; exact absurd hm (by have := j_ub v1; omega)
    | succ m ih36 =>
      intro v1 it sc h1 hm
      have uv1 := j_ub v1
      have lv1 := j_lb v1
      refine hJ [2, 36, 95, 108] 400 _ _ _ _ _ _ ?_
      conv => whnf
      refine ⟨_, rfl, kx, fun o12 eo => ?_⟩
      obtain rfl : o12 = some L1 := eo.symm.trans e1
      conv => whnf
      refine ⟨l1.1, rfl, _, _, _, _, _, _, c_AL_size l1 sc j_sf_ok, ⟨Nat.le_of_ble_eq_true rfl, Nat.le_of_ble_eq_true rfl, Nat.le_of_ble_eq_true rfl, Nat.le_of_ble_eq_true rfl⟩, fun _ _ z => z, ?_⟩
      rintro v9 h9 ⟨rfl, rfl⟩
      conv => whnf
      refine ⟨fun c13 => ?_, fun c13 => ?_⟩
      · skip
        exact j_use hF (M95 _ _ sc (by omega) (by omega)) (And.intro rfl (And.intro rfl trivial))
      · skip
        conv => whnf
        refine ⟨_, rfl, kx, fun o14 eo => ?_⟩
        obtain rfl : o14 = some L1 := eo.symm.trans e1
        conv => whnf
        refine ⟨l1.1, rfl, _, _, _, _, _, _, c_AL_get l1 sc j_sf_ok (by omega) (by omega), ⟨Nat.le_of_ble_eq_true rfl, Nat.le_of_ble_eq_true rfl, Nat.le_of_ble_eq_true rfl, Nat.le_of_ble_eq_true rfl⟩, fun _ _ z => z, ?_⟩
        rintro v9 h9 ⟨rfl, g15, rfl, kg15⟩
        conv => whnf
        refine ⟨Or.inr ⟨_, rfl, kg15⟩, ?_⟩
        conv => whnf
        refine ⟨_, rfl, kg15, ?_⟩
        conv => whnf
        refine ⟨_, rfl, kg15, fun x17 ex17 => ?_⟩
        conv => whnf
        refine ⟨fun c18 => ?_, fun c18 => ?_⟩
        · skip
          have t19 : (v1 + Int32.ofInt 1).toInt = v1.toInt + 1 := j_inc1 (by omega)
          exact j_use hF (ih36 _ _ (j_Sc.put sc kg15 (show j_sf 7 10 = true from rfl)) (by omega) (by omega)) (And.intro rfl (And.intro rfl trivial))
        · skip
          conv => whnf
          refine ⟨_, rfl, kg15, fun o20 eo => ?_⟩
          obtain ⟨b21, eb21, kb21⟩ := hG.2.2.1 _ kg15
          obtain rfl : o20 = some b21 := eo.symm.trans eb21
          conv => whnf
          refine ⟨_, rfl, kb21, fun x22 ex22 => ?_⟩
          conv => whnf
          refine ⟨kg15, rfl, _, _, _, _, _, _, c_Run_bit kg15, ⟨Nat.le_of_ble_eq_true rfl, Nat.le_of_ble_eq_true rfl, Nat.le_of_ble_eq_true rfl, Nat.le_of_ble_eq_true rfl⟩, fun _ _ z => z, ?_⟩
          rintro v9 h9 ⟨rfl, r23, rfl⟩
          conv => whnf
          refine ⟨_, rfl, kb21, ?_⟩
          have t25 : (v1 + Int32.ofInt 1).toInt = v1.toInt + 1 := j_inc1 (by omega)
          exact j_use hF (ih36 _ _ (j_Sc.put (j_Sc.put sc kg15 (show j_sf 7 10 = true from rfl)) kb21 (show j_sf 4 9 = true from rfl)) (by omega) (by omega)) (And.intro rfl (And.intro rfl trivial))
  have M36 : ∀ (v1 : Int32) (it : Nat → Nat → Int32) , j_Sc j_sf h it → 0 ≤ v1.toInt → (0:Int) ≤ 0 → J 36 [some (j_r (some x)), some (j_i v1), none] [] (j_wi h it) 0 0 := fun v1 it sc h1 _ => L36 4294967296 v1 it sc h1 (by have := j_lb v1; omega)
  have L2 : ∀ (m : Nat) (v1 : Int32) (it : Nat → Nat → Int32) , j_Sc j_sf h it → 0 ≤ v1.toInt → (2147483647 - v1.toInt) < (m : Int) → J 2 [some (j_r (some x)), some (j_i v1), none] [] (j_wi h it) 0 0 := by
    intro m
    induction m with
    | zero => intro v1 it sc h1 hm; exact absurd hm (by have := j_ub v1; omega)
    | succ m ih2 =>
      intro v1 it sc h1 hm
      have uv1 := j_ub v1
      have lv1 := j_lb v1
      refine hJ [2, 36, 95, 108] 400 _ _ _ _ _ _ ?_
      conv => whnf
      refine ⟨_, rfl, kx, fun o26 eo => ?_⟩
      obtain rfl : o26 = some L0 := eo.symm.trans e0
      conv => whnf
      refine ⟨l0.1, rfl, _, _, _, _, _, _, c_AL_size l0 sc j_sf_ok, ⟨Nat.le_of_ble_eq_true rfl, Nat.le_of_ble_eq_true rfl, Nat.le_of_ble_eq_true rfl, Nat.le_of_ble_eq_true rfl⟩, fun _ _ z => z, ?_⟩
      rintro v9 h9 ⟨rfl, rfl⟩
      conv => whnf
      refine ⟨fun c27 => ?_, fun c27 => ?_⟩
      · skip
        exact j_use hF (M36 _ _ sc (by omega) (by omega)) (And.intro rfl (And.intro rfl trivial))
      · skip
        conv => whnf
        refine ⟨_, rfl, kx, fun o28 eo => ?_⟩
        obtain rfl : o28 = some L0 := eo.symm.trans e0
        conv => whnf
        refine ⟨l0.1, rfl, _, _, _, _, _, _, c_AL_get l0 sc j_sf_ok (by omega) (by omega), ⟨Nat.le_of_ble_eq_true rfl, Nat.le_of_ble_eq_true rfl, Nat.le_of_ble_eq_true rfl, Nat.le_of_ble_eq_true rfl⟩, fun _ _ z => z, ?_⟩
        rintro v9 h9 ⟨rfl, g29, rfl, kg29⟩
        conv => whnf
        refine ⟨Or.inr ⟨_, rfl, kg29⟩, ?_⟩
        conv => whnf
        refine ⟨_, rfl, kg29, ?_⟩
        have t31 : (v1 + Int32.ofInt 1).toInt = v1.toInt + 1 := j_inc1 (by omega)
        exact j_use hF (ih2 _ _ (j_Sc.put sc kg29 (show j_sf 4 9 = true from rfl)) (by omega) (by omega)) (And.intro rfl (And.intro rfl trivial))
  have M2 : ∀ (v1 : Int32) (it : Nat → Nat → Int32) , j_Sc j_sf h it → 0 ≤ v1.toInt → (0:Int) ≤ 0 → J 2 [some (j_r (some x)), some (j_i v1), none] [] (j_wi h it) 0 0 := fun v1 it sc h1 _ => L2 4294967296 v1 it sc h1 (by have := j_lb v1; omega)
  refine hJ [2, 36, 95, 108] 400 _ _ _ _ _ _ ?_
  exact j_use hF (M2 _ _ sc (by omega) (by omega)) (And.intro rfl (And.intro rfl trivial))
set_option maxHeartbeats 4000000 in
set_option maxRecDepth 20000 in
theorem c_G_countDoubles {h : j_H} {it : Nat → Nat → Int32} {x : Nat} (hW : j_WF h x) (sc : j_Sc j_sf h it)  : j_Ct 85 4 87 0 0 [j_r (some x)] (j_wi h it) (fun v h' => ∃ it', h' = j_wi h it' ∧ j_Sc j_sf h it' ∧ ∃ r, v = some (j_i r)) j_no := by
  refine j_intro km_85 (Nat.le_of_ble_eq_true rfl) ?_
  intro J hJ hF
  obtain ⟨kx, hG, L0, L1, L2, e0, l0, e1, l1, e2, l2⟩ := id hW
  have b0 := l0.2.1; have b1 := l1.2.1; have b2 := l2.2.1; have d0 := l0.2.2.1; have d1 := l1.2.2.1; have d2 := l2.2.2.1
  have L8 : ∀ (m : Nat) (v1 : Int32) (v2 : Int32) (it : Nat → Nat → Int32) , j_Sc j_sf h it → 0 ≤ v2.toInt → (2147483647 - v2.toInt) < (m : Int) → J 8 [some (j_r (some x)), some (j_i v1), some (j_i v2)] [] (j_wi h it) 0 0 := by
    intro m
    induction m with
    | zero => intro v1 v2 it sc h2 hm; exact absurd hm (by have := j_ub v2; omega)
    | succ m ih8 =>
      intro v1 v2 it sc h2 hm
      have uv1 := j_ub v1
      have lv1 := j_lb v1
      have uv2 := j_ub v2
      have lv2 := j_lb v2
      refine hJ [8] 400 _ _ _ _ _ _ ?_
      conv => whnf
      refine ⟨_, rfl, kx, fun o1 eo => ?_⟩
      obtain rfl : o1 = some L1 := eo.symm.trans e1
      conv => whnf
      refine ⟨l1.1, rfl, _, _, _, _, _, _, c_AL_size l1 sc j_sf_ok, ⟨Nat.le_of_ble_eq_true rfl, Nat.le_of_ble_eq_true rfl, Nat.le_of_ble_eq_true rfl, Nat.le_of_ble_eq_true rfl⟩, fun _ _ z => z, ?_⟩
      rintro v9 h9 ⟨rfl, rfl⟩
      conv => whnf
      refine ⟨fun c2 => ?_, fun c2 => ?_⟩
      · skip
        conv => whnf
        refine ⟨by decide, ?_⟩
        conv => whnf
        exact ⟨trivial, ⟨Nat.le_of_ble_eq_true rfl, Nat.le_of_ble_eq_true rfl⟩, _, rfl, sc, _, rfl⟩
      · skip
        conv => whnf
        refine ⟨_, rfl, kx, fun o3 eo => ?_⟩
        obtain rfl : o3 = some L1 := eo.symm.trans e1
        conv => whnf
        refine ⟨l1.1, rfl, _, _, _, _, _, _, c_AL_get l1 sc j_sf_ok (by omega) (by omega), ⟨Nat.le_of_ble_eq_true rfl, Nat.le_of_ble_eq_true rfl, Nat.le_of_ble_eq_true rfl, Nat.le_of_ble_eq_true rfl⟩, fun _ _ z => z, ?_⟩
        rintro v9 h9 ⟨rfl, g4, rfl, kg4⟩
        conv => whnf
        refine ⟨Or.inr ⟨_, rfl, kg4⟩, ?_⟩
        conv => whnf
        refine ⟨kg4, rfl, _, _, _, _, _, _, c_Run_countMissed hG sc kg4, ⟨Nat.le_of_ble_eq_true rfl, Nat.le_of_ble_eq_true rfl, Nat.le_of_ble_eq_true rfl, Nat.le_of_ble_eq_true rfl⟩, fun _ _ z => z, ?_⟩
        rintro v9 h9 ⟨it6, rfl, sit6, r5, rfl⟩
        have t7 : (v2 + Int32.ofInt 1).toInt = v2.toInt + 1 := j_inc1 (by omega)
        exact j_use hF (ih8 _ _ _ sit6 (by omega) (by omega)) (And.intro rfl (And.intro rfl (And.intro rfl trivial)))
  have M8 : ∀ (v1 : Int32) (v2 : Int32) (it : Nat → Nat → Int32) , j_Sc j_sf h it → 0 ≤ v2.toInt → (0:Int) ≤ 0 → J 8 [some (j_r (some x)), some (j_i v1), some (j_i v2)] [] (j_wi h it) 0 0 := fun v1 v2 it sc h2 _ => L8 4294967296 v1 v2 it sc h2 (by have := j_lb v2; omega)
  refine hJ [8] 400 _ _ _ _ _ _ ?_
  conv => whnf
  refine ⟨kx, rfl, _, _, _, _, _, _, c_G_markRuns hW sc, ⟨Nat.le_of_ble_eq_true rfl, Nat.le_of_ble_eq_true rfl, Nat.le_of_ble_eq_true rfl, Nat.le_of_ble_eq_true rfl⟩, fun _ _ z => z, ?_⟩
  rintro v9 h9 ⟨it9, rfl, sit9, rfl⟩
  exact j_use hF (M8 _ _ _ sit9 (by omega) (by omega)) (And.intro rfl (And.intro rfl (And.intro rfl trivial)))
set_option maxHeartbeats 4000000 in
set_option maxRecDepth 20000 in
theorem c_G_doublesLessBySwap {h : j_H} {it : Nat → Nat → Int32} {y : Nat} {z : Nat} (hG : j_G h) (sc : j_Sc j_sf h it) (ky : j_kd h y = some (.inl 7)) (kz : j_kd h z = some (.inl 7)) : j_Ct 96 2 40 0 0 [j_r (some y), j_r (some z)] (j_wi h it) (fun v h' => ∃ it', h' = j_wi h it' ∧ j_Sc j_sf h it' ∧ ∃ r, v = some (j_i r)) j_no := by
  refine j_intro km_96 (Nat.le_of_ble_eq_true rfl) ?_
  intro J hJ hF
  refine hJ [] 400 _ _ _ _ _ _ ?_
  conv => whnf
  refine ⟨_, rfl, ky, fun x1 ex1 => ?_⟩
  conv => whnf
  refine ⟨fun c2 => ?_, fun c2 => ?_⟩
  · skip
    conv => whnf
    exact ⟨trivial, ⟨Nat.le_of_ble_eq_true rfl, Nat.le_of_ble_eq_true rfl⟩, _, rfl, sc, _, rfl⟩
  · skip
    conv => whnf
    refine ⟨_, rfl, kz, fun x3 ex3 => ?_⟩
    conv => whnf
    refine ⟨fun c4 => ?_, fun c4 => ?_⟩
    · skip
      conv => whnf
      exact ⟨trivial, ⟨Nat.le_of_ble_eq_true rfl, Nat.le_of_ble_eq_true rfl⟩, _, rfl, sc, _, rfl⟩
    · skip
      conv => whnf
      refine ⟨_, rfl, ky, fun o5 eo => ?_⟩
      obtain ⟨b6, eb6, kb6⟩ := hG.2.2.1 _ ky
      obtain rfl : o5 = some b6 := eo.symm.trans eb6
      conv => whnf
      refine ⟨_, rfl, kz, fun o7 eo => ?_⟩
      obtain ⟨b8, eb8, kb8⟩ := hG.2.2.1 _ kz
      obtain rfl : o7 = some b8 := eo.symm.trans eb8
      conv => whnf
      refine ⟨fun c9 => ?_, fun c9 => ?_⟩
      · skip
        conv => whnf
        exact ⟨trivial, ⟨Nat.le_of_ble_eq_true rfl, Nat.le_of_ble_eq_true rfl⟩, _, rfl, sc, _, rfl⟩
      · skip
        conv => whnf
        refine ⟨_, rfl, ky, fun x10 ex10 => ?_⟩
        conv => whnf
        refine ⟨_, rfl, kz, fun o11 eo => ?_⟩
        obtain ⟨b12, eb12, kb12⟩ := hG.2.2.1 _ kz
        obtain rfl : o11 = some b12 := eo.symm.trans eb12
        conv => whnf
        refine ⟨_, rfl, kb12, fun x13 ex13 => ?_⟩
        conv => whnf
        refine ⟨kz, rfl, _, _, _, _, _, _, c_Run_bit kz, ⟨Nat.le_of_ble_eq_true rfl, Nat.le_of_ble_eq_true rfl, Nat.le_of_ble_eq_true rfl, Nat.le_of_ble_eq_true rfl⟩, fun _ _ z => z, ?_⟩
        rintro v9 h9 ⟨rfl, r14, rfl⟩
        conv => whnf
        refine ⟨_, rfl, kz, fun x15 ex15 => ?_⟩
        conv => whnf
        refine ⟨_, rfl, ky, fun o16 eo => ?_⟩
        obtain ⟨b17, eb17, kb17⟩ := hG.2.2.1 _ ky
        obtain rfl : o16 = some b17 := eo.symm.trans eb17
        conv => whnf
        refine ⟨_, rfl, kb17, fun x18 ex18 => ?_⟩
        conv => whnf
        refine ⟨ky, rfl, _, _, _, _, _, _, c_Run_bit ky, ⟨Nat.le_of_ble_eq_true rfl, Nat.le_of_ble_eq_true rfl, Nat.le_of_ble_eq_true rfl, Nat.le_of_ble_eq_true rfl⟩, fun _ _ z => z, ?_⟩
        rintro v9 h9 ⟨rfl, r19, rfl⟩
        conv => whnf
        refine ⟨ky, rfl, _, _, _, _, _, _, c_Run_countMissed hG sc ky, ⟨Nat.le_of_ble_eq_true rfl, Nat.le_of_ble_eq_true rfl, Nat.le_of_ble_eq_true rfl, Nat.le_of_ble_eq_true rfl⟩, fun _ _ z => z, ?_⟩
        rintro v9 h9 ⟨it21, rfl, sit21, r20, rfl⟩
        conv => whnf
        refine ⟨kz, rfl, _, _, _, _, _, _, c_Run_countMissed hG sit21 kz, ⟨Nat.le_of_ble_eq_true rfl, Nat.le_of_ble_eq_true rfl, Nat.le_of_ble_eq_true rfl, Nat.le_of_ble_eq_true rfl⟩, fun _ _ z => z, ?_⟩
        rintro v9 h9 ⟨it23, rfl, sit23, r22, rfl⟩
        conv => whnf
        refine ⟨rfl, _, _, _, _, _, _, c_Integer_bitCount, ⟨Nat.le_of_ble_eq_true rfl, Nat.le_of_ble_eq_true rfl, Nat.le_of_ble_eq_true rfl, Nat.le_of_ble_eq_true rfl⟩, fun _ _ z => z, ?_⟩
        rintro v9 h9 ⟨rfl, r24, rfl⟩
        conv => whnf
        refine ⟨rfl, _, _, _, _, _, _, c_Integer_bitCount, ⟨Nat.le_of_ble_eq_true rfl, Nat.le_of_ble_eq_true rfl, Nat.le_of_ble_eq_true rfl, Nat.le_of_ble_eq_true rfl⟩, fun _ _ z => z, ?_⟩
        rintro v9 h9 ⟨rfl, r25, rfl⟩
        conv => whnf
        exact ⟨trivial, ⟨Nat.le_of_ble_eq_true rfl, Nat.le_of_ble_eq_true rfl⟩, _, rfl, sit23, _, rfl⟩
set_option maxHeartbeats 4000000 in
set_option maxRecDepth 20000 in
theorem c_G_findBestPair {h : j_H} {it : Nat → Nat → Int32} {x : Nat} (hW : j_WF h x) (sc : j_Sc j_sf h it)  : j_Ct 99 4 87 0 0 [j_r (some x)] (j_wi h it) (fun v h' => ∃ it', h' = j_wi h it' ∧ j_Sc j_sf h it' ∧ ∃ r, v = some (j_i r)) j_no := by
  refine j_intro km_99 (Nat.le_of_ble_eq_true rfl) ?_
  intro J hJ hF
  obtain ⟨kx, hG, L0, L1, L2, e0, l0, e1, l1, e2, l2⟩ := id hW
  have b0 := l0.2.1; have b1 := l1.2.1; have b2 := l2.2.1; have d0 := l0.2.2.1; have d1 := l1.2.2.1; have d2 := l2.2.2.1
  have L10 : ∀ (m : Nat) (v1 : Int32) (v2 : Int32) (v3 : Int32) (it : Nat → Nat → Int32) , j_Sc j_sf h it → 0 ≤ v3.toInt → (2147483647 - v3.toInt) < (m : Int) → J 10 [some (j_r (some x)), some (j_i v1), some (j_i v2), some (j_i v3), none, none] [] (j_wi h it) 0 0 := by
    intro m
    induction m with
    | zero => intro v1 v2 v3 it sc h3 hm; exact absurd hm (by have := j_ub v3; omega)
    | succ m ih10 =>
      intro v1 v2 v3 it sc h3 hm
      have uv1 := j_ub v1
      have lv1 := j_lb v1
      have uv2 := j_ub v2
      have lv2 := j_lb v2
      have uv3 := j_ub v3
      have lv3 := j_lb v3
      have L26 : ∀ (m : Nat) (v1 : Int32) (v2 : Int32) (v3 : Int32) (v4 : Int32) (it : Nat → Nat → Int32) , j_Sc j_sf h it → 0 ≤ v4.toInt → 0 ≤ v3.toInt → (2147483647 - v4.toInt) < (m : Int) → J 26 [some (j_r (some x)), some (j_i v1), some (j_i v2), some (j_i v3), some (j_i v4), none] [] (j_wi h it) 0 0 := by
        intro m
        induction m with
        | zero => intro v1 v2 v3 v4 it sc h4 h3 hm; exact absurd hm (by have := j_ub v4; omega)
        | succ m ih26 =>
          intro v1 v2 v3 v4 it sc h4 h3 hm
          have uv1 := j_ub v1
          have lv1 := j_lb v1
          have uv2 := j_ub v2
          have lv2 := j_lb v2
          have uv3 := j_ub v3
          have lv3 := j_lb v3
          have uv4 := j_ub v4
          have lv4 := j_lb v4
          refine hJ [10, 26] 400 _ _ _ _ _ _ ?_
          conv => whnf
          refine ⟨_, rfl, kx, fun o1 eo => ?_⟩
          obtain rfl : o1 = some L1 := eo.symm.trans e1
          conv => whnf
          refine ⟨l1.1, rfl, _, _, _, _, _, _, c_AL_size l1 sc j_sf_ok, ⟨Nat.le_of_ble_eq_true rfl, Nat.le_of_ble_eq_true rfl, Nat.le_of_ble_eq_true rfl, Nat.le_of_ble_eq_true rfl⟩, fun _ _ z => z, ?_⟩
          rintro v9 h9 ⟨rfl, rfl⟩
          conv => whnf
          refine ⟨fun c2 => ?_, fun c2 => ?_⟩
          · skip
            have t3 : (v3 + Int32.ofInt 1).toInt = v3.toInt + 1 := j_inc1 (by omega)
            exact j_use hF (ih10 _ _ _ _ sc (by omega) (by omega)) (And.intro rfl (And.intro rfl (And.intro rfl (And.intro rfl trivial))))
          · skip
            conv => whnf
            refine ⟨_, rfl, kx, fun o4 eo => ?_⟩
            obtain rfl : o4 = some L1 := eo.symm.trans e1
            conv => whnf
            refine ⟨l1.1, rfl, _, _, _, _, _, _, c_AL_get l1 sc j_sf_ok (by omega) (by omega), ⟨Nat.le_of_ble_eq_true rfl, Nat.le_of_ble_eq_true rfl, Nat.le_of_ble_eq_true rfl, Nat.le_of_ble_eq_true rfl⟩, fun _ _ z => z, ?_⟩
            rintro v9 h9 ⟨rfl, g5, rfl, kg5⟩
            conv => whnf
            refine ⟨Or.inr ⟨_, rfl, kg5⟩, ?_⟩
            conv => whnf
            refine ⟨_, rfl, kx, fun o6 eo => ?_⟩
            obtain rfl : o6 = some L1 := eo.symm.trans e1
            conv => whnf
            refine ⟨l1.1, rfl, _, _, _, _, _, _, c_AL_get l1 sc j_sf_ok (by omega) (by omega), ⟨Nat.le_of_ble_eq_true rfl, Nat.le_of_ble_eq_true rfl, Nat.le_of_ble_eq_true rfl, Nat.le_of_ble_eq_true rfl⟩, fun _ _ z => z, ?_⟩
            rintro v9 h9 ⟨rfl, g7, rfl, kg7⟩
            conv => whnf
            refine ⟨Or.inr ⟨_, rfl, kg7⟩, ?_⟩
            conv => whnf
            refine ⟨rfl, _, _, _, _, _, _, c_G_doublesLessBySwap hG sc kg5 kg7, ⟨Nat.le_of_ble_eq_true rfl, Nat.le_of_ble_eq_true rfl, Nat.le_of_ble_eq_true rfl, Nat.le_of_ble_eq_true rfl⟩, fun _ _ z => z, ?_⟩
            rintro v9 h9 ⟨it9, rfl, sit9, r8, rfl⟩
            conv => whnf
            refine ⟨fun c10 => ?_, fun c10 => ?_⟩
            · skip
              have t11 : (v4 + Int32.ofInt 1).toInt = v4.toInt + 1 := j_inc1 (by omega)
              exact j_use hF (ih26 _ _ _ _ _ sit9 (by omega) (by omega) (by omega)) (And.intro rfl (And.intro rfl (And.intro rfl (And.intro rfl (And.intro rfl trivial)))))
            · skip
              have t12 : (v4 + Int32.ofInt 1).toInt = v4.toInt + 1 := j_inc1 (by omega)
              exact j_use hF (ih26 _ _ _ _ _ sit9 (by omega) (by omega) (by omega)) (And.intro rfl (And.intro rfl (And.intro rfl (And.intro rfl (And.intro rfl trivial)))))
      have M26 : ∀ (v1 : Int32) (v2 : Int32) (v3 : Int32) (v4 : Int32) (it : Nat → Nat → Int32) , j_Sc j_sf h it → 0 ≤ v4.toInt → 0 ≤ v3.toInt → (0:Int) ≤ 0 → J 26 [some (j_r (some x)), some (j_i v1), some (j_i v2), some (j_i v3), some (j_i v4), none] [] (j_wi h it) 0 0 := fun v1 v2 v3 v4 it sc h4 h3 _ => L26 4294967296 v1 v2 v3 v4 it sc h4 h3 (by have := j_lb v4; omega)
      refine hJ [10, 26] 400 _ _ _ _ _ _ ?_
      conv => whnf
      refine ⟨_, rfl, kx, fun o13 eo => ?_⟩
      obtain rfl : o13 = some L1 := eo.symm.trans e1
      conv => whnf
      refine ⟨l1.1, rfl, _, _, _, _, _, _, c_AL_size l1 sc j_sf_ok, ⟨Nat.le_of_ble_eq_true rfl, Nat.le_of_ble_eq_true rfl, Nat.le_of_ble_eq_true rfl, Nat.le_of_ble_eq_true rfl⟩, fun _ _ z => z, ?_⟩
      rintro v9 h9 ⟨rfl, rfl⟩
      conv => whnf
      refine ⟨fun c14 => ?_, fun c14 => ?_⟩
      · skip
        conv => whnf
        exact ⟨trivial, ⟨Nat.le_of_ble_eq_true rfl, Nat.le_of_ble_eq_true rfl⟩, _, rfl, sc, _, rfl⟩
      · skip
        exact j_use hF (M26 _ _ _ _ _ sc (by omega) (by omega) (by omega)) (And.intro rfl (And.intro rfl (And.intro rfl (And.intro rfl (And.intro rfl trivial)))))
  have M10 : ∀ (v1 : Int32) (v2 : Int32) (v3 : Int32) (it : Nat → Nat → Int32) , j_Sc j_sf h it → 0 ≤ v3.toInt → (0:Int) ≤ 0 → J 10 [some (j_r (some x)), some (j_i v1), some (j_i v2), some (j_i v3), none, none] [] (j_wi h it) 0 0 := fun v1 v2 v3 it sc h3 _ => L10 4294967296 v1 v2 v3 it sc h3 (by have := j_lb v3; omega)
  refine hJ [10, 26] 400 _ _ _ _ _ _ ?_
  conv => whnf
  refine ⟨kx, rfl, _, _, _, _, _, _, c_G_markRuns hW sc, ⟨Nat.le_of_ble_eq_true rfl, Nat.le_of_ble_eq_true rfl, Nat.le_of_ble_eq_true rfl, Nat.le_of_ble_eq_true rfl⟩, fun _ _ z => z, ?_⟩
  rintro v9 h9 ⟨it16, rfl, sit16, rfl⟩
  exact j_use hF (M10 _ _ _ _ sit16 (by omega) (by omega)) (And.intro rfl (And.intro rfl (And.intro rfl (And.intro rfl trivial))))
set_option maxHeartbeats 4000000 in
set_option maxRecDepth 20000 in
theorem c_G_grainFact {h : j_H} {it : Nat → Nat → Int32} {x : Nat} {z : Nat} {a : Int32} (hW : j_WF h x) (sc : j_Sc j_sf h it) (kz : j_kd h z = some (.inl 4)) : j_Ct 102 4 88 0 0 [j_r (some x), j_r (some z), j_i a] (j_wi h it) (fun v h' => ∃ it', h' = j_wi h it' ∧ j_Sc j_sf h it' ∧ ∃ r, v = some (j_i r)) j_no := by
  refine j_intro km_102 (Nat.le_of_ble_eq_true rfl) ?_
  intro J hJ hF
  obtain ⟨kx, hG, L0, L1, L2, e0, l0, e1, l1, e2, l2⟩ := id hW
  have b0 := l0.2.1; have b1 := l1.2.1; have b2 := l2.2.1; have d0 := l0.2.2.1; have d1 := l1.2.2.1; have d2 := l2.2.2.1
  refine hJ [] 400 _ _ _ _ _ _ ?_
  conv => whnf
  refine ⟨And.intro (fun c1 => ?_) (And.intro (fun c1 => ?_) (And.intro (fun c1 => ?_) (And.intro (fun c1 => ?_) (And.intro (fun c1 => ?_) (And.intro (fun c1 => ?_) (And.intro (fun c1 => ?_) (And.intro (fun c1 => ?_) (And.intro (fun c1 => ?_) (trivial))))))))), fun c1 => ?_⟩
  · skip
    conv => whnf
    refine ⟨_, rfl, kz, fun o2 eo => ?_⟩
    obtain ⟨b3, eb3, kb3⟩ := hG.1 _ kz
    obtain rfl : o2 = some b3 := eo.symm.trans eb3
    conv => whnf
    refine ⟨_, rfl, kb3, fun x4 ex4 => ?_⟩
    conv => whnf
    exact ⟨trivial, ⟨Nat.le_of_ble_eq_true rfl, Nat.le_of_ble_eq_true rfl⟩, _, rfl, sc, _, rfl⟩
  · skip
    conv => whnf
    refine ⟨_, rfl, kz, fun o5 eo => ?_⟩
    obtain ⟨b6, eb6, kb6⟩ := hG.1 _ kz
    obtain rfl : o5 = some b6 := eo.symm.trans eb6
    conv => whnf
    refine ⟨_, rfl, kb6, fun x7 ex7 => ?_⟩
    conv => whnf
    exact ⟨trivial, ⟨Nat.le_of_ble_eq_true rfl, Nat.le_of_ble_eq_true rfl⟩, _, rfl, sc, _, rfl⟩
  · skip
    conv => whnf
    refine ⟨_, rfl, kz, fun o8 eo => ?_⟩
    obtain ⟨b9, eb9, kb9⟩ := hG.1 _ kz
    obtain rfl : o8 = some b9 := eo.symm.trans eb9
    conv => whnf
    refine ⟨_, rfl, kb9, fun x10 ex10 => ?_⟩
    conv => whnf
    exact ⟨trivial, ⟨Nat.le_of_ble_eq_true rfl, Nat.le_of_ble_eq_true rfl⟩, _, rfl, sc, _, rfl⟩
  · skip
    conv => whnf
    refine ⟨_, rfl, kz, fun o11 eo => ?_⟩
    obtain ⟨b12, eb12, kb12⟩ := hG.2.1 _ kz
    obtain rfl : o11 = some b12 := eo.symm.trans eb12
    conv => whnf
    refine ⟨_, rfl, kb12, fun x13 ex13 => ?_⟩
    conv => whnf
    exact ⟨trivial, ⟨Nat.le_of_ble_eq_true rfl, Nat.le_of_ble_eq_true rfl⟩, _, rfl, sc, _, rfl⟩
  · skip
    conv => whnf
    refine ⟨_, rfl, kz, fun o14 eo => ?_⟩
    obtain ⟨b15, eb15, kb15⟩ := hG.2.1 _ kz
    obtain rfl : o14 = some b15 := eo.symm.trans eb15
    conv => whnf
    refine ⟨_, rfl, kb15, fun x16 ex16 => ?_⟩
    conv => whnf
    exact ⟨trivial, ⟨Nat.le_of_ble_eq_true rfl, Nat.le_of_ble_eq_true rfl⟩, _, rfl, sc, _, rfl⟩
  · skip
    conv => whnf
    refine ⟨_, rfl, kz, fun o17 eo => ?_⟩
    obtain ⟨b18, eb18, kb18⟩ := hG.2.1 _ kz
    obtain rfl : o17 = some b18 := eo.symm.trans eb18
    conv => whnf
    refine ⟨_, rfl, kb18, fun x19 ex19 => ?_⟩
    conv => whnf
    exact ⟨trivial, ⟨Nat.le_of_ble_eq_true rfl, Nat.le_of_ble_eq_true rfl⟩, _, rfl, sc, _, rfl⟩
  · skip
    conv => whnf
    refine ⟨_, rfl, kx, fun x20 ex20 => ?_⟩
    conv => whnf
    refine ⟨_, rfl, kz, fun x21 ex21 => ?_⟩
    conv => whnf
    exact ⟨trivial, ⟨Nat.le_of_ble_eq_true rfl, Nat.le_of_ble_eq_true rfl⟩, _, rfl, sc, _, rfl⟩
  · skip
    conv => whnf
    refine ⟨_, rfl, kz, fun x22 ex22 => ?_⟩
    conv => whnf
    exact ⟨trivial, ⟨Nat.le_of_ble_eq_true rfl, Nat.le_of_ble_eq_true rfl⟩, _, rfl, sc, _, rfl⟩
  · skip
    conv => whnf
    refine ⟨_, rfl, kz, fun x23 ex23 => ?_⟩
    conv => whnf
    refine ⟨rfl, _, _, _, _, _, _, c_G_oneIf, ⟨Nat.le_of_ble_eq_true rfl, Nat.le_of_ble_eq_true rfl, Nat.le_of_ble_eq_true rfl, Nat.le_of_ble_eq_true rfl⟩, fun _ _ z => z, ?_⟩
    rintro v9 h9 ⟨rfl, r24, rfl⟩
    conv => whnf
    exact ⟨trivial, ⟨Nat.le_of_ble_eq_true rfl, Nat.le_of_ble_eq_true rfl⟩, _, rfl, sc, _, rfl⟩
  · skip
    conv => whnf
    refine ⟨kx, rfl, _, _, _, _, _, _, c_G_countRunsLabelled hW sc kz, ⟨Nat.le_of_ble_eq_true rfl, Nat.le_of_ble_eq_true rfl, Nat.le_of_ble_eq_true rfl, Nat.le_of_ble_eq_true rfl⟩, fun _ _ z => z, ?_⟩
    rintro v9 h9 ⟨it26, rfl, sit26, r25, rfl⟩
    conv => whnf
    exact ⟨trivial, ⟨Nat.le_of_ble_eq_true rfl, Nat.le_of_ble_eq_true rfl⟩, _, rfl, sit26, _, rfl⟩
set_option maxHeartbeats 4000000 in
set_option maxRecDepth 20000 in
theorem c_G_runFact {h : j_H} {it : Nat → Nat → Int32} {x : Nat} {z : Nat} {a : Int32} (hW : j_WF h x) (sc : j_Sc j_sf h it) (kz : j_kd h z = some (.inl 7)) : j_Ct 134 1 21 0 0 [j_r (some x), j_r (some z), j_i a] (j_wi h it) (fun v h' => ∃ it', h' = j_wi h it' ∧ j_Sc j_sf h it' ∧ ∃ r, v = some (j_i r)) j_no := by
  refine j_intro km_134 (Nat.le_of_ble_eq_true rfl) ?_
  intro J hJ hF
  obtain ⟨kx, hG, L0, L1, L2, e0, l0, e1, l1, e2, l2⟩ := id hW
  have b0 := l0.2.1; have b1 := l1.2.1; have b2 := l2.2.1; have d0 := l0.2.2.1; have d1 := l1.2.2.1; have d2 := l2.2.2.1
  refine hJ [] 400 _ _ _ _ _ _ ?_
  conv => whnf
  refine ⟨And.intro (fun c1 => ?_) (And.intro (fun c1 => ?_) (And.intro (fun c1 => ?_) (And.intro (fun c1 => ?_) (And.intro (fun c1 => ?_) (And.intro (fun c1 => ?_) (And.intro (fun c1 => ?_) (trivial))))))), fun c1 => ?_⟩
  · skip
    conv => whnf
    refine ⟨_, rfl, kz, fun o2 eo => ?_⟩
    obtain ⟨b3, eb3, kb3⟩ := hG.2.2.1 _ kz
    obtain rfl : o2 = some b3 := eo.symm.trans eb3
    conv => whnf
    refine ⟨_, rfl, kb3, fun x4 ex4 => ?_⟩
    conv => whnf
    exact ⟨trivial, ⟨Nat.le_of_ble_eq_true rfl, Nat.le_of_ble_eq_true rfl⟩, _, rfl, sc, _, rfl⟩
  · skip
    conv => whnf
    refine ⟨_, rfl, kz, fun x5 ex5 => ?_⟩
    conv => whnf
    exact ⟨trivial, ⟨Nat.le_of_ble_eq_true rfl, Nat.le_of_ble_eq_true rfl⟩, _, rfl, sc, _, rfl⟩
  · skip
    conv => whnf
    refine ⟨_, rfl, kz, fun x6 ex6 => ?_⟩
    conv => whnf
    exact ⟨trivial, ⟨Nat.le_of_ble_eq_true rfl, Nat.le_of_ble_eq_true rfl⟩, _, rfl, sc, _, rfl⟩
  · skip
    conv => whnf
    refine ⟨_, rfl, kz, fun x7 ex7 => ?_⟩
    conv => whnf
    exact ⟨trivial, ⟨Nat.le_of_ble_eq_true rfl, Nat.le_of_ble_eq_true rfl⟩, _, rfl, sc, _, rfl⟩
  · skip
    conv => whnf
    refine ⟨_, rfl, kz, fun x8 ex8 => ?_⟩
    conv => whnf
    exact ⟨trivial, ⟨Nat.le_of_ble_eq_true rfl, Nat.le_of_ble_eq_true rfl⟩, _, rfl, sc, _, rfl⟩
  · skip
    conv => whnf
    refine ⟨_, rfl, kx, fun x9 ex9 => ?_⟩
    conv => whnf
    refine ⟨kz, rfl, _, _, _, _, _, _, c_Run_earlyIn kz, ⟨Nat.le_of_ble_eq_true rfl, Nat.le_of_ble_eq_true rfl, Nat.le_of_ble_eq_true rfl, Nat.le_of_ble_eq_true rfl⟩, fun _ _ z => z, ?_⟩
    rintro v9 h9 ⟨rfl, r10, rfl⟩
    conv => whnf
    exact ⟨trivial, ⟨Nat.le_of_ble_eq_true rfl, Nat.le_of_ble_eq_true rfl⟩, _, rfl, sc, _, rfl⟩
  · skip
    conv => whnf
    refine ⟨_, rfl, kx, fun x11 ex11 => ?_⟩
    conv => whnf
    refine ⟨kz, rfl, _, _, _, _, _, _, c_Run_lateIn kz, ⟨Nat.le_of_ble_eq_true rfl, Nat.le_of_ble_eq_true rfl, Nat.le_of_ble_eq_true rfl, Nat.le_of_ble_eq_true rfl⟩, fun _ _ z => z, ?_⟩
    rintro v9 h9 ⟨rfl, r12, rfl⟩
    conv => whnf
    exact ⟨trivial, ⟨Nat.le_of_ble_eq_true rfl, Nat.le_of_ble_eq_true rfl⟩, _, rfl, sc, _, rfl⟩
  · skip
    conv => whnf
    refine ⟨_, rfl, kz, fun x13 ex13 => ?_⟩
    conv => whnf
    refine ⟨rfl, _, _, _, _, _, _, c_G_oneIf, ⟨Nat.le_of_ble_eq_true rfl, Nat.le_of_ble_eq_true rfl, Nat.le_of_ble_eq_true rfl, Nat.le_of_ble_eq_true rfl⟩, fun _ _ z => z, ?_⟩
    rintro v9 h9 ⟨rfl, r14, rfl⟩
    conv => whnf
    exact ⟨trivial, ⟨Nat.le_of_ble_eq_true rfl, Nat.le_of_ble_eq_true rfl⟩, _, rfl, sc, _, rfl⟩
set_option maxHeartbeats 4000000 in
set_option maxRecDepth 20000 in
theorem c_G_printFact {h : j_H} {it : Nat → Nat → Int32} {x : Nat} {z : Nat} {a : Int32} (hW : j_WF h x) (sc : j_Sc j_sf h it) (kz : j_kd h z = some (.inl 6)) : j_Ct 131 2 43 0 0 [j_r (some x), j_r (some z), j_i a] (j_wi h it) (fun v h' => ∃ it', h' = j_wi h it' ∧ j_Sc j_sf h it' ∧ ∃ r, v = some (j_i r)) j_no := by
  refine j_intro km_131 (Nat.le_of_ble_eq_true rfl) ?_
  intro J hJ hF
  obtain ⟨kx, hG, L0, L1, L2, e0, l0, e1, l1, e2, l2⟩ := id hW
  have b0 := l0.2.1; have b1 := l1.2.1; have b2 := l2.2.1; have d0 := l0.2.2.1; have d1 := l1.2.2.1; have d2 := l2.2.2.1
  refine hJ [] 400 _ _ _ _ _ _ ?_
  conv => whnf
  refine ⟨And.intro (fun c1 => ?_) (And.intro (fun c1 => ?_) (And.intro (fun c1 => ?_) (And.intro (fun c1 => ?_) (trivial)))), fun c1 => ?_⟩
  · skip
    conv => whnf
    refine ⟨_, rfl, kz, fun o2 eo => ?_⟩
    obtain ⟨b3, eb3, kb3⟩ := hG.2.2.2.1 _ kz
    obtain rfl : o2 = some b3 := eo.symm.trans eb3
    conv => whnf
    refine ⟨_, rfl, kb3, fun x4 ex4 => ?_⟩
    conv => whnf
    exact ⟨trivial, ⟨Nat.le_of_ble_eq_true rfl, Nat.le_of_ble_eq_true rfl⟩, _, rfl, sc, _, rfl⟩
  · skip
    conv => whnf
    refine ⟨_, rfl, kz, fun x5 ex5 => ?_⟩
    conv => whnf
    exact ⟨trivial, ⟨Nat.le_of_ble_eq_true rfl, Nat.le_of_ble_eq_true rfl⟩, _, rfl, sc, _, rfl⟩
  · skip
    conv => whnf
    refine ⟨_, rfl, kz, fun o6 eo => ?_⟩
    rcases hG.2.2.2.2 _ kz with eb7 | ⟨b7, eb7, kb7, -⟩
    · obtain rfl : o6 = none := eo.symm.trans eb7
      conv => whnf
      refine ⟨fun _ => ?_, fun _ z => nomatch z⟩
      conv => whnf
      exact ⟨trivial, ⟨Nat.le_of_ble_eq_true rfl, Nat.le_of_ble_eq_true rfl⟩, _, rfl, sc, _, rfl⟩
    · obtain rfl : o6 = some b7 := eo.symm.trans eb7
      conv => whnf
      refine ⟨fun z => nomatch z, fun _ _ => ?_⟩
      conv => whnf
      refine ⟨_, rfl, kz, fun o8 eo => ?_⟩
      obtain rfl : o8 = some b7 := eo.symm.trans eb7
      conv => whnf
      refine ⟨_, rfl, kb7, fun x9 ex9 => ?_⟩
      conv => whnf
      exact ⟨trivial, ⟨Nat.le_of_ble_eq_true rfl, Nat.le_of_ble_eq_true rfl⟩, _, rfl, sc, _, rfl⟩
  · skip
    conv => whnf
    refine ⟨kx, rfl, _, _, _, _, _, _, c_G_allStandFrom hW sc (Or.inr ⟨_, rfl, kz⟩), ⟨Nat.le_of_ble_eq_true rfl, Nat.le_of_ble_eq_true rfl, Nat.le_of_ble_eq_true rfl, Nat.le_of_ble_eq_true rfl⟩, fun _ _ z => z, ?_⟩
    rintro v9 h9 ⟨it11, rfl, sit11, r10, rfl, zr10⟩
    conv => whnf
    refine ⟨rfl, _, _, _, _, _, _, c_G_oneIf, ⟨Nat.le_of_ble_eq_true rfl, Nat.le_of_ble_eq_true rfl, Nat.le_of_ble_eq_true rfl, Nat.le_of_ble_eq_true rfl⟩, fun _ _ z => z, ?_⟩
    rintro v9 h9 ⟨rfl, r12, rfl⟩
    conv => whnf
    exact ⟨trivial, ⟨Nat.le_of_ble_eq_true rfl, Nat.le_of_ble_eq_true rfl⟩, _, rfl, sit11, _, rfl⟩
  · skip
    conv => whnf
    refine ⟨rfl, _, _, _, _, _, _, c_G_countPrintsBelow hG sc kz, ⟨Nat.le_of_ble_eq_true rfl, Nat.le_of_ble_eq_true rfl, Nat.le_of_ble_eq_true rfl, Nat.le_of_ble_eq_true rfl⟩, fun _ _ z => z, ?_⟩
    rintro v9 h9 ⟨it14, rfl, sit14, r13, rfl⟩
    conv => whnf
    exact ⟨trivial, ⟨Nat.le_of_ble_eq_true rfl, Nat.le_of_ble_eq_true rfl⟩, _, rfl, sit14, _, rfl⟩
set_option maxHeartbeats 4000000 in
set_option maxRecDepth 20000 in
theorem c_G_labFact {h : j_H} {it : Nat → Nat → Int32} {x : Nat} {a : Int32} (hW : j_WF h x) (sc : j_Sc j_sf h it)  : j_Ct 111 6 135 0 0 [j_r (some x), j_i a] (j_wi h it) (fun v h' => ∃ it', h' = j_wi h it' ∧ j_Sc j_sf h it' ∧ ∃ r, v = some (j_i r)) j_no := by
  refine j_intro km_111 (Nat.le_of_ble_eq_true rfl) ?_
  intro J hJ hF
  obtain ⟨kx, hG, L0, L1, L2, e0, l0, e1, l1, e2, l2⟩ := id hW
  have b0 := l0.2.1; have b1 := l1.2.1; have b2 := l2.2.1; have d0 := l0.2.2.1; have d1 := l1.2.2.1; have d2 := l2.2.2.1
  refine hJ [] 400 _ _ _ _ _ _ ?_
  conv => whnf
  refine ⟨And.intro (fun c1 => ?_) (And.intro (fun c1 => ?_) (And.intro (fun c1 => ?_) (And.intro (fun c1 => ?_) (And.intro (fun c1 => ?_) (And.intro (fun c1 => ?_) (And.intro (fun c1 => ?_) (And.intro (fun c1 => ?_) (And.intro (fun c1 => ?_) (And.intro (fun c1 => ?_) (trivial)))))))))), fun c1 => ?_⟩
  · skip
    conv => whnf
    refine ⟨_, rfl, kx, fun x2 ex2 => ?_⟩
    conv => whnf
    exact ⟨trivial, ⟨Nat.le_of_ble_eq_true rfl, Nat.le_of_ble_eq_true rfl⟩, _, rfl, sc, _, rfl⟩
  · skip
    conv => whnf
    refine ⟨_, rfl, kx, fun o3 eo => ?_⟩
    obtain rfl : o3 = some L0 := eo.symm.trans e0
    conv => whnf
    refine ⟨l0.1, rfl, _, _, _, _, _, _, c_AL_size l0 sc j_sf_ok, ⟨Nat.le_of_ble_eq_true rfl, Nat.le_of_ble_eq_true rfl, Nat.le_of_ble_eq_true rfl, Nat.le_of_ble_eq_true rfl⟩, fun _ _ z => z, ?_⟩
    rintro v9 h9 ⟨rfl, rfl⟩
    conv => whnf
    exact ⟨trivial, ⟨Nat.le_of_ble_eq_true rfl, Nat.le_of_ble_eq_true rfl⟩, _, rfl, sc, _, rfl⟩
  · skip
    conv => whnf
    refine ⟨kx, rfl, _, _, _, _, _, _, c_G_countRunsThatStand hW sc, ⟨Nat.le_of_ble_eq_true rfl, Nat.le_of_ble_eq_true rfl, Nat.le_of_ble_eq_true rfl, Nat.le_of_ble_eq_true rfl⟩, fun _ _ z => z, ?_⟩
    rintro v9 h9 ⟨it5, rfl, sit5, r4, rfl⟩
    conv => whnf
    exact ⟨trivial, ⟨Nat.le_of_ble_eq_true rfl, Nat.le_of_ble_eq_true rfl⟩, _, rfl, sit5, _, rfl⟩
  · skip
    conv => whnf
    refine ⟨kx, rfl, _, _, _, _, _, _, c_G_countPrintsThatStand hW sc, ⟨Nat.le_of_ble_eq_true rfl, Nat.le_of_ble_eq_true rfl, Nat.le_of_ble_eq_true rfl, Nat.le_of_ble_eq_true rfl⟩, fun _ _ z => z, ?_⟩
    rintro v9 h9 ⟨it7, rfl, sit7, r6, rfl⟩
    conv => whnf
    exact ⟨trivial, ⟨Nat.le_of_ble_eq_true rfl, Nat.le_of_ble_eq_true rfl⟩, _, rfl, sit7, _, rfl⟩
  · skip
    conv => whnf
    refine ⟨_, rfl, kx, fun x8 ex8 => ?_⟩
    conv => whnf
    exact ⟨trivial, ⟨Nat.le_of_ble_eq_true rfl, Nat.le_of_ble_eq_true rfl⟩, _, rfl, sc, _, rfl⟩
  · skip
    conv => whnf
    refine ⟨kx, rfl, _, _, _, _, _, _, c_G_countDoubles hW sc, ⟨Nat.le_of_ble_eq_true rfl, Nat.le_of_ble_eq_true rfl, Nat.le_of_ble_eq_true rfl, Nat.le_of_ble_eq_true rfl⟩, fun _ _ z => z, ?_⟩
    rintro v9 h9 ⟨it10, rfl, sit10, r9, rfl⟩
    conv => whnf
    exact ⟨trivial, ⟨Nat.le_of_ble_eq_true rfl, Nat.le_of_ble_eq_true rfl⟩, _, rfl, sit10, _, rfl⟩
  · skip
    conv => whnf
    refine ⟨kx, rfl, _, _, _, _, _, _, c_G_countQuarrels hW sc, ⟨Nat.le_of_ble_eq_true rfl, Nat.le_of_ble_eq_true rfl, Nat.le_of_ble_eq_true rfl, Nat.le_of_ble_eq_true rfl⟩, fun _ _ z => z, ?_⟩
    rintro v9 h9 ⟨it12, rfl, sit12, r11, rfl⟩
    conv => whnf
    exact ⟨trivial, ⟨Nat.le_of_ble_eq_true rfl, Nat.le_of_ble_eq_true rfl⟩, _, rfl, sit12, _, rfl⟩
  · skip
    conv => whnf
    refine ⟨kx, rfl, _, _, _, _, _, _, c_G_findFewest hW sc, ⟨Nat.le_of_ble_eq_true rfl, Nat.le_of_ble_eq_true rfl, Nat.le_of_ble_eq_true rfl, Nat.le_of_ble_eq_true rfl⟩, fun _ _ z => z, ?_⟩
    rintro v9 h9 ⟨it14, rfl, sit14, r13, rfl⟩
    conv => whnf
    refine ⟨rfl, _, _, _, _, _, _, c_Integer_bitCount, ⟨Nat.le_of_ble_eq_true rfl, Nat.le_of_ble_eq_true rfl, Nat.le_of_ble_eq_true rfl, Nat.le_of_ble_eq_true rfl⟩, fun _ _ z => z, ?_⟩
    rintro v9 h9 ⟨rfl, r15, rfl⟩
    conv => whnf
    exact ⟨trivial, ⟨Nat.le_of_ble_eq_true rfl, Nat.le_of_ble_eq_true rfl⟩, _, rfl, sit14, _, rfl⟩
  · skip
    conv => whnf
    refine ⟨_, rfl, kx, fun x16 ex16 => ?_⟩
    conv => whnf
    exact ⟨trivial, ⟨Nat.le_of_ble_eq_true rfl, Nat.le_of_ble_eq_true rfl⟩, _, rfl, sc, _, rfl⟩
  · skip
    conv => whnf
    refine ⟨_, rfl, kx, fun x17 ex17 => ?_⟩
    conv => whnf
    exact ⟨trivial, ⟨Nat.le_of_ble_eq_true rfl, Nat.le_of_ble_eq_true rfl⟩, _, rfl, sc, _, rfl⟩
  · skip
    conv => whnf
    refine ⟨kx, rfl, _, _, _, _, _, _, c_G_countMotesEver hW sc, ⟨Nat.le_of_ble_eq_true rfl, Nat.le_of_ble_eq_true rfl, Nat.le_of_ble_eq_true rfl, Nat.le_of_ble_eq_true rfl⟩, fun _ _ z => z, ?_⟩
    rintro v9 h9 ⟨it19, rfl, sit19, r18, rfl⟩
    conv => whnf
    exact ⟨trivial, ⟨Nat.le_of_ble_eq_true rfl, Nat.le_of_ble_eq_true rfl⟩, _, rfl, sit19, _, rfl⟩
set_option maxHeartbeats 4000000 in
set_option maxRecDepth 20000 in
theorem c_G_allMotesAreThere {h : j_H} {it : Nat → Nat → Int32} {x : Nat} (hW : j_WF h x) (sc : j_Sc j_sf h it)  : j_Ct 81 3 64 0 0 [j_r (some x)] (j_wi h it) (fun v h' => ∃ it', h' = j_wi h it' ∧ j_Sc j_sf h it' ∧ ∃ r, v = some (j_i r) ∧ (r = 0 ∨ r = 1)) j_no := by
  refine j_intro km_81 (Nat.le_of_ble_eq_true rfl) ?_
  intro J hJ hF
  obtain ⟨kx, hG, L0, L1, L2, e0, l0, e1, l1, e2, l2⟩ := id hW
  have b0 := l0.2.1; have b1 := l1.2.1; have b2 := l2.2.1; have d0 := l0.2.2.1; have d1 := l1.2.2.1; have d2 := l2.2.2.1
  have L2 : ∀ (m : Nat) (v1 : Int32) (it : Nat → Nat → Int32) , j_Sc j_sf h it → 0 ≤ v1.toInt → (2147483647 - v1.toInt) < (m : Int) → J 2 [some (j_r (some x)), some (j_i v1), none] [] (j_wi h it) 0 0 := by
    intro m
    induction m with
    | zero => intro v1 it sc h1 hm; exact absurd hm (by have := j_ub v1; omega)
    | succ m ih2 =>
      intro v1 it sc h1 hm
      have uv1 := j_ub v1
      have lv1 := j_lb v1
      refine hJ [2] 400 _ _ _ _ _ _ ?_
      conv => whnf
      refine ⟨_, rfl, kx, fun o1 eo => ?_⟩
      obtain rfl : o1 = some L0 := eo.symm.trans e0
      conv => whnf
      refine ⟨l0.1, rfl, _, _, _, _, _, _, c_AL_size l0 sc j_sf_ok, ⟨Nat.le_of_ble_eq_true rfl, Nat.le_of_ble_eq_true rfl, Nat.le_of_ble_eq_true rfl, Nat.le_of_ble_eq_true rfl⟩, fun _ _ z => z, ?_⟩
      rintro v9 h9 ⟨rfl, rfl⟩
      conv => whnf
      refine ⟨fun c2 => ?_, fun c2 => ?_⟩
      · skip
        conv => whnf
        exact ⟨Or.inr rfl, ⟨Nat.le_of_ble_eq_true rfl, Nat.le_of_ble_eq_true rfl⟩, _, rfl, sc, _, rfl, Or.inr rfl⟩
      · skip
        conv => whnf
        refine ⟨_, rfl, kx, fun o3 eo => ?_⟩
        obtain rfl : o3 = some L0 := eo.symm.trans e0
        conv => whnf
        refine ⟨l0.1, rfl, _, _, _, _, _, _, c_AL_get l0 sc j_sf_ok (by omega) (by omega), ⟨Nat.le_of_ble_eq_true rfl, Nat.le_of_ble_eq_true rfl, Nat.le_of_ble_eq_true rfl, Nat.le_of_ble_eq_true rfl⟩, fun _ _ z => z, ?_⟩
        rintro v9 h9 ⟨rfl, g4, rfl, kg4⟩
        conv => whnf
        refine ⟨Or.inr ⟨_, rfl, kg4⟩, ?_⟩
        conv => whnf
        refine ⟨_, rfl, kg4, fun o5 eo => ?_⟩
        obtain ⟨b6, eb6, kb6⟩ := hG.1 _ kg4
        obtain rfl : o5 = some b6 := eo.symm.trans eb6
        conv => whnf
        refine ⟨kb6, rfl, _, _, _, _, _, _, c_Motes_areAllThere kb6, ⟨Nat.le_of_ble_eq_true rfl, Nat.le_of_ble_eq_true rfl, Nat.le_of_ble_eq_true rfl, Nat.le_of_ble_eq_true rfl⟩, fun _ _ z => z, ?_⟩
        rintro v9 h9 ⟨rfl, r7, rfl, zr7⟩
        conv => whnf
        refine ⟨fun c8 => ?_, fun c8 => ?_⟩
        · skip
          conv => whnf
          exact ⟨Or.inl rfl, ⟨Nat.le_of_ble_eq_true rfl, Nat.le_of_ble_eq_true rfl⟩, _, rfl, sc, _, rfl, Or.inl rfl⟩
        · skip
          conv => whnf
          refine ⟨_, rfl, kg4, fun o9 eo => ?_⟩
          obtain ⟨b10, eb10, kb10⟩ := hG.2.1 _ kg4
          obtain rfl : o9 = some b10 := eo.symm.trans eb10
          conv => whnf
          refine ⟨kb10, rfl, _, _, _, _, _, _, c_Motes_areAllThere kb10, ⟨Nat.le_of_ble_eq_true rfl, Nat.le_of_ble_eq_true rfl, Nat.le_of_ble_eq_true rfl, Nat.le_of_ble_eq_true rfl⟩, fun _ _ z => z, ?_⟩
          rintro v9 h9 ⟨rfl, r11, rfl, zr11⟩
          conv => whnf
          refine ⟨fun c12 => ?_, fun c12 => ?_⟩
          · skip
            have t13 : (v1 + Int32.ofInt 1).toInt = v1.toInt + 1 := j_inc1 (by omega)
            exact j_use hF (ih2 _ _ sc (by omega) (by omega)) (And.intro rfl (And.intro rfl trivial))
          · skip
            conv => whnf
            exact ⟨Or.inl rfl, ⟨Nat.le_of_ble_eq_true rfl, Nat.le_of_ble_eq_true rfl⟩, _, rfl, sc, _, rfl, Or.inl rfl⟩
  have M2 : ∀ (v1 : Int32) (it : Nat → Nat → Int32) , j_Sc j_sf h it → 0 ≤ v1.toInt → (0:Int) ≤ 0 → J 2 [some (j_r (some x)), some (j_i v1), none] [] (j_wi h it) 0 0 := fun v1 it sc h1 _ => L2 4294967296 v1 it sc h1 (by have := j_lb v1; omega)
  refine hJ [2] 400 _ _ _ _ _ _ ?_
  exact j_use hF (M2 _ _ sc (by omega) (by omega)) (And.intro rfl (And.intro rfl trivial))
set_option maxHeartbeats 4000000 in
set_option maxRecDepth 20000 in
theorem c_G_noNarrowedSpanIsWider {h : j_H} {it : Nat → Nat → Int32} {x : Nat} (hW : j_WF h x) (sc : j_Sc j_sf h it)  : j_Ct 121 5 114 0 0 [j_r (some x)] (j_wi h it) (fun v h' => ∃ it', h' = j_wi h it' ∧ j_Sc j_sf h it' ∧ ∃ r, v = some (j_i r) ∧ (r = 0 ∨ r = 1)) j_no := by
  refine j_intro km_121 (Nat.le_of_ble_eq_true rfl) ?_
  intro J hJ hF
  obtain ⟨kx, hG, L0, L1, L2, e0, l0, e1, l1, e2, l2⟩ := id hW
  have b0 := l0.2.1; have b1 := l1.2.1; have b2 := l2.2.1; have d0 := l0.2.2.1; have d1 := l1.2.2.1; have d2 := l2.2.2.1
  have L2 : ∀ (m : Nat) (v1 : Int32) (it : Nat → Nat → Int32) , j_Sc j_sf h it → 0 ≤ v1.toInt → (2147483647 - v1.toInt) < (m : Int) → J 2 [some (j_r (some x)), some (j_i v1), none, none] [] (j_wi h it) 0 0 := by
    intro m
    induction m with
    | zero => intro v1 it sc h1 hm; exact absurd hm (by have := j_ub v1; omega)
    | succ m ih2 =>
      intro v1 it sc h1 hm
      have uv1 := j_ub v1
      have lv1 := j_lb v1
      refine hJ [2] 400 _ _ _ _ _ _ ?_
      conv => whnf
      refine ⟨_, rfl, kx, fun o1 eo => ?_⟩
      obtain rfl : o1 = some L0 := eo.symm.trans e0
      conv => whnf
      refine ⟨l0.1, rfl, _, _, _, _, _, _, c_AL_size l0 sc j_sf_ok, ⟨Nat.le_of_ble_eq_true rfl, Nat.le_of_ble_eq_true rfl, Nat.le_of_ble_eq_true rfl, Nat.le_of_ble_eq_true rfl⟩, fun _ _ z => z, ?_⟩
      rintro v9 h9 ⟨rfl, rfl⟩
      conv => whnf
      refine ⟨fun c2 => ?_, fun c2 => ?_⟩
      · skip
        conv => whnf
        exact ⟨Or.inr rfl, ⟨Nat.le_of_ble_eq_true rfl, Nat.le_of_ble_eq_true rfl⟩, _, rfl, sc, _, rfl, Or.inr rfl⟩
      · skip
        conv => whnf
        refine ⟨_, rfl, kx, fun o3 eo => ?_⟩
        obtain rfl : o3 = some L0 := eo.symm.trans e0
        conv => whnf
        refine ⟨l0.1, rfl, _, _, _, _, _, _, c_AL_get l0 sc j_sf_ok (by omega) (by omega), ⟨Nat.le_of_ble_eq_true rfl, Nat.le_of_ble_eq_true rfl, Nat.le_of_ble_eq_true rfl, Nat.le_of_ble_eq_true rfl⟩, fun _ _ z => z, ?_⟩
        rintro v9 h9 ⟨rfl, g4, rfl, kg4⟩
        conv => whnf
        refine ⟨Or.inr ⟨_, rfl, kg4⟩, ?_⟩
        conv => whnf
        refine ⟨kx, rfl, _, _, _, _, _, _, c_G_lateOf hW sc kg4, ⟨Nat.le_of_ble_eq_true rfl, Nat.le_of_ble_eq_true rfl, Nat.le_of_ble_eq_true rfl, Nat.le_of_ble_eq_true rfl⟩, fun _ _ z => z, ?_⟩
        rintro v9 h9 ⟨it6, rfl, sit6, r5, rfl⟩
        conv => whnf
        refine ⟨kx, rfl, _, _, _, _, _, _, c_G_earlyOf hW sit6 kg4, ⟨Nat.le_of_ble_eq_true rfl, Nat.le_of_ble_eq_true rfl, Nat.le_of_ble_eq_true rfl, Nat.le_of_ble_eq_true rfl⟩, fun _ _ z => z, ?_⟩
        rintro v9 h9 ⟨it8, rfl, sit8, r7, rfl⟩
        conv => whnf
        refine ⟨kx, rfl, _, _, _, _, _, _, c_G_narrowedLate hW sit8 kg4, ⟨Nat.le_of_ble_eq_true rfl, Nat.le_of_ble_eq_true rfl, Nat.le_of_ble_eq_true rfl, Nat.le_of_ble_eq_true rfl⟩, fun _ _ z => z, ?_⟩
        rintro v9 h9 ⟨it10, rfl, sit10, r9, rfl⟩
        conv => whnf
        refine ⟨kx, rfl, _, _, _, _, _, _, c_G_narrowedEarly hW sit10 kg4, ⟨Nat.le_of_ble_eq_true rfl, Nat.le_of_ble_eq_true rfl, Nat.le_of_ble_eq_true rfl, Nat.le_of_ble_eq_true rfl⟩, fun _ _ z => z, ?_⟩
        rintro v9 h9 ⟨it12, rfl, sit12, r11, rfl⟩
        conv => whnf
        refine ⟨fun c13 => ?_, fun c13 => ?_⟩
        · skip
          have t14 : (v1 + Int32.ofInt 1).toInt = v1.toInt + 1 := j_inc1 (by omega)
          exact j_use hF (ih2 _ _ sit12 (by omega) (by omega)) (And.intro rfl (And.intro rfl trivial))
        · skip
          conv => whnf
          exact ⟨Or.inl rfl, ⟨Nat.le_of_ble_eq_true rfl, Nat.le_of_ble_eq_true rfl⟩, _, rfl, sit12, _, rfl, Or.inl rfl⟩
  have M2 : ∀ (v1 : Int32) (it : Nat → Nat → Int32) , j_Sc j_sf h it → 0 ≤ v1.toInt → (0:Int) ≤ 0 → J 2 [some (j_r (some x)), some (j_i v1), none, none] [] (j_wi h it) 0 0 := fun v1 it sc h1 _ => L2 4294967296 v1 it sc h1 (by have := j_lb v1; omega)
  refine hJ [2] 400 _ _ _ _ _ _ ?_
  exact j_use hF (M2 _ _ sc (by omega) (by omega)) (And.intro rfl (And.intro rfl trivial))
set_option maxHeartbeats 4000000 in
set_option maxRecDepth 20000 in
theorem c_G_othersAgree {h : j_H} {it : Nat → Nat → Int32} {x : Nat} (hW : j_WF h x) (sc : j_Sc j_sf h it)  : j_Ct 126 6 135 0 0 [j_r (some x)] (j_wi h it) (fun v h' => ∃ it', h' = j_wi h it' ∧ j_Sc j_sf h it' ∧ ∃ r, v = some (j_i r) ∧ (r = 0 ∨ r = 1)) j_no := by
  refine j_intro km_126 (Nat.le_of_ble_eq_true rfl) ?_
  intro J hJ hF
  obtain ⟨kx, hG, L0, L1, L2, e0, l0, e1, l1, e2, l2⟩ := id hW
  have b0 := l0.2.1; have b1 := l1.2.1; have b2 := l2.2.1; have d0 := l0.2.2.1; have d1 := l1.2.2.1; have d2 := l2.2.2.1
  refine hJ [] 400 _ _ _ _ _ _ ?_
  conv => whnf
  refine ⟨kx, rfl, _, _, _, _, _, _, c_G_findFewest hW sc, ⟨Nat.le_of_ble_eq_true rfl, Nat.le_of_ble_eq_true rfl, Nat.le_of_ble_eq_true rfl, Nat.le_of_ble_eq_true rfl⟩, fun _ _ z => z, ?_⟩
  rintro v9 h9 ⟨it2, rfl, sit2, r1, rfl⟩
  conv => whnf
  refine ⟨kx, rfl, _, _, _, _, _, _, c_G_allGrains hW sit2, ⟨Nat.le_of_ble_eq_true rfl, Nat.le_of_ble_eq_true rfl, Nat.le_of_ble_eq_true rfl, Nat.le_of_ble_eq_true rfl⟩, fun _ _ z => z, ?_⟩
  rintro v9 h9 ⟨it4, rfl, sit4, r3, rfl⟩
  conv => whnf
  refine ⟨kx, rfl, _, _, _, _, _, _, c_G_agree hW sit4, ⟨Nat.le_of_ble_eq_true rfl, Nat.le_of_ble_eq_true rfl, Nat.le_of_ble_eq_true rfl, Nat.le_of_ble_eq_true rfl⟩, fun _ _ z => z, ?_⟩
  rintro v9 h9 ⟨it6, rfl, sit6, r5, rfl, zr5⟩
  conv => whnf
  exact ⟨zr5, ⟨Nat.le_of_ble_eq_true rfl, Nat.le_of_ble_eq_true rfl⟩, _, rfl, sit6, _, rfl, zr5⟩
set_option maxHeartbeats 4000000 in
set_option maxRecDepth 20000 in
theorem c_G_printsThatStandAreBorne {h : j_H} {it : Nat → Nat → Int32} {x : Nat} (hW : j_WF h x) (sc : j_Sc j_sf h it)  : j_Ct 132 3 64 0 0 [j_r (some x)] (j_wi h it) (fun v h' => ∃ it', h' = j_wi h it' ∧ j_Sc j_sf h it' ∧ ∃ r, v = some (j_i r) ∧ (r = 0 ∨ r = 1)) j_no := by
  refine j_intro km_132 (Nat.le_of_ble_eq_true rfl) ?_
  intro J hJ hF
  obtain ⟨kx, hG, L0, L1, L2, e0, l0, e1, l1, e2, l2⟩ := id hW
  have b0 := l0.2.1; have b1 := l1.2.1; have b2 := l2.2.1; have d0 := l0.2.2.1; have d1 := l1.2.2.1; have d2 := l2.2.2.1
  have L2 : ∀ (m : Nat) (v1 : Int32) (it : Nat → Nat → Int32) , j_Sc j_sf h it → 0 ≤ v1.toInt → (2147483647 - v1.toInt) < (m : Int) → J 2 [some (j_r (some x)), some (j_i v1), none] [] (j_wi h it) 0 0 := by
    intro m
    induction m with
    | zero => intro v1 it sc h1 hm; exact absurd hm (by have := j_ub v1; omega)
    | succ m ih2 =>
      intro v1 it sc h1 hm
      have uv1 := j_ub v1
      have lv1 := j_lb v1
      refine hJ [2] 400 _ _ _ _ _ _ ?_
      conv => whnf
      refine ⟨_, rfl, kx, fun o1 eo => ?_⟩
      obtain rfl : o1 = some L2 := eo.symm.trans e2
      conv => whnf
      refine ⟨l2.1, rfl, _, _, _, _, _, _, c_AL_size l2 sc j_sf_ok, ⟨Nat.le_of_ble_eq_true rfl, Nat.le_of_ble_eq_true rfl, Nat.le_of_ble_eq_true rfl, Nat.le_of_ble_eq_true rfl⟩, fun _ _ z => z, ?_⟩
      rintro v9 h9 ⟨rfl, rfl⟩
      conv => whnf
      refine ⟨fun c2 => ?_, fun c2 => ?_⟩
      · skip
        conv => whnf
        exact ⟨Or.inr rfl, ⟨Nat.le_of_ble_eq_true rfl, Nat.le_of_ble_eq_true rfl⟩, _, rfl, sc, _, rfl, Or.inr rfl⟩
      · skip
        conv => whnf
        refine ⟨_, rfl, kx, fun o3 eo => ?_⟩
        obtain rfl : o3 = some L2 := eo.symm.trans e2
        conv => whnf
        refine ⟨l2.1, rfl, _, _, _, _, _, _, c_AL_get l2 sc j_sf_ok (by omega) (by omega), ⟨Nat.le_of_ble_eq_true rfl, Nat.le_of_ble_eq_true rfl, Nat.le_of_ble_eq_true rfl, Nat.le_of_ble_eq_true rfl⟩, fun _ _ z => z, ?_⟩
        rintro v9 h9 ⟨rfl, g4, rfl, kg4⟩
        conv => whnf
        refine ⟨Or.inr ⟨_, rfl, kg4⟩, ?_⟩
        conv => whnf
        refine ⟨kx, rfl, _, _, _, _, _, _, c_G_allStandFrom hW sc (Or.inr ⟨_, rfl, kg4⟩), ⟨Nat.le_of_ble_eq_true rfl, Nat.le_of_ble_eq_true rfl, Nat.le_of_ble_eq_true rfl, Nat.le_of_ble_eq_true rfl⟩, fun _ _ z => z, ?_⟩
        rintro v9 h9 ⟨it6, rfl, sit6, r5, rfl, zr5⟩
        conv => whnf
        refine ⟨fun c7 => ?_, fun c7 => ?_⟩
        · skip
          have t8 : (v1 + Int32.ofInt 1).toInt = v1.toInt + 1 := j_inc1 (by omega)
          exact j_use hF (ih2 _ _ sit6 (by omega) (by omega)) (And.intro rfl (And.intro rfl trivial))
        · skip
          conv => whnf
          refine ⟨_, rfl, kg4, fun o9 eo => ?_⟩
          obtain ⟨b10, eb10, kb10⟩ := hG.2.2.2.1 _ kg4
          obtain rfl : o9 = some b10 := eo.symm.trans eb10
          conv => whnf
          refine ⟨_, rfl, kb10, fun x11 ex11 => ?_⟩
          conv => whnf
          refine ⟨fun c12 => ?_, fun c12 => ?_⟩
          · skip
            conv => whnf
            exact ⟨Or.inl rfl, ⟨Nat.le_of_ble_eq_true rfl, Nat.le_of_ble_eq_true rfl⟩, _, rfl, sit6, _, rfl, Or.inl rfl⟩
          · skip
            conv => whnf
            refine ⟨_, rfl, kg4, fun o13 eo => ?_⟩
            rcases hG.2.2.2.2 _ kg4 with eb14 | ⟨b14, eb14, kb14, -⟩
            · obtain rfl : o13 = none := eo.symm.trans eb14
              conv => whnf
              refine ⟨kx, rfl, _, _, _, _, _, _, c_G_allStandFrom hW sit6 (Or.inl rfl), ⟨Nat.le_of_ble_eq_true rfl, Nat.le_of_ble_eq_true rfl, Nat.le_of_ble_eq_true rfl, Nat.le_of_ble_eq_true rfl⟩, fun _ _ z => z, ?_⟩
              rintro v9 h9 ⟨it16, rfl, sit16, r15, rfl, zr15⟩
              conv => whnf
              refine ⟨fun c17 => ?_, fun c17 => ?_⟩
              · skip
                have t18 : (v1 + Int32.ofInt 1).toInt = v1.toInt + 1 := j_inc1 (by omega)
                exact j_use hF (ih2 _ _ sit16 (by omega) (by omega)) (And.intro rfl (And.intro rfl trivial))
              · skip
                conv => whnf
                exact ⟨Or.inl rfl, ⟨Nat.le_of_ble_eq_true rfl, Nat.le_of_ble_eq_true rfl⟩, _, rfl, sit16, _, rfl, Or.inl rfl⟩
            · obtain rfl : o13 = some b14 := eo.symm.trans eb14
              conv => whnf
              refine ⟨kx, rfl, _, _, _, _, _, _, c_G_allStandFrom hW sit6 (Or.inr ⟨_, rfl, kb14⟩), ⟨Nat.le_of_ble_eq_true rfl, Nat.le_of_ble_eq_true rfl, Nat.le_of_ble_eq_true rfl, Nat.le_of_ble_eq_true rfl⟩, fun _ _ z => z, ?_⟩
              rintro v9 h9 ⟨it20, rfl, sit20, r19, rfl, zr19⟩
              conv => whnf
              refine ⟨fun c21 => ?_, fun c21 => ?_⟩
              · skip
                have t22 : (v1 + Int32.ofInt 1).toInt = v1.toInt + 1 := j_inc1 (by omega)
                exact j_use hF (ih2 _ _ sit20 (by omega) (by omega)) (And.intro rfl (And.intro rfl trivial))
              · skip
                conv => whnf
                exact ⟨Or.inl rfl, ⟨Nat.le_of_ble_eq_true rfl, Nat.le_of_ble_eq_true rfl⟩, _, rfl, sit20, _, rfl, Or.inl rfl⟩
  have M2 : ∀ (v1 : Int32) (it : Nat → Nat → Int32) , j_Sc j_sf h it → 0 ≤ v1.toInt → (0:Int) ≤ 0 → J 2 [some (j_r (some x)), some (j_i v1), none] [] (j_wi h it) 0 0 := fun v1 it sc h1 _ => L2 4294967296 v1 it sc h1 (by have := j_lb v1; omega)
  refine hJ [2] 400 _ _ _ _ _ _ ?_
  exact j_use hF (M2 _ _ sc (by omega) (by omega)) (And.intro rfl (And.intro rfl trivial))
set_option maxHeartbeats 4000000 in
set_option maxRecDepth 20000 in
theorem c_G_isSound {h : j_H} {it : Nat → Nat → Int32} {x : Nat} (hW : j_WF h x) (sc : j_Sc j_sf h it)  : j_Ct 108 7 156 0 0 [j_r (some x)] (j_wi h it) (fun v h' => ∃ it', h' = j_wi h it' ∧ j_Sc j_sf h it' ∧ ∃ r, v = some (j_i r) ∧ (r = 0 ∨ r = 1)) j_no := by
  refine j_intro km_108 (Nat.le_of_ble_eq_true rfl) ?_
  intro J hJ hF
  obtain ⟨kx, hG, L0, L1, L2, e0, l0, e1, l1, e2, l2⟩ := id hW
  have b0 := l0.2.1; have b1 := l1.2.1; have b2 := l2.2.1; have d0 := l0.2.2.1; have d1 := l1.2.2.1; have d2 := l2.2.2.1
  refine hJ [] 400 _ _ _ _ _ _ ?_
  conv => whnf
  refine ⟨kx, rfl, _, _, _, _, _, _, c_G_allMotesAreThere hW sc, ⟨Nat.le_of_ble_eq_true rfl, Nat.le_of_ble_eq_true rfl, Nat.le_of_ble_eq_true rfl, Nat.le_of_ble_eq_true rfl⟩, fun _ _ z => z, ?_⟩
  rintro v9 h9 ⟨it2, rfl, sit2, r1, rfl, zr1⟩
  conv => whnf
  refine ⟨fun c3 => ?_, fun c3 => ?_⟩
  · skip
    conv => whnf
    exact ⟨Or.inl rfl, ⟨Nat.le_of_ble_eq_true rfl, Nat.le_of_ble_eq_true rfl⟩, _, rfl, sit2, _, rfl, Or.inl rfl⟩
  · skip
    conv => whnf
    refine ⟨kx, rfl, _, _, _, _, _, _, c_G_noNarrowedSpanIsWider hW sit2, ⟨Nat.le_of_ble_eq_true rfl, Nat.le_of_ble_eq_true rfl, Nat.le_of_ble_eq_true rfl, Nat.le_of_ble_eq_true rfl⟩, fun _ _ z => z, ?_⟩
    rintro v9 h9 ⟨it5, rfl, sit5, r4, rfl, zr4⟩
    conv => whnf
    refine ⟨fun c6 => ?_, fun c6 => ?_⟩
    · skip
      conv => whnf
      exact ⟨Or.inl rfl, ⟨Nat.le_of_ble_eq_true rfl, Nat.le_of_ble_eq_true rfl⟩, _, rfl, sit5, _, rfl, Or.inl rfl⟩
    · skip
      conv => whnf
      refine ⟨kx, rfl, _, _, _, _, _, _, c_G_othersAgree hW sit5, ⟨Nat.le_of_ble_eq_true rfl, Nat.le_of_ble_eq_true rfl, Nat.le_of_ble_eq_true rfl, Nat.le_of_ble_eq_true rfl⟩, fun _ _ z => z, ?_⟩
      rintro v9 h9 ⟨it8, rfl, sit8, r7, rfl, zr7⟩
      conv => whnf
      refine ⟨fun c9 => ?_, fun c9 => ?_⟩
      · skip
        conv => whnf
        exact ⟨Or.inl rfl, ⟨Nat.le_of_ble_eq_true rfl, Nat.le_of_ble_eq_true rfl⟩, _, rfl, sit8, _, rfl, Or.inl rfl⟩
      · skip
        conv => whnf
        refine ⟨kx, rfl, _, _, _, _, _, _, c_G_printsThatStandAreBorne hW sit8, ⟨Nat.le_of_ble_eq_true rfl, Nat.le_of_ble_eq_true rfl, Nat.le_of_ble_eq_true rfl, Nat.le_of_ble_eq_true rfl⟩, fun _ _ z => z, ?_⟩
        rintro v9 h9 ⟨it11, rfl, sit11, r10, rfl, zr10⟩
        conv => whnf
        refine ⟨fun c12 => ?_, fun c12 => ?_⟩
        · skip
          conv => whnf
          exact ⟨Or.inl rfl, ⟨Nat.le_of_ble_eq_true rfl, Nat.le_of_ble_eq_true rfl⟩, _, rfl, sit11, _, rfl, Or.inl rfl⟩
        · skip
          conv => whnf
          exact ⟨Or.inr rfl, ⟨Nat.le_of_ble_eq_true rfl, Nat.le_of_ble_eq_true rfl⟩, _, rfl, sit11, _, rfl, Or.inr rfl⟩
set_option maxHeartbeats 4000000 in
set_option maxRecDepth 20000 in
theorem c_G_fewest {h : j_H} {it : Nat → Nat → Int32} {x : Nat} (hW : j_WF h x) (sc : j_Sc j_sf h it)  : j_Ct 98 6 135 0 0 [j_r (some x)] (j_wi h it) (fun v h' => ∃ it', h' = j_wi h it' ∧ j_Sc j_sf h it' ∧ ∃ r, v = some (j_i r)) j_no := by
  refine j_intro km_98 (Nat.le_of_ble_eq_true rfl) ?_
  intro J hJ hF
  obtain ⟨kx, hG, L0, L1, L2, e0, l0, e1, l1, e2, l2⟩ := id hW
  have b0 := l0.2.1; have b1 := l1.2.1; have b2 := l2.2.1; have d0 := l0.2.2.1; have d1 := l1.2.2.1; have d2 := l2.2.2.1
  refine hJ [] 400 _ _ _ _ _ _ ?_
  conv => whnf
  refine ⟨kx, rfl, _, _, _, _, _, _, c_G_findFewest hW sc, ⟨Nat.le_of_ble_eq_true rfl, Nat.le_of_ble_eq_true rfl, Nat.le_of_ble_eq_true rfl, Nat.le_of_ble_eq_true rfl⟩, fun _ _ z => z, ?_⟩
  rintro v9 h9 ⟨it2, rfl, sit2, r1, rfl⟩
  conv => whnf
  exact ⟨trivial, ⟨Nat.le_of_ble_eq_true rfl, Nat.le_of_ble_eq_true rfl⟩, _, rfl, sit2, _, rfl⟩
set_option maxHeartbeats 4000000 in
set_option maxRecDepth 20000 in
theorem c_G_bestSwap {h : j_H} {it : Nat → Nat → Int32} {x : Nat} {a : Int32} (hW : j_WF h x) (sc : j_Sc j_sf h it)  : j_Ct 83 5 112 0 0 [j_r (some x), j_i a] (j_wi h it) (fun v h' => ∃ it', h' = j_wi h it' ∧ j_Sc j_sf h it' ∧ ∃ r, v = some (j_i r)) j_no := by
  refine j_intro km_83 (Nat.le_of_ble_eq_true rfl) ?_
  intro J hJ hF
  obtain ⟨kx, hG, L0, L1, L2, e0, l0, e1, l1, e2, l2⟩ := id hW
  have b0 := l0.2.1; have b1 := l1.2.1; have b2 := l2.2.1; have d0 := l0.2.2.1; have d1 := l1.2.2.1; have d2 := l2.2.2.1
  refine hJ [] 400 _ _ _ _ _ _ ?_
  conv => whnf
  refine ⟨kx, rfl, _, _, _, _, _, _, c_G_findBestPair hW sc, ⟨Nat.le_of_ble_eq_true rfl, Nat.le_of_ble_eq_true rfl, Nat.le_of_ble_eq_true rfl, Nat.le_of_ble_eq_true rfl⟩, fun _ _ z => z, ?_⟩
  rintro v9 h9 ⟨it2, rfl, sit2, r1, rfl⟩
  conv => whnf
  refine ⟨rfl, _, _, _, _, _, _, c_G_runOfPair, ⟨Nat.le_of_ble_eq_true rfl, Nat.le_of_ble_eq_true rfl, Nat.le_of_ble_eq_true rfl, Nat.le_of_ble_eq_true rfl⟩, fun _ _ z => z, ?_⟩
  rintro v9 h9 ⟨rfl, r3, rfl⟩
  conv => whnf
  exact ⟨trivial, ⟨Nat.le_of_ble_eq_true rfl, Nat.le_of_ble_eq_true rfl⟩, _, rfl, sit2, _, rfl⟩
set_option maxHeartbeats 4000000 in
set_option maxRecDepth 20000 in
theorem c_G_digestGrains {h : j_H} {it : Nat → Nat → Int32} {x : Nat} {a : Int64} (hW : j_WF h x) (sc : j_Sc j_sf h it)  : j_Ct 93 5 114 0 0 [j_r (some x), j_l a] (j_wi h it) (fun v h' => ∃ it', h' = j_wi h it' ∧ j_Sc j_sf h it' ∧ ∃ r, v = some (j_l r)) j_no := by
  refine j_intro km_93 (Nat.le_of_ble_eq_true rfl) ?_
  intro J hJ hF
  obtain ⟨kx, hG, L0, L1, L2, e0, l0, e1, l1, e2, l2⟩ := id hW
  have b0 := l0.2.1; have b1 := l1.2.1; have b2 := l2.2.1; have d0 := l0.2.2.1; have d1 := l1.2.2.1; have d2 := l2.2.2.1
  have L5 : ∀ (m : Nat) (w1 : Int64) (w3 : Int64) (v5 : Int32) (it : Nat → Nat → Int32) , j_Sc j_sf h it → 0 ≤ v5.toInt → (2147483647 - v5.toInt) < (m : Int) → J 5 [some (j_r (some x)), some (j_l w1), none, some (j_l w3), none, some (j_i v5), none, none] [] (j_wi h it) 0 0 := by
    intro m
    induction m with
    | zero => intro w1 w3 v5 it sc h5 hm; exact absurd hm (by have := j_ub v5; omega)
    | succ m ih5 =>
      intro w1 w3 v5 it sc h5 hm
      have uv5 := j_ub v5
      have lv5 := j_lb v5
      have L34 : ∀ (m : Nat) (w1 : Int64) (w3 : Int64) (v5 : Int32) (v7 : Int32) (it : Nat → Nat → Int32) , j_Sc j_sf h it → 0 ≤ v7.toInt → 0 ≤ v5.toInt → (2147483647 - v7.toInt) < (m : Int) → J 34 [some (j_r (some x)), some (j_l w1), none, some (j_l w3), none, some (j_i v5), some (j_r (some g4)), some (j_i v7)] [] (j_wi h it) 0 0 := by
        intro m
        induction m with
        | zero => intro w1 w3 v5 v7 it sc h7 h5 hm; exact absurd hm (by have := j_ub v7; omega)
        | succ m ih34 =>
          intro w1 w3 v5 v7 it sc h7 h5 hm
          have uv5 := j_ub v5
          have lv5 := j_lb v5
          have uv7 := j_ub v7
          have lv7 := j_lb v7
          refine hJ [5, 34] 400 _ _ _ _ _ _ ?_
          have q1 : ((Int8.ofInt (9)).toInt32).toInt = 9 := by decide
          conv => whnf
          refine ⟨fun c2 => ?_, fun c2 => ?_⟩
          · skip
            conv => whnf
            refine ⟨kx, rfl, _, _, _, _, _, _, c_G_earlyOf hW sc kg4, ⟨Nat.le_of_ble_eq_true rfl, Nat.le_of_ble_eq_true rfl, Nat.le_of_ble_eq_true rfl, Nat.le_of_ble_eq_true rfl⟩, fun _ _ z => z, ?_⟩
            rintro v9 h9 ⟨it4, rfl, sit4, r3, rfl⟩
            conv => whnf
            refine ⟨kx, rfl, _, _, _, _, _, _, c_G_lateOf hW sit4 kg4, ⟨Nat.le_of_ble_eq_true rfl, Nat.le_of_ble_eq_true rfl, Nat.le_of_ble_eq_true rfl, Nat.le_of_ble_eq_true rfl⟩, fun _ _ z => z, ?_⟩
            rintro v9 h9 ⟨it6, rfl, sit6, r5, rfl⟩
            conv => whnf
            refine ⟨kx, rfl, _, _, _, _, _, _, c_G_narrowedEarly hW sit6 kg4, ⟨Nat.le_of_ble_eq_true rfl, Nat.le_of_ble_eq_true rfl, Nat.le_of_ble_eq_true rfl, Nat.le_of_ble_eq_true rfl⟩, fun _ _ z => z, ?_⟩
            rintro v9 h9 ⟨it8, rfl, sit8, r7, rfl⟩
            conv => whnf
            refine ⟨kx, rfl, _, _, _, _, _, _, c_G_narrowedLate hW sit8 kg4, ⟨Nat.le_of_ble_eq_true rfl, Nat.le_of_ble_eq_true rfl, Nat.le_of_ble_eq_true rfl, Nat.le_of_ble_eq_true rfl⟩, fun _ _ z => z, ?_⟩
            rintro v9 h9 ⟨it10, rfl, sit10, r9, rfl⟩
            have t11 : (v5 + Int32.ofInt 1).toInt = v5.toInt + 1 := j_inc1 (by omega)
            exact j_use hF (ih5 _ _ _ _ sit10 (by omega) (by omega)) (And.intro rfl (And.intro rfl (And.intro rfl (And.intro rfl trivial))))
          · skip
            conv => whnf
            refine ⟨kx, rfl, _, _, _, _, _, _, c_G_grainFact hW sc kg4, ⟨Nat.le_of_ble_eq_true rfl, Nat.le_of_ble_eq_true rfl, Nat.le_of_ble_eq_true rfl, Nat.le_of_ble_eq_true rfl⟩, fun _ _ z => z, ?_⟩
            rintro v9 h9 ⟨it13, rfl, sit13, r12, rfl⟩
            have t14 : (v7 + Int32.ofInt 1).toInt = v7.toInt + 1 := j_inc1 (by omega)
            exact j_use hF (ih34 _ _ _ _ _ sit13 (by omega) (by omega) (by omega)) (And.intro rfl (And.intro rfl (And.intro rfl (And.intro rfl (And.intro rfl (And.intro rfl trivial))))))
      have M34 : ∀ (w1 : Int64) (w3 : Int64) (v5 : Int32) (v7 : Int32) (it : Nat → Nat → Int32) , j_Sc j_sf h it → 0 ≤ v7.toInt → 0 ≤ v5.toInt → (0:Int) ≤ 0 → J 34 [some (j_r (some x)), some (j_l w1), none, some (j_l w3), none, some (j_i v5), some (j_r (some g4)), some (j_i v7)] [] (j_wi h it) 0 0 := fun w1 w3 v5 v7 it sc h7 h5 _ => L34 4294967296 w1 w3 v5 v7 it sc h7 h5 (by have := j_lb v7; omega)
      refine hJ [5, 34] 400 _ _ _ _ _ _ ?_
      conv => whnf
      refine ⟨_, rfl, kx, fun o15 eo => ?_⟩
      obtain rfl : o15 = some L0 := eo.symm.trans e0
      conv => whnf
      refine ⟨l0.1, rfl, _, _, _, _, _, _, c_AL_size l0 sc j_sf_ok, ⟨Nat.le_of_ble_eq_true rfl, Nat.le_of_ble_eq_true rfl, Nat.le_of_ble_eq_true rfl, Nat.le_of_ble_eq_true rfl⟩, fun _ _ z => z, ?_⟩
      rintro v9 h9 ⟨rfl, rfl⟩
      conv => whnf
      refine ⟨fun c16 => ?_, fun c16 => ?_⟩
      · skip
        conv => whnf
        exact ⟨rfl, ⟨Nat.le_of_ble_eq_true rfl, Nat.le_of_ble_eq_true rfl⟩, _, rfl, sc, _, rfl⟩
      · skip
        conv => whnf
        refine ⟨_, rfl, kx, fun o17 eo => ?_⟩
        obtain rfl : o17 = some L0 := eo.symm.trans e0
        conv => whnf
        refine ⟨l0.1, rfl, _, _, _, _, _, _, c_AL_get l0 sc j_sf_ok (by omega) (by omega), ⟨Nat.le_of_ble_eq_true rfl, Nat.le_of_ble_eq_true rfl, Nat.le_of_ble_eq_true rfl, Nat.le_of_ble_eq_true rfl⟩, fun _ _ z => z, ?_⟩
        rintro v9 h9 ⟨rfl, g18, rfl, kg18⟩
        conv => whnf
        refine ⟨Or.inr ⟨_, rfl, kg18⟩, ?_⟩
        exact j_use hF (M34 _ _ _ _ _ sc (by omega) (by omega) (by omega)) (And.intro rfl (And.intro rfl (And.intro rfl (And.intro rfl (And.intro rfl (And.intro rfl trivial))))))
  have M5 : ∀ (w1 : Int64) (w3 : Int64) (v5 : Int32) (it : Nat → Nat → Int32) , j_Sc j_sf h it → 0 ≤ v5.toInt → (0:Int) ≤ 0 → J 5 [some (j_r (some x)), some (j_l w1), none, some (j_l w3), none, some (j_i v5), none, none] [] (j_wi h it) 0 0 := fun w1 w3 v5 it sc h5 _ => L5 4294967296 w1 w3 v5 it sc h5 (by have := j_lb v5; omega)
  refine hJ [5, 34] 400 _ _ _ _ _ _ ?_
  exact j_use hF (M5 _ _ _ _ sc (by omega) (by omega)) (And.intro rfl (And.intro rfl (And.intro rfl (And.intro rfl trivial))))
set_option maxHeartbeats 4000000 in
set_option maxRecDepth 20000 in
theorem c_G_digestRuns {h : j_H} {it : Nat → Nat → Int32} {x : Nat} {a : Int64} (hW : j_WF h x) (sc : j_Sc j_sf h it)  : j_Ct 95 3 64 0 0 [j_r (some x), j_l a] (j_wi h it) (fun v h' => ∃ it', h' = j_wi h it' ∧ j_Sc j_sf h it' ∧ ∃ r, v = some (j_l r)) j_no := by
  refine j_intro km_95 (Nat.le_of_ble_eq_true rfl) ?_
  intro J hJ hF
  obtain ⟨kx, hG, L0, L1, L2, e0, l0, e1, l1, e2, l2⟩ := id hW
  have b0 := l0.2.1; have b1 := l1.2.1; have b2 := l2.2.1; have d0 := l0.2.2.1; have d1 := l1.2.2.1; have d2 := l2.2.2.1
  have L5 : ∀ (m : Nat) (w1 : Int64) (w3 : Int64) (v5 : Int32) (it : Nat → Nat → Int32) , j_Sc j_sf h it → 0 ≤ v5.toInt → (2147483647 - v5.toInt) < (m : Int) → J 5 [some (j_r (some x)), some (j_l w1), none, some (j_l w3), none, some (j_i v5), none] [] (j_wi h it) 0 0 := by
    intro m
    induction m with
    | zero => intro w1 w3 v5 it sc h5 hm; exact absurd hm (by have := j_ub v5; omega)
    | succ m ih5 =>
      intro w1 w3 v5 it sc h5 hm
      have uv5 := j_ub v5
      have lv5 := j_lb v5
      have L20 : ∀ (m : Nat) (w1 : Int64) (w3 : Int64) (v5 : Int32) (v6 : Int32) (it : Nat → Nat → Int32) , j_Sc j_sf h it → 0 ≤ v6.toInt → 0 ≤ v5.toInt → (2147483647 - v6.toInt) < (m : Int) → J 20 [some (j_r (some x)), some (j_l w1), none, some (j_l w3), none, some (j_i v5), some (j_i v6)] [] (j_wi h it) 0 0 := by
        intro m
        induction m with
        | zero => intro w1 w3 v5 v6 it sc h6 h5 hm; exact absurd hm (by have := j_ub v6; omega)
        | succ m ih20 =>
          intro w1 w3 v5 v6 it sc h6 h5 hm
          have uv5 := j_ub v5
          have lv5 := j_lb v5
          have uv6 := j_ub v6
          have lv6 := j_lb v6
          refine hJ [5, 20] 400 _ _ _ _ _ _ ?_
          have q1 : ((Int8.ofInt (7)).toInt32).toInt = 7 := by decide
          conv => whnf
          refine ⟨fun c2 => ?_, fun c2 => ?_⟩
          · skip
            have t3 : (v5 + Int32.ofInt 1).toInt = v5.toInt + 1 := j_inc1 (by omega)
            exact j_use hF (ih5 _ _ _ _ sc (by omega) (by omega)) (And.intro rfl (And.intro rfl (And.intro rfl (And.intro rfl trivial))))
          · skip
            conv => whnf
            refine ⟨_, rfl, kx, fun o4 eo => ?_⟩
            obtain rfl : o4 = some L1 := eo.symm.trans e1
            conv => whnf
            refine ⟨l1.1, rfl, _, _, _, _, _, _, c_AL_get l1 sc j_sf_ok (by omega) (by omega), ⟨Nat.le_of_ble_eq_true rfl, Nat.le_of_ble_eq_true rfl, Nat.le_of_ble_eq_true rfl, Nat.le_of_ble_eq_true rfl⟩, fun _ _ z => z, ?_⟩
            rintro v9 h9 ⟨rfl, g5, rfl, kg5⟩
            conv => whnf
            refine ⟨Or.inr ⟨_, rfl, kg5⟩, ?_⟩
            conv => whnf
            refine ⟨kx, rfl, _, _, _, _, _, _, c_G_runFact hW sc kg5, ⟨Nat.le_of_ble_eq_true rfl, Nat.le_of_ble_eq_true rfl, Nat.le_of_ble_eq_true rfl, Nat.le_of_ble_eq_true rfl⟩, fun _ _ z => z, ?_⟩
            rintro v9 h9 ⟨it7, rfl, sit7, r6, rfl⟩
            have t8 : (v6 + Int32.ofInt 1).toInt = v6.toInt + 1 := j_inc1 (by omega)
            exact j_use hF (ih20 _ _ _ _ _ sit7 (by omega) (by omega) (by omega)) (And.intro rfl (And.intro rfl (And.intro rfl (And.intro rfl (And.intro rfl trivial)))))
      have M20 : ∀ (w1 : Int64) (w3 : Int64) (v5 : Int32) (v6 : Int32) (it : Nat → Nat → Int32) , j_Sc j_sf h it → 0 ≤ v6.toInt → 0 ≤ v5.toInt → (0:Int) ≤ 0 → J 20 [some (j_r (some x)), some (j_l w1), none, some (j_l w3), none, some (j_i v5), some (j_i v6)] [] (j_wi h it) 0 0 := fun w1 w3 v5 v6 it sc h6 h5 _ => L20 4294967296 w1 w3 v5 v6 it sc h6 h5 (by have := j_lb v6; omega)
      refine hJ [5, 20] 400 _ _ _ _ _ _ ?_
      conv => whnf
      refine ⟨_, rfl, kx, fun o9 eo => ?_⟩
      obtain rfl : o9 = some L1 := eo.symm.trans e1
      conv => whnf
      refine ⟨l1.1, rfl, _, _, _, _, _, _, c_AL_size l1 sc j_sf_ok, ⟨Nat.le_of_ble_eq_true rfl, Nat.le_of_ble_eq_true rfl, Nat.le_of_ble_eq_true rfl, Nat.le_of_ble_eq_true rfl⟩, fun _ _ z => z, ?_⟩
      rintro v9 h9 ⟨rfl, rfl⟩
      conv => whnf
      refine ⟨fun c10 => ?_, fun c10 => ?_⟩
      · skip
        conv => whnf
        exact ⟨rfl, ⟨Nat.le_of_ble_eq_true rfl, Nat.le_of_ble_eq_true rfl⟩, _, rfl, sc, _, rfl⟩
      · skip
        exact j_use hF (M20 _ _ _ _ _ sc (by omega) (by omega) (by omega)) (And.intro rfl (And.intro rfl (And.intro rfl (And.intro rfl (And.intro rfl trivial)))))
  have M5 : ∀ (w1 : Int64) (w3 : Int64) (v5 : Int32) (it : Nat → Nat → Int32) , j_Sc j_sf h it → 0 ≤ v5.toInt → (0:Int) ≤ 0 → J 5 [some (j_r (some x)), some (j_l w1), none, some (j_l w3), none, some (j_i v5), none] [] (j_wi h it) 0 0 := fun w1 w3 v5 it sc h5 _ => L5 4294967296 w1 w3 v5 it sc h5 (by have := j_lb v5; omega)
  refine hJ [5, 20] 400 _ _ _ _ _ _ ?_
  exact j_use hF (M5 _ _ _ _ sc (by omega) (by omega)) (And.intro rfl (And.intro rfl (And.intro rfl (And.intro rfl trivial))))
set_option maxHeartbeats 4000000 in
set_option maxRecDepth 20000 in
theorem c_G_digestPrints {h : j_H} {it : Nat → Nat → Int32} {x : Nat} {a : Int64} (hW : j_WF h x) (sc : j_Sc j_sf h it)  : j_Ct 94 3 65 0 0 [j_r (some x), j_l a] (j_wi h it) (fun v h' => ∃ it', h' = j_wi h it' ∧ j_Sc j_sf h it' ∧ ∃ r, v = some (j_l r)) j_no := by
  refine j_intro km_94 (Nat.le_of_ble_eq_true rfl) ?_
  intro J hJ hF
  obtain ⟨kx, hG, L0, L1, L2, e0, l0, e1, l1, e2, l2⟩ := id hW
  have b0 := l0.2.1; have b1 := l1.2.1; have b2 := l2.2.1; have d0 := l0.2.2.1; have d1 := l1.2.2.1; have d2 := l2.2.2.1
  have L5 : ∀ (m : Nat) (w1 : Int64) (w3 : Int64) (v5 : Int32) (it : Nat → Nat → Int32) , j_Sc j_sf h it → 0 ≤ v5.toInt → (2147483647 - v5.toInt) < (m : Int) → J 5 [some (j_r (some x)), some (j_l w1), none, some (j_l w3), none, some (j_i v5), none] [] (j_wi h it) 0 0 := by
    intro m
    induction m with
    | zero => intro w1 w3 v5 it sc h5 hm; exact absurd hm (by have := j_ub v5; omega)
    | succ m ih5 =>
      intro w1 w3 v5 it sc h5 hm
      have uv5 := j_ub v5
      have lv5 := j_lb v5
      have L20 : ∀ (m : Nat) (w1 : Int64) (w3 : Int64) (v5 : Int32) (v6 : Int32) (it : Nat → Nat → Int32) , j_Sc j_sf h it → 0 ≤ v6.toInt → 0 ≤ v5.toInt → (2147483647 - v6.toInt) < (m : Int) → J 20 [some (j_r (some x)), some (j_l w1), none, some (j_l w3), none, some (j_i v5), some (j_i v6)] [] (j_wi h it) 0 0 := by
        intro m
        induction m with
        | zero => intro w1 w3 v5 v6 it sc h6 h5 hm; exact absurd hm (by have := j_ub v6; omega)
        | succ m ih20 =>
          intro w1 w3 v5 v6 it sc h6 h5 hm
          have uv5 := j_ub v5
          have lv5 := j_lb v5
          have uv6 := j_ub v6
          have lv6 := j_lb v6
          refine hJ [5, 20] 400 _ _ _ _ _ _ ?_
          have q1 : ((Int32.ofInt (4))).toInt = 4 := by decide
          conv => whnf
          refine ⟨fun c2 => ?_, fun c2 => ?_⟩
          · skip
            have t3 : (v5 + Int32.ofInt 1).toInt = v5.toInt + 1 := j_inc1 (by omega)
            exact j_use hF (ih5 _ _ _ _ sc (by omega) (by omega)) (And.intro rfl (And.intro rfl (And.intro rfl (And.intro rfl trivial))))
          · skip
            conv => whnf
            refine ⟨_, rfl, kx, fun o4 eo => ?_⟩
            obtain rfl : o4 = some L2 := eo.symm.trans e2
            conv => whnf
            refine ⟨l2.1, rfl, _, _, _, _, _, _, c_AL_get l2 sc j_sf_ok (by omega) (by omega), ⟨Nat.le_of_ble_eq_true rfl, Nat.le_of_ble_eq_true rfl, Nat.le_of_ble_eq_true rfl, Nat.le_of_ble_eq_true rfl⟩, fun _ _ z => z, ?_⟩
            rintro v9 h9 ⟨rfl, g5, rfl, kg5⟩
            conv => whnf
            refine ⟨Or.inr ⟨_, rfl, kg5⟩, ?_⟩
            conv => whnf
            refine ⟨kx, rfl, _, _, _, _, _, _, c_G_printFact hW sc kg5, ⟨Nat.le_of_ble_eq_true rfl, Nat.le_of_ble_eq_true rfl, Nat.le_of_ble_eq_true rfl, Nat.le_of_ble_eq_true rfl⟩, fun _ _ z => z, ?_⟩
            rintro v9 h9 ⟨it7, rfl, sit7, r6, rfl⟩
            have t8 : (v6 + Int32.ofInt 1).toInt = v6.toInt + 1 := j_inc1 (by omega)
            exact j_use hF (ih20 _ _ _ _ _ sit7 (by omega) (by omega) (by omega)) (And.intro rfl (And.intro rfl (And.intro rfl (And.intro rfl (And.intro rfl trivial)))))
      have M20 : ∀ (w1 : Int64) (w3 : Int64) (v5 : Int32) (v6 : Int32) (it : Nat → Nat → Int32) , j_Sc j_sf h it → 0 ≤ v6.toInt → 0 ≤ v5.toInt → (0:Int) ≤ 0 → J 20 [some (j_r (some x)), some (j_l w1), none, some (j_l w3), none, some (j_i v5), some (j_i v6)] [] (j_wi h it) 0 0 := fun w1 w3 v5 v6 it sc h6 h5 _ => L20 4294967296 w1 w3 v5 v6 it sc h6 h5 (by have := j_lb v6; omega)
      refine hJ [5, 20] 400 _ _ _ _ _ _ ?_
      conv => whnf
      refine ⟨_, rfl, kx, fun o9 eo => ?_⟩
      obtain rfl : o9 = some L2 := eo.symm.trans e2
      conv => whnf
      refine ⟨l2.1, rfl, _, _, _, _, _, _, c_AL_size l2 sc j_sf_ok, ⟨Nat.le_of_ble_eq_true rfl, Nat.le_of_ble_eq_true rfl, Nat.le_of_ble_eq_true rfl, Nat.le_of_ble_eq_true rfl⟩, fun _ _ z => z, ?_⟩
      rintro v9 h9 ⟨rfl, rfl⟩
      conv => whnf
      refine ⟨fun c10 => ?_, fun c10 => ?_⟩
      · skip
        conv => whnf
        exact ⟨rfl, ⟨Nat.le_of_ble_eq_true rfl, Nat.le_of_ble_eq_true rfl⟩, _, rfl, sc, _, rfl⟩
      · skip
        exact j_use hF (M20 _ _ _ _ _ sc (by omega) (by omega) (by omega)) (And.intro rfl (And.intro rfl (And.intro rfl (And.intro rfl (And.intro rfl trivial)))))
  have M5 : ∀ (w1 : Int64) (w3 : Int64) (v5 : Int32) (it : Nat → Nat → Int32) , j_Sc j_sf h it → 0 ≤ v5.toInt → (0:Int) ≤ 0 → J 5 [some (j_r (some x)), some (j_l w1), none, some (j_l w3), none, some (j_i v5), none] [] (j_wi h it) 0 0 := fun w1 w3 v5 it sc h5 _ => L5 4294967296 w1 w3 v5 it sc h5 (by have := j_lb v5; omega)
  refine hJ [5, 20] 400 _ _ _ _ _ _ ?_
  exact j_use hF (M5 _ _ _ _ sc (by omega) (by omega)) (And.intro rfl (And.intro rfl (And.intro rfl (And.intro rfl trivial))))
set_option maxHeartbeats 4000000 in
set_option maxRecDepth 20000 in
theorem c_G_digest {h : j_H} {it : Nat → Nat → Int32} {x : Nat} (hW : j_WF h x) (sc : j_Sc j_sf h it)  : j_Ct 92 8 176 0 0 [j_r (some x)] (j_wi h it) (fun v h' => ∃ it', h' = j_wi h it' ∧ j_Sc j_sf h it' ∧ ∃ r, v = some (j_l r)) j_no := by
  refine j_intro km_92 (Nat.le_of_ble_eq_true rfl) ?_
  intro J hJ hF
  obtain ⟨kx, hG, L0, L1, L2, e0, l0, e1, l1, e2, l2⟩ := id hW
  have b0 := l0.2.1; have b1 := l1.2.1; have b2 := l2.2.1; have d0 := l0.2.2.1; have d1 := l1.2.2.1; have d2 := l2.2.2.1
  have L6 : ∀ (m : Nat) (w1 : Int64) (v3 : Int32) (it : Nat → Nat → Int32) , j_Sc j_sf h it → 0 ≤ v3.toInt → (2147483647 - v3.toInt) < (m : Int) → J 6 [some (j_r (some x)), some (j_l w1), none, some (j_i v3)] [] (j_wi h it) 0 0 := by
    intro m
    induction m with
    | zero => intro w1 v3 it sc h3 hm; exact absurd hm (by have := j_ub v3; omega)
    | succ m ih6 =>
      intro w1 v3 it sc h3 hm
      have uv3 := j_ub v3
      have lv3 := j_lb v3
      refine hJ [6] 400 _ _ _ _ _ _ ?_
      have q1 : ((Int8.ofInt (10)).toInt32).toInt = 10 := by decide
      conv => whnf
      refine ⟨fun c2 => ?_, fun c2 => ?_⟩
      · skip
        conv => whnf
        refine ⟨kx, rfl, _, _, _, _, _, _, c_G_digestGrains hW sc, ⟨Nat.le_of_ble_eq_true rfl, Nat.le_of_ble_eq_true rfl, Nat.le_of_ble_eq_true rfl, Nat.le_of_ble_eq_true rfl⟩, fun _ _ z => z, ?_⟩
        rintro v9 h9 ⟨it4, rfl, sit4, r3, rfl⟩
        conv => whnf
        refine ⟨kx, rfl, _, _, _, _, _, _, c_G_digestRuns hW sit4, ⟨Nat.le_of_ble_eq_true rfl, Nat.le_of_ble_eq_true rfl, Nat.le_of_ble_eq_true rfl, Nat.le_of_ble_eq_true rfl⟩, fun _ _ z => z, ?_⟩
        rintro v9 h9 ⟨it6, rfl, sit6, r5, rfl⟩
        conv => whnf
        refine ⟨kx, rfl, _, _, _, _, _, _, c_G_digestPrints hW sit6, ⟨Nat.le_of_ble_eq_true rfl, Nat.le_of_ble_eq_true rfl, Nat.le_of_ble_eq_true rfl, Nat.le_of_ble_eq_true rfl⟩, fun _ _ z => z, ?_⟩
        rintro v9 h9 ⟨it8, rfl, sit8, r7, rfl⟩
        conv => whnf
        refine ⟨kx, rfl, _, _, _, _, _, _, c_G_findFewest hW sit8, ⟨Nat.le_of_ble_eq_true rfl, Nat.le_of_ble_eq_true rfl, Nat.le_of_ble_eq_true rfl, Nat.le_of_ble_eq_true rfl⟩, fun _ _ z => z, ?_⟩
        rintro v9 h9 ⟨it10, rfl, sit10, r9, rfl⟩
        conv => whnf
        refine ⟨kx, rfl, _, _, _, _, _, _, c_G_findBestPair hW sit10, ⟨Nat.le_of_ble_eq_true rfl, Nat.le_of_ble_eq_true rfl, Nat.le_of_ble_eq_true rfl, Nat.le_of_ble_eq_true rfl⟩, fun _ _ z => z, ?_⟩
        rintro v9 h9 ⟨it12, rfl, sit12, r11, rfl⟩
        conv => whnf
        refine ⟨rfl, _, _, _, _, _, _, c_G_runOfPair, ⟨Nat.le_of_ble_eq_true rfl, Nat.le_of_ble_eq_true rfl, Nat.le_of_ble_eq_true rfl, Nat.le_of_ble_eq_true rfl⟩, fun _ _ z => z, ?_⟩
        rintro v9 h9 ⟨rfl, r13, rfl⟩
        conv => whnf
        refine ⟨rfl, _, _, _, _, _, _, c_G_runOfPair, ⟨Nat.le_of_ble_eq_true rfl, Nat.le_of_ble_eq_true rfl, Nat.le_of_ble_eq_true rfl, Nat.le_of_ble_eq_true rfl⟩, fun _ _ z => z, ?_⟩
        rintro v9 h9 ⟨rfl, r14, rfl⟩
        conv => whnf
        refine ⟨kx, rfl, _, _, _, _, _, _, c_G_isSound hW sit12, ⟨Nat.le_of_ble_eq_true rfl, Nat.le_of_ble_eq_true rfl, Nat.le_of_ble_eq_true rfl, Nat.le_of_ble_eq_true rfl⟩, fun _ _ z => z, ?_⟩
        rintro v9 h9 ⟨it16, rfl, sit16, r15, rfl, zr15⟩
        conv => whnf
        refine ⟨rfl, _, _, _, _, _, _, c_G_oneIf, ⟨Nat.le_of_ble_eq_true rfl, Nat.le_of_ble_eq_true rfl, Nat.le_of_ble_eq_true rfl, Nat.le_of_ble_eq_true rfl⟩, fun _ _ z => z, ?_⟩
        rintro v9 h9 ⟨rfl, r17, rfl⟩
        conv => whnf
        exact ⟨rfl, ⟨Nat.le_of_ble_eq_true rfl, Nat.le_of_ble_eq_true rfl⟩, _, rfl, sit16, _, rfl⟩
      · skip
        conv => whnf
        refine ⟨kx, rfl, _, _, _, _, _, _, c_G_labFact hW sc, ⟨Nat.le_of_ble_eq_true rfl, Nat.le_of_ble_eq_true rfl, Nat.le_of_ble_eq_true rfl, Nat.le_of_ble_eq_true rfl⟩, fun _ _ z => z, ?_⟩
        rintro v9 h9 ⟨it19, rfl, sit19, r18, rfl⟩
        have t20 : (v3 + Int32.ofInt 1).toInt = v3.toInt + 1 := j_inc1 (by omega)
        exact j_use hF (ih6 _ _ _ sit19 (by omega) (by omega)) (And.intro rfl (And.intro rfl (And.intro rfl trivial)))
  have M6 : ∀ (w1 : Int64) (v3 : Int32) (it : Nat → Nat → Int32) , j_Sc j_sf h it → 0 ≤ v3.toInt → (0:Int) ≤ 0 → J 6 [some (j_r (some x)), some (j_l w1), none, some (j_i v3)] [] (j_wi h it) 0 0 := fun w1 v3 it sc h3 _ => L6 4294967296 w1 v3 it sc h3 (by have := j_lb v3; omega)
  refine hJ [6] 400 _ _ _ _ _ _ ?_
  exact j_use hF (M6 _ _ _ sc (by omega) (by omega)) (And.intro rfl (And.intro rfl (And.intro rfl trivial)))
