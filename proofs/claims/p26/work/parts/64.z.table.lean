/-! the model's table, word for word -/
set_option maxHeartbeats 4000000 in
set_option maxRecDepth 20000 in
theorem c_Mo_leftx {h : j_H} {a b c : Int32} (hb : 2 ≤ b.toInt) (ha : 0 ≤ a.toInt) (hc : 0 ≤ c.toInt) : j_Ct 194 0 0 0 0 [j_i a, j_i b, j_i c] h (fun v h' => h' = h ∧ v = some (j_i (t_left b c.toNatClampNeg a))) j_no := by
  refine j_intro km_194 (Nat.le_of_ble_eq_true rfl) ?_
  intro J hJ hF
  refine hJ [5] 400 _ _ _ _ _ _ ?_
  have L5 : ∀ (n : Nat) (v1 v2 : Int32), 0 ≤ v1.toInt → 0 ≤ v2.toInt → c.toInt - v2.toInt = (n : Int) → t_left b n v1 = t_left b c.toNatClampNeg a → J 5 [some (j_i a), some (j_i b), some (j_i c), some (j_i v1), some (j_i v2)] [] h 0 0 := by
    intro n
    induction n with
    | zero =>
      intro v1 v2 h1 h2 hn ht
      refine hJ [5] 400 _ _ _ _ _ _ ?_
      conv => whnf
      refine ⟨fun c7 => ?_, fun c7 => ?_⟩
      · conv => whnf
        exact ⟨trivial, ⟨Nat.le_of_ble_eq_true rfl, Nat.le_of_ble_eq_true rfl⟩, rfl, by rw [← ht]; rfl⟩
      · have c7 : ¬ c.toInt ≤ v2.toInt := c7
        omega
    | succ n ih =>
      intro v1 v2 h1 h2 hn ht
      have u2 := j_ub c
      have ts := t_step (p := b) h1 hb
      refine hJ [5] 400 _ _ _ _ _ _ ?_
      conv => whnf
      refine ⟨fun c7 => ?_, fun c7 => ?_⟩
      · have c7 : c.toInt ≤ v2.toInt := c7
        omega
      · conv => whnf
        refine ⟨fun c10 => ?_, fun c10 => ?_⟩
        · have c10 : v1.toInt < b.toInt := c10
          conv => whnf
          exact ⟨trivial, ⟨Nat.le_of_ble_eq_true rfl, Nat.le_of_ble_eq_true rfl⟩, rfl, by rw [← ht]; exact congrArg (fun z => some (j_i z)) (if_pos c10).symm⟩
        · have c10 : ¬ v1.toInt < b.toInt := c10
          conv => whnf
          refine ⟨fun z => absurd (j_e0.mp z) (by omega), ?_⟩
          have t11 : (v2 + Int32.ofInt 1).toInt = v2.toInt + 1 := j_inc1 (by omega)
          exact j_use hF (ih (v1 - v1 / b) (v2 + Int32.ofInt 1) ts.1 (by omega) (by omega) ((if_neg c10).symm.trans ht)) (And.intro rfl (And.intro rfl (And.intro rfl (And.intro rfl (And.intro rfl trivial)))))
  exact j_use hF (L5 c.toNatClampNeg a (Int32.ofInt 0) ha (by decide) (t_clamp hc) rfl) (And.intro rfl (And.intro rfl (And.intro rfl (And.intro rfl (And.intro rfl trivial)))))
set_option maxHeartbeats 4000000 in
set_option maxRecDepth 20000 in
theorem c_Mo_earlix {h : j_H} {a b c : Int32} (hc : 2 ≤ c.toInt) (h0 : 0 ≤ (a + b).toInt) : j_Ct 174 0 0 0 0 [j_i a, j_i b, j_i c] h (fun v h' => h' = h ∧ v = some (j_i (t_early c a 3000 (Int32.ofInt 0) (a + b)))) j_no := by
  refine j_intro km_174 (Nat.le_of_ble_eq_true rfl) ?_
  intro J hJ hF
  refine hJ [7] 400 _ _ _ _ _ _ ?_
  have q4 : ((Int16.ofInt (3000)).toInt32).toInt = 3000 := by decide
  have L7 : ∀ (n : Nat) (v1 v2 : Int32), 0 ≤ v1.toInt → 0 ≤ v2.toInt → 3000 - v2.toInt = (n : Int) → t_early c a n v2 v1 = t_early c a 3000 (Int32.ofInt 0) (a + b) → J 7 [some (j_i a), some (j_i b), some (j_i c), some (j_i v1), some (j_i v2)] [] h 0 0 := by
    intro n
    induction n with
    | zero =>
      intro v1 v2 h1 h2 hn ht
      refine hJ [7] 400 _ _ _ _ _ _ ?_
      conv => whnf
      refine ⟨fun c7 => ?_, fun c7 => ?_⟩
      · conv => whnf
        exact ⟨trivial, ⟨Nat.le_of_ble_eq_true rfl, Nat.le_of_ble_eq_true rfl⟩, rfl, by rw [← ht]; rfl⟩
      · conv => whnf
        refine ⟨fun c10 => ?_, fun c10 => ?_⟩
        · conv => whnf
          exact ⟨trivial, ⟨Nat.le_of_ble_eq_true rfl, Nat.le_of_ble_eq_true rfl⟩, rfl, by rw [← ht]; rfl⟩
        · have c10 : ¬ ((Int16.ofInt (3000)).toInt32).toInt ≤ v2.toInt := c10
          omega
    | succ n ih =>
      intro v1 v2 h1 h2 hn ht
      have ts := t_step (p := c) h1 hc
      refine hJ [7] 400 _ _ _ _ _ _ ?_
      conv => whnf
      refine ⟨fun c7 => ?_, fun c7 => ?_⟩
      · have c7 : v1.toInt ≤ a.toInt := c7
        conv => whnf
        exact ⟨trivial, ⟨Nat.le_of_ble_eq_true rfl, Nat.le_of_ble_eq_true rfl⟩, rfl, by rw [← ht]; exact congrArg (fun z => some (j_i z)) (if_pos c7).symm⟩
      · have c7 : ¬ v1.toInt ≤ a.toInt := c7
        have ht := (if_neg c7).symm.trans ht
        conv => whnf
        refine ⟨fun c10 => ?_, fun c10 => ?_⟩
        · have c10 : ((Int16.ofInt (3000)).toInt32).toInt ≤ v2.toInt := c10
          omega
        · conv => whnf
          refine ⟨fun c13 => ?_, fun c13 => ?_⟩
          · have c13 : c.toInt ≤ v1.toInt := c13
            conv => whnf
            refine ⟨fun z => absurd (j_e0.mp z) (by omega), ?_⟩
            have t14 : (v2 + Int32.ofInt 1).toInt = v2.toInt + 1 := j_inc1 (by omega)
            exact j_use hF (ih (v1 - v1 / c) (v2 + Int32.ofInt 1) ts.1 (by omega) (by omega) ((if_neg (show ¬ v1.toInt < c.toInt by omega)).symm.trans ht)) (And.intro rfl (And.intro rfl (And.intro rfl (And.intro rfl (And.intro rfl trivial)))))
          · have c13 : ¬ c.toInt ≤ v1.toInt := c13
            conv => whnf
            exact ⟨trivial, ⟨Nat.le_of_ble_eq_true rfl, Nat.le_of_ble_eq_true rfl⟩, rfl, by rw [← ht]; exact congrArg (fun z => some (j_i z)) (if_pos (show v1.toInt < c.toInt by omega)).symm⟩
  exact j_use hF (L7 3000 (a + b) (Int32.ofInt 0) h0 (by decide) (by decide) rfl) (And.intro rfl (And.intro rfl (And.intro rfl (And.intro rfl (And.intro rfl trivial)))))
set_option maxHeartbeats 4000000 in
set_option maxRecDepth 20000 in
theorem c_Mo_latix {h : j_H} {a b c : Int32} (hc : 2 ≤ c.toInt) (h0 : 0 ≤ (a + b).toInt) : j_Ct 192 0 0 0 0 [j_i a, j_i b, j_i c] h (fun v h' => h' = h ∧ v = some (j_i (t_late c a 3000 (Int32.ofInt 0) (a + b)))) j_no := by
  refine j_intro km_192 (Nat.le_of_ble_eq_true rfl) ?_
  intro J hJ hF
  refine hJ [7] 400 _ _ _ _ _ _ ?_
  have q4 : ((Int16.ofInt (3000)).toInt32).toInt = 3000 := by decide
  have L7 : ∀ (n : Nat) (v1 v2 : Int32), 0 ≤ v1.toInt → 0 ≤ v2.toInt → 3000 - v2.toInt = (n : Int) → t_late c a n v2 v1 = t_late c a 3000 (Int32.ofInt 0) (a + b) → J 7 [some (j_i a), some (j_i b), some (j_i c), some (j_i v1), some (j_i v2)] [] h 0 0 := by
    intro n
    induction n with
    | zero =>
      intro v1 v2 h1 h2 hn ht
      refine hJ [7] 400 _ _ _ _ _ _ ?_
      conv => whnf
      refine ⟨fun c7 => ?_, fun c7 => ?_⟩
      · conv => whnf
        exact ⟨trivial, ⟨Nat.le_of_ble_eq_true rfl, Nat.le_of_ble_eq_true rfl⟩, rfl, by rw [← ht]; rfl⟩
      · have c7 : ¬ ((Int16.ofInt (3000)).toInt32).toInt ≤ v2.toInt := c7
        omega
    | succ n ih =>
      intro v1 v2 h1 h2 hn ht
      have ts := t_step (p := c) h1 hc
      refine hJ [7] 400 _ _ _ _ _ _ ?_
      conv => whnf
      refine ⟨fun c7 => ?_, fun c7 => ?_⟩
      · have c7 : ((Int16.ofInt (3000)).toInt32).toInt ≤ v2.toInt := c7
        omega
      · conv => whnf
        refine ⟨fun c10 => ?_, fun c10 => ?_⟩
        · have c10 : c.toInt ≤ v1.toInt := c10
          have ht := (if_neg (show ¬ v1.toInt < c.toInt by omega)).symm.trans ht
          conv => whnf
          refine ⟨fun z => absurd (j_e0.mp z) (by omega), ?_⟩
          conv => whnf
          refine ⟨fun c12 => ?_, fun c12 => ?_⟩
          · have c12 : a.toInt ≤ (v1 - v1 / c).toInt := c12
            have t13 : (v2 + Int32.ofInt 1).toInt = v2.toInt + 1 := j_inc1 (by omega)
            exact j_use hF (ih (v1 - v1 / c) (v2 + Int32.ofInt 1) ts.1 (by omega) (by omega) ((if_neg (show ¬ (v1 - v1 / c).toInt < a.toInt by omega)).symm.trans ht)) (And.intro rfl (And.intro rfl (And.intro rfl (And.intro rfl (And.intro rfl trivial)))))
          · have c12 : ¬ a.toInt ≤ (v1 - v1 / c).toInt := c12
            conv => whnf
            exact ⟨trivial, ⟨Nat.le_of_ble_eq_true rfl, Nat.le_of_ble_eq_true rfl⟩, rfl, by rw [← ht]; exact congrArg (fun z => some (j_i z)) (if_pos (show (v1 - v1 / c).toInt < a.toInt by omega)).symm⟩
        · have c10 : ¬ c.toInt ≤ v1.toInt := c10
          conv => whnf
          exact ⟨trivial, ⟨Nat.le_of_ble_eq_true rfl, Nat.le_of_ble_eq_true rfl⟩, rfl, by rw [← ht]; exact congrArg (fun z => some (j_i z)) (if_pos (show v1.toInt < c.toInt by omega)).symm⟩
  exact j_use hF (L7 3000 (a + b) (Int32.ofInt 0) h0 (by decide) (by decide) rfl) (And.intro rfl (And.intro rfl (And.intro rfl (And.intro rfl (And.intro rfl trivial)))))
