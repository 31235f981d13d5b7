/-! the table, word for word: how many are left; the fewest, the most years -/
def t_left (p : Int32) : Nat → Int32 → Int32
  | 0, l => l
  | n + 1, l => if l.toInt < p.toInt then l else t_left p n (l - l / p)
def t_early (p s : Int32) : Nat → Int32 → Int32 → Int32
  | 0, y, _ => y
  | n + 1, y, l => if l.toInt ≤ s.toInt then y else if l.toInt < p.toInt then Int32.ofInt 3000 else t_early p s n (y + Int32.ofInt 1) (l - l / p)
def t_late (p s : Int32) : Nat → Int32 → Int32 → Int32
  | 0, _, _ => Int32.ofInt 3000
  | n + 1, y, l => if l.toInt < p.toInt then Int32.ofInt 3000 else if (l - l / p).toInt < s.toInt then y else t_late p s n (y + Int32.ofInt 1) (l - l / p)
theorem t_div {l p : Int32} (h0 : 0 ≤ l.toInt) (hp : 2 ≤ p.toInt) : (l / p).toInt = l.toInt / p.toInt := by
  have u := j_ub l
  have a := Int.ediv_nonneg h0 (show (0 : Int) ≤ p.toInt by omega)
  have b : l.toInt / p.toInt ≤ l.toInt := Int.ediv_le_self _ h0
  rw [Int32.toInt_div, Int.tdiv_eq_ediv_of_nonneg h0, Int.bmod_def]
  generalize l.toInt / p.toInt = q at a b ⊢
  omega
theorem t_step {l p : Int32} (h0 : 0 ≤ l.toInt) (hp : 2 ≤ p.toInt) : 0 ≤ (l - l / p).toInt ∧ ((l / p).toInt = 0 ↔ l.toInt < p.toInt) := by
  have u := j_ub l
  have e := t_div h0 hp
  have a := Int.ediv_nonneg h0 (show (0 : Int) ≤ p.toInt by omega)
  have b : l.toInt / p.toInt ≤ l.toInt := Int.ediv_le_self _ h0
  refine ⟨?_, ?_⟩
  · rw [j_subI (by rw [e]; omega) (by rw [e]; omega), e]
    omega
  · rw [e]
    refine ⟨fun z => ?_, fun z => Int.ediv_eq_zero_of_lt h0 z⟩
    by_cases q : l.toInt < p.toInt
    · exact q
    · have := Int.le_ediv_of_mul_le (show (0 : Int) < p.toInt by omega) (show 1 * p.toInt ≤ l.toInt by omega)
      omega
theorem t_clamp {x : Int32} (h : 0 ≤ x.toInt) : x.toInt - (Int32.ofInt 0).toInt = (x.toNatClampNeg : Int) := by
  have e : (Int32.ofInt 0).toInt = 0 := by decide
  rw [e, j_clamp h]
  omega
set_option maxHeartbeats 4000000 in
set_option maxRecDepth 20000 in
theorem c_Table_turnx {h : j_H} {a b : Int32} (ha : 2 ≤ a.toInt) : j_Ct 164 0 0 0 0 [j_i a, j_i b] h (fun v h' => h' = h ∧ v = some (j_i (b / a))) j_no := by
  refine j_intro km_164 (Nat.le_of_ble_eq_true rfl) ?_
  intro J hJ hF
  refine hJ [] 400 _ _ _ _ _ _ ?_
  conv => whnf
  refine ⟨fun c1 => ?_, fun c1 => ?_⟩
  · have c1 : a.toInt ≤ 0 := c1
    omega
  · conv => whnf
    refine ⟨fun z => absurd (j_e0.mp z) (by omega), ?_⟩
    conv => whnf
    exact ⟨trivial, ⟨Nat.le_of_ble_eq_true rfl, Nat.le_of_ble_eq_true rfl⟩, rfl, rfl⟩
set_option maxHeartbeats 4000000 in
set_option maxRecDepth 20000 in
theorem c_Table_leftx {h : j_H} {a b c : Int32} (ha : 2 ≤ a.toInt) (hb : 0 ≤ b.toInt) (hc : 0 ≤ c.toInt) : j_Ct 163 1 21 0 0 [j_i a, j_i b, j_i c] h (fun v h' => h' = h ∧ v = some (j_i (t_left a c.toNatClampNeg b))) j_no := by
  refine j_intro km_163 (Nat.le_of_ble_eq_true rfl) ?_
  intro J hJ hF
  refine hJ [5] 400 _ _ _ _ _ _ ?_
  have L5 : ∀ (n : Nat) (v1 v2 : Int32), 0 ≤ v1.toInt → 0 ≤ v2.toInt → c.toInt - v2.toInt = (n : Int) → t_left a n v1 = t_left a c.toNatClampNeg b → J 5 [some (j_i a), some (j_i b), some (j_i c), some (j_i v1), some (j_i v2), none] [] h 0 0 := by
    intro n
    induction n with
    | zero =>
      intro v1 v2 h1 h2 hn ht
      refine hJ [5] 400 _ _ _ _ _ _ ?_
      conv => whnf
      refine ⟨fun c4 => ?_, fun c4 => ?_⟩
      · conv => whnf
        exact ⟨trivial, ⟨Nat.le_of_ble_eq_true rfl, Nat.le_of_ble_eq_true rfl⟩, rfl, by rw [← ht]; rfl⟩
      · have c4 : ¬ c.toInt ≤ v2.toInt := c4
        omega
    | succ n ih =>
      intro v1 v2 h1 h2 hn ht
      have u2 := j_ub c
      have ts := t_step (p := a) h1 ha
      refine hJ [5] 400 _ _ _ _ _ _ ?_
      conv => whnf
      refine ⟨fun c4 => ?_, fun c4 => ?_⟩
      · have c4 : c.toInt ≤ v2.toInt := c4
        omega
      · conv => whnf
        refine ⟨rfl, _, _, _, _, _, _, c_Table_turnx ha, ⟨Nat.le_of_ble_eq_true rfl, Nat.le_of_ble_eq_true rfl, Nat.le_of_ble_eq_true rfl, Nat.le_of_ble_eq_true rfl⟩, fun _ _ z => False.elim z, ?_⟩
        rintro v9 h9 ⟨e9, rfl⟩
        obtain rfl : h = h9 := e9.symm
        conv => whnf
        refine ⟨fun c6 => ?_, fun c6 => ?_⟩
        · have c6 : ¬ (v1 / a).toInt = 0 := c6
          have t7 : (v2 + Int32.ofInt 1).toInt = v2.toInt + 1 := j_inc1 (by omega)
          exact j_use hF (ih (v1 - v1 / a) (v2 + Int32.ofInt 1) ts.1 (by omega) (by omega) ((if_neg (fun z => c6 (ts.2.mpr z))).symm.trans ht)) (And.intro rfl (And.intro rfl (And.intro rfl (And.intro rfl (And.intro rfl trivial)))))
        · have c6 : ¬ ¬ (v1 / a).toInt = 0 := c6
          conv => whnf
          exact ⟨trivial, ⟨Nat.le_of_ble_eq_true rfl, Nat.le_of_ble_eq_true rfl⟩, rfl, by rw [← ht]; exact congrArg (fun z => some (j_i z)) (if_pos (ts.2.mp (Decidable.not_not.mp c6))).symm⟩
  exact j_use hF (L5 c.toNatClampNeg b (Int32.ofInt 0) hb (by decide) (t_clamp hc) rfl) (And.intro rfl (And.intro rfl (And.intro rfl (And.intro rfl (And.intro rfl trivial)))))
set_option maxHeartbeats 4000000 in
set_option maxRecDepth 20000 in
theorem c_Table_earlyx {h : j_H} {a b c d : Int32} (ha : 2 ≤ a.toInt) (h0 : 0 ≤ ((b + d) + (if Int32.ofInt (0) < (c - d) then (c - d) else Int32.ofInt (0))).toInt) : j_Ct 161 1 21 0 0 [j_i a, j_i b, j_i c, j_i d] h (fun v h' => h' = h ∧ v = some (j_i (t_early a (b + d) 3000 (Int32.ofInt 0) ((b + d) + (if Int32.ofInt (0) < (c - d) then (c - d) else Int32.ofInt (0)))))) j_no := by
  refine j_intro km_161 (Nat.le_of_ble_eq_true rfl) ?_
  intro J hJ hF
  refine hJ [20] 400 _ _ _ _ _ _ ?_
  conv => whnf
  refine ⟨⟨Nat.le_of_ble_eq_true rfl, Nat.le_of_ble_eq_true rfl, Nat.le_of_ble_eq_true rfl, Nat.le_of_ble_eq_true rfl⟩, ?_⟩
  have q4 : ((Int16.ofInt (3000)).toInt32).toInt = 3000 := by decide
  have L20 : ∀ (n : Nat) (v2 v3 : Int32), 0 ≤ v2.toInt → 0 ≤ v3.toInt → 3000 - v3.toInt = (n : Int) → t_early a (b + d) n v3 v2 = t_early a (b + d) 3000 (Int32.ofInt 0) ((b + d) + (if Int32.ofInt (0) < (c - d) then (c - d) else Int32.ofInt (0))) → J 20 [some (j_i a), some (j_i b), some (j_i c), some (j_i d), some (j_i (b + d)), some (j_i v2), some (j_i v3), none] [] h 0 0 := by
    intro n
    induction n with
    | zero =>
      intro v2 v3 h1 h2 hn ht
      refine hJ [20] 400 _ _ _ _ _ _ ?_
      conv => whnf
      refine ⟨fun c5 => ?_, fun c5 => ?_⟩
      · conv => whnf
        refine ⟨trivial, ⟨Nat.le_of_ble_eq_true rfl, Nat.le_of_ble_eq_true rfl⟩, rfl, ?_⟩
        rw [← ht]
        exact congrArg (fun z => some (j_i z)) (Int32.toInt_inj.mp (by rw [q4]; show (3000 : Int) = v3.toInt; omega))
      · have c5 : ¬ ((Int16.ofInt (3000)).toInt32).toInt ≤ v3.toInt := c5
        omega
    | succ n ih =>
      intro v2 v3 h1 h2 hn ht
      have ts := t_step (p := a) h1 ha
      refine hJ [20] 400 _ _ _ _ _ _ ?_
      conv => whnf
      refine ⟨fun c5 => ?_, fun c5 => ?_⟩
      · have c5 : ((Int16.ofInt (3000)).toInt32).toInt ≤ v3.toInt := c5
        omega
      · conv => whnf
        refine ⟨fun c6 => ?_, fun c6 => ?_⟩
        · have c6 : (b + d).toInt < v2.toInt := c6
          have ht := (if_neg (show ¬ v2.toInt ≤ (b + d).toInt by omega)).symm.trans ht
          conv => whnf
          refine ⟨rfl, _, _, _, _, _, _, c_Table_turnx ha, ⟨Nat.le_of_ble_eq_true rfl, Nat.le_of_ble_eq_true rfl, Nat.le_of_ble_eq_true rfl, Nat.le_of_ble_eq_true rfl⟩, fun _ _ z => False.elim z, ?_⟩
          rintro v9 h9 ⟨e9, rfl⟩
          obtain rfl : h = h9 := e9.symm
          conv => whnf
          refine ⟨fun c8 => ?_, fun c8 => ?_⟩
          · have c8 : ¬ (v2 / a).toInt = 0 := c8
            have t9 : (v3 + Int32.ofInt 1).toInt = v3.toInt + 1 := j_inc1 (by omega)
            exact j_use hF (ih (v2 - v2 / a) (v3 + Int32.ofInt 1) ts.1 (by omega) (by omega) ((if_neg (fun z => c8 (ts.2.mpr z))).symm.trans ht)) (And.intro rfl (And.intro rfl (And.intro rfl (And.intro rfl (And.intro rfl (And.intro rfl (And.intro rfl trivial)))))))
          · have c8 : ¬ ¬ (v2 / a).toInt = 0 := c8
            conv => whnf
            exact ⟨trivial, ⟨Nat.le_of_ble_eq_true rfl, Nat.le_of_ble_eq_true rfl⟩, rfl, by rw [← ht]; exact congrArg (fun z => some (j_i z)) (if_pos (ts.2.mp (Decidable.not_not.mp c8))).symm⟩
        · have c6 : ¬ (b + d).toInt < v2.toInt := c6
          conv => whnf
          exact ⟨trivial, ⟨Nat.le_of_ble_eq_true rfl, Nat.le_of_ble_eq_true rfl⟩, rfl, by rw [← ht]; exact congrArg (fun z => some (j_i z)) (if_pos (show v2.toInt ≤ (b + d).toInt by omega)).symm⟩
  exact j_use hF (L20 3000 _ (Int32.ofInt 0) h0 (by decide) (by decide) rfl) (And.intro rfl (And.intro rfl (And.intro rfl (And.intro rfl (And.intro rfl (And.intro rfl (And.intro rfl trivial)))))))
set_option maxHeartbeats 4000000 in
set_option maxRecDepth 20000 in
theorem c_Table_latex {h : j_H} {a b c d : Int32} (ha : 2 ≤ a.toInt) (h0 : 0 ≤ (((if Int32.ofInt (0) < (b - d) then (b - d) else Int32.ofInt (0)) + c) + d).toInt) : j_Ct 162 1 21 0 0 [j_i a, j_i b, j_i c, j_i d] h (fun v h' => h' = h ∧ v = some (j_i (t_late a (if Int32.ofInt (0) < (b - d) then (b - d) else Int32.ofInt (0)) 3000 (Int32.ofInt 0) (((if Int32.ofInt (0) < (b - d) then (b - d) else Int32.ofInt (0)) + c) + d)))) j_no := by
  refine j_intro km_162 (Nat.le_of_ble_eq_true rfl) ?_
  intro J hJ hF
  refine hJ [20] 400 _ _ _ _ _ _ ?_
  conv => whnf
  refine ⟨⟨Nat.le_of_ble_eq_true rfl, Nat.le_of_ble_eq_true rfl, Nat.le_of_ble_eq_true rfl, Nat.le_of_ble_eq_true rfl⟩, ?_⟩
  have q4 : ((Int16.ofInt (3000)).toInt32).toInt = 3000 := by decide
  have L20 : ∀ (s T : Int32), T = t_late a (if Int32.ofInt (0) < (b - d) then (b - d) else Int32.ofInt (0)) 3000 (Int32.ofInt 0) (((if Int32.ofInt (0) < (b - d) then (b - d) else Int32.ofInt (0)) + c) + d) → ∀ (n : Nat) (v2 v3 : Int32), 0 ≤ v2.toInt → 0 ≤ v3.toInt → 3000 - v3.toInt = (n : Int) → t_late a s n v3 v2 = T → J 20 [some (j_i a), some (j_i b), some (j_i c), some (j_i d), some (j_i s), some (j_i v2), some (j_i v3), none] [] h 0 0 := by
    intro s T hT n
    induction n with
    | zero =>
      intro v2 v3 h1 h2 hn ht
      refine hJ [20] 400 _ _ _ _ _ _ ?_
      conv => whnf
      refine ⟨fun c5 => ?_, fun c5 => ?_⟩
      · conv => whnf
        refine ⟨trivial, ⟨Nat.le_of_ble_eq_true rfl, Nat.le_of_ble_eq_true rfl⟩, rfl, ?_⟩
        rw [← hT, ← ht]
        rfl
      · have c5 : ¬ ((Int16.ofInt (3000)).toInt32).toInt ≤ v3.toInt := c5
        omega
    | succ n ih =>
      intro v2 v3 h1 h2 hn ht
      have ts := t_step (p := a) h1 ha
      refine hJ [20] 400 _ _ _ _ _ _ ?_
      conv => whnf
      refine ⟨fun c5 => ?_, fun c5 => ?_⟩
      · have c5 : ((Int16.ofInt (3000)).toInt32).toInt ≤ v3.toInt := c5
        omega
      · conv => whnf
        refine ⟨rfl, _, _, _, _, _, _, c_Table_turnx ha, ⟨Nat.le_of_ble_eq_true rfl, Nat.le_of_ble_eq_true rfl, Nat.le_of_ble_eq_true rfl, Nat.le_of_ble_eq_true rfl⟩, fun _ _ z => False.elim z, ?_⟩
        rintro v9 h9 ⟨e9, rfl⟩
        obtain rfl : h = h9 := e9.symm
        conv => whnf
        refine ⟨fun c7 => ?_, fun c7 => ?_⟩
        · have c7 : ¬ (v2 / a).toInt = 0 := c7
          have ht := (if_neg (fun z => c7 (ts.2.mpr z))).symm.trans ht
          conv => whnf
          refine ⟨fun c8 => ?_, fun c8 => ?_⟩
          · have c8 : s.toInt ≤ (v2 - v2 / a).toInt := c8
            have t9 : (v3 + Int32.ofInt 1).toInt = v3.toInt + 1 := j_inc1 (by omega)
            exact j_use hF (ih (v2 - v2 / a) (v3 + Int32.ofInt 1) ts.1 (by omega) (by omega) ((if_neg (show ¬ (v2 - v2 / a).toInt < s.toInt by omega)).symm.trans ht)) (And.intro rfl (And.intro rfl (And.intro rfl (And.intro rfl (And.intro rfl (And.intro rfl (And.intro rfl trivial)))))))
          · have c8 : ¬ s.toInt ≤ (v2 - v2 / a).toInt := c8
            conv => whnf
            exact ⟨trivial, ⟨Nat.le_of_ble_eq_true rfl, Nat.le_of_ble_eq_true rfl⟩, rfl, by rw [← hT, ← ht]; exact congrArg (fun z => some (j_i z)) (if_pos (show (v2 - v2 / a).toInt < s.toInt by omega)).symm⟩
        · have c7 : ¬ ¬ (v2 / a).toInt = 0 := c7
          conv => whnf
          exact ⟨trivial, ⟨Nat.le_of_ble_eq_true rfl, Nat.le_of_ble_eq_true rfl⟩, rfl, by rw [← hT, ← ht]; exact congrArg (fun z => some (j_i z)) (if_pos (ts.2.mp (Decidable.not_not.mp c7))).symm⟩
  exact j_use hF (L20 _ _ rfl 3000 _ (Int32.ofInt 0) h0 (by decide) (by decide) rfl) (And.intro rfl (And.intro rfl (And.intro rfl (And.intro rfl (And.intro rfl (And.intro rfl (And.intro rfl trivial)))))))
